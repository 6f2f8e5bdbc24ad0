/-! 'throw new E()' -/
/-- the words of a throw, where all that is known all along is known -/
theorem am_ow.at {ic : Nat} {E : String} (hw : am_ow ic E) {G : am_G} {args : Array Value} {s : State} (hts : ∀ w ∈ am_tbl, w.before args s = true) (hT : am_Tw (am_A G) s) (hE : E = eA ∨ E = eS ∨ E = eI ∨ E = eN) : ∀ w ∈ Bundle.ownAtoms0 "RetraceDesk" ic E am_nm, w.before args s = true := by
  obtain ⟨t1, t2, -, t5, t6, t7, t8⟩ := hT
  intro w hm
  rcases hw w hm with h | h
  · exact hts w h
  · have code : ∀ (X : String), (Cond.instanceMethod (Bundle.init0 X) ∈ am_tbl ∨ Cond.instanceMethod (Bundle.init0 X) ∈ am_sp E) → (∃ (b : ByteArray), Cond.code (Bundle.init0 X) b 1 none ∈ am_tbl ∨ Cond.code (Bundle.init0 X) b 1 none ∈ am_sp E) → (Cond.declares (Bundle.init0 X)).before args s = true := by
      intro X h1 ⟨b, h2⟩
      have n1 : Cond.instanceMethod (Bundle.init0 X) ∉ am_sp E := by simp [am_sp]
      have n2 : Cond.code (Bundle.init0 X) b 1 none ∉ am_sp E := by simp [am_sp]
      exact am_decl (hts _ (h1.resolve_right n1)) (hts _ (h2.resolve_right n2))
    have c1 := code "java/lang/RuntimeException" (hw _ (by simp [Bundle.ownAtoms0, Bundle.chain0Atoms, Bundle.passAtoms, am_nm])) ⟨Bundle.five, hw _ (by simp [Bundle.ownAtoms0, Bundle.chain0Atoms, Bundle.passAtoms, am_nm])⟩
    have c2 := code "java/lang/Exception" (hw _ (by simp [Bundle.ownAtoms0, Bundle.chain0Atoms, Bundle.passAtoms, am_nm])) ⟨Bundle.five, hw _ (by simp [Bundle.ownAtoms0, Bundle.chain0Atoms, Bundle.passAtoms, am_nm])⟩
    have c3 := code Bundle.tN (hw _ (by simp [Bundle.ownAtoms0, Bundle.chain0Atoms, Bundle.passAtoms, am_nm])) ⟨_, hw _ (List.mem_append_left _ (List.mem_append_left _ (List.mem_of_getElem? (i := 7) rfl)))⟩
    have c4 : (Cond.castable E E).before args s = true := by
      rcases hE with rfl | rfl | rfl | rfl
      · exact va_Nw.use rfl t5
      · exact va_Nw.use rfl t6
      · exact va_Nw.use rfl t7
      · exact va_Nw.use rfl t8
    simp only [am_sp, List.mem_cons, List.not_mem_nil, or_false] at h
    rcases h with rfl | rfl | rfl | rfl | rfl | rfl | rfl | rfl
    · exact c1
    · exact c2
    · exact c3
    · exact c4
    · exact am_lsA t1.2
    · exact am_lsA t2.2
    · exact am_isref t1.1
    · exact am_isref t2.1
/-- new, dup, the constructor, athrow, from a start of its own -/
theorem am_throwW {p : Program} {l : Launch} {e : Env} {fr lo : Nat} {s' : State} {m : MethodId} {args : Array Value} {below : List Frame} {meth : Method} {c : Code} {cc : ByteArray} {T : State} {H : Heap} {ls : Array Slot} {pc ix ic : Nat} {E : String} (hx : p.tables.exec = Jvm.exec) (hb : c.code = cc) (hls : ls.size = c.maxLocals) (hown : s'.vm.findClass "RetraceDesk" = some m.cls) (w1 : (Cond.classLink "RetraceDesk" ix E).before args s' = true) (w2 : (Cond.instantiable E 6).before args s' = true) (w3 : (Cond.initialized E).before args s' = true) (hd0 : decode cc pc = .ok (.new ix, 3)) (hd3 : decode cc (pc + 3) = .ok (.dup, 1)) (hd4 : decode cc (pc + 3 + 1) = .ok (.invokespecial ic, 3)) (hd7 : decode cc (pc + 3 + 1 + 3) = .ok (.athrow, 1)) (hE : Bundle.fit E = true) (htr : l.stackTraces = false) (hat : ∀ w ∈ Bundle.ownAtoms0 "RetraceDesk" ic E am_nm, w.before args s' = true) (hhp : s'.heap = H) (hexc : ∀ x ∈ c.exceptionTable.toList, covers x (pc + 3 + 1 + 3) = false) (hrm : 5 < fr ∧ 88 ≤ lo) (h6 : meth.locks = false) (hT : T.heap = H) (Y0 : Stand p l e { frames := fr, cells := 1, slots := 6, locals := lo } s' m args below meth c T [] 0 0) :
    ∃ t, Steps p.tables e below (T.setTop (F0 m pc ls [])) t ∧ ∃ (x : Addr) (cell : Cell), t.status = .running ∧ Ended t below (.threw x) ∧ s'.WarmedH t.vm ∧ s'.sameButNew ({ t with vm := s'.vm } : State) [] 1 6 ∧ t.heap[x]? = some cell ∧ cell.vm = .none ∧ s'.vm.findClass E = some cell.cls := by
  have hfitN : ∀ n ∈ am_nm, Bundle.fit n = true := by decide
  have hnew : s'.heap.size ≤ H.size := by rw [hhp]; exact Nat.le_refl _
  have step : W p l e { frames := fr, cells := 1, slots := 6, locals := lo } s' m args below meth c H [] 0 0 (fun t => ∃ (x : Addr) (cell : Cell), t.status = .running ∧ Ended t below (.threw x) ∧ s'.WarmedH t.vm ∧ s'.sameButNew ({ t with vm := s'.vm } : State) [] 1 6 ∧ t.heap[x]? = some cell ∧ cell.vm = .none ∧ s'.vm.findClass E = some cell.cls) (F0 m pc ls []) := by
    refine W.newc (own := "RetraceDesk") (C := E) (index := ix) (n := 6) hx hb hown w1 w2 w3 (g := F0 m pc ls []) rfl hd0 (Nat.le_refl _) (Nat.le_refl _) (fun cC kC hcC hkC hord hsz => ?_)
    refine lv_dup hx hb hd3 rfl ?_
    intro T1 hT1 Y1
    obtain ⟨U, u1, u2, u3, u4, u5, ce, u6, u7⟩ := Y1.ctorThrow0 hx (by rw [Y1.admits.platform]; exact htr) (own := "RetraceDesk") (cls := E) (names := am_nm) (ic := ic) hown hE hfitN hat (fun x hx => by cases hx) (a := H.size) (cX := cC) (kX := kC) hcC hkC (by rw [hT1]; exact Array.getElem?_push_size) hnew (g := F0 m (pc + 3 + 1) ls [.ref H.size, .ref H.size]) rfl hls rfl rfl (rest := []) rfl (by rw [hb]; exact hd4) (by rw [hb]; exact hd7) hexc hrm.1 (by
      have := hrm.2
      show 2 * 0 + 1 + (13 * (2 + 1) + 41) ≤ lo
      omega) h6
    exact ⟨U, u1, H.size, ce, u2, u3, u4, u5, u6, u7.vm, u7.cls⟩
  exact step T hT Y0
section AmThrow2
variable {X : am_C} {own : String} {cc : ByteArray} {pc : Nat} {L st st0 : List Value} {h : am_H} {cs sl cs' sl' : Nat} {l : Launch} {G : am_G} {M M0 : am_D} {as : List Value} {E : String} {P P0 : am_H → Prop}
/-- the heap that a throw leaves: what was there is there -/
theorem am_W.more {G : am_G} {ad : List Nat} {h : am_H} {H H1 : Heap} (w : am_W G ad h H) (hk : ∀ q : Nat, q < H.size → H1[q]? = H[q]?) : am_W G ad h H1 := by
  obtain ⟨ws, w1, w2, w3, hP, hD⟩ := w
  exact ⟨ws, w1, w2, w3, hP.kept (fun k x hx => hk x.1 ((hP k x hx).lt)), hD⟩
theorem am_throw (hB : am_B X "RetraceDesk" cc) (hR : am_RT X l G M E P) (htr : l.stackTraces = false) {ix ic : Nat} (hd0 : decode cc pc = .ok (.new ix, 3)) (hd3 : decode cc (pc + 3) = .ok (.dup, 1)) (hd4 : decode cc (pc + 3 + 1) = .ok (.invokespecial ic, 3)) (hd7 : decode cc (pc + 3 + 1 + 3) = .ok (.athrow, 1)) (hE : (E = eA ∨ E = eS ∨ E = eI ∨ E = eN) ∧ Bundle.fit E = true) (hcl : Cond.classLink "RetraceDesk" ix E ∈ am_tbl) (hini : Cond.initialized E ∈ am_tbl) (hw : am_ow ic E) (hrm : 5 < M.2.2.2.2.frames ∧ 88 ≤ M.2.2.2.2.locals) (hcl2 : cs + 1 ≤ M.2.2.2.2.cells ∧ sl + 6 ≤ M.2.2.2.2.slots) (hp : P h) : am_Z X pc L [] h cs sl := by
  obtain ⟨p, l, e, R, s, m, args, below, meth, c, Q, G, ad0, nL⟩ := X
  obtain ⟨hx, hb, hml, ho, hts, hK, hfl, hG⟩ := hB
  obtain ⟨⟨rfl, rfl, rfl, rfl, h5, h6, h7⟩, hno, rfl⟩ := hR
  intro H locs ad ls st' a1 a2 a3 a4 a5
  rw [show st' = [] from a5]
  intro T hT Y
  have Y0 := am_rebase Y (k := 1) (n := 6) hcl2.1 hcl2.2
  generalize hs' : T.setFrames (.invoking m args :: below) = s' at Y0
  have hvm : s'.vm = T.vm := by rw [← hs']; rfl
  have hhp : s'.heap = H := by rw [← hs', ← hT]; rfl
  have hW' : s.WarmedH s'.vm := by rw [hvm]; exact Y.warmed
  have hts' : ∀ w ∈ am_tbl, w.before args s' = true := fun w hw => word_at hW' (am_good w hw).2 (hts w hw)
  have hTw : am_Tw (am_A G) s' := (am_K.warm (U := s') (locs := locs) hW' (by rw [hhp]; exact a3) hG).tw
  have hat := hw.at (args := args) hts' hTw hE.1
  have hown : s'.vm.findClass "RetraceDesk" = some m.cls := by rw [hW'.alike.findClass]; exact ho
  have hinst : (Cond.instantiable E 6).before args s' = true := hat _ (by simp [Bundle.ownAtoms0])
  have hexc : ∀ x ∈ c.exceptionTable.toList, covers x (pc + 3 + 1 + 3) = false := fun x hx => by
    have : c.exceptionTable.toList = [] := by simpa using hno
    rw [this] at hx
    cases hx
  have hfitN : ∀ n ∈ am_nm, Bundle.fit n = true := by decide
  have key := am_throwW (T := T) (H := H) (ls := ls) hx hb (by rw [hml]; exact a4.1) hown (hts' _ hcl) hinst (hts' _ hini) hd0 hd3 hd4 hd7 hE.2 htr hat hhp hexc hrm h6 hT Y0
  obtain ⟨t, k1, x, cell, k2, k3, k4, k5, k6, k7, k8⟩ := key
  have hkept : ∀ q : Nat, q < H.size → t.heap[q]? = H[q]? := fun q hq => by
    have hc : s'.heap[q]? = some (H[q]'hq) := by rw [hhp]; exact Array.getElem?_eq_getElem hq
    have := k5.kept_nil hc
    rw [Array.getElem?_eq_getElem hq]
    exact this
  have hsz : H.size ≤ t.heap.size := by
    have := k5.2.1
    rw [hhp] at this
    exact this
  refine ⟨t, k1, .threw x, k2, k3, ⟨⟨ad, h, x, cell, hp, a1, a2.more hkept, rfl, k6, k7, ?_⟩, Nat.le_trans a3.1 hsz, fun q h1 h2 => (hkept q (Nat.lt_of_lt_of_le h1 a3.1)).trans (a3.2.1 q h1 h2)⟩, locs, ⟨⟨x, rfl⟩, ?_, ?_⟩, a3.2.2⟩
  · rw [← hW'.alike.findClass]
    exact k8
  · have h9 : T.WarmedH t.vm := by
      have := k4
      rw [← hs'] at this
      exact this
    exact State.WarmedH.trans Y.warmed h9
  · have h9 : T.sameButNew (t.setVm T.vm) [] 1 6 := by
      have := k5
      rw [← hs'] at this
      exact State.sameButNew.of_setFrames this
    have h10 := Y.same.trans (h9.setVm s.vm)
    rw [List.append_nil] at h10
    exact h10.mono hcl2.1 hcl2.2
end AmThrow2
