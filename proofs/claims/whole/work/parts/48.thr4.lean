/-! methods with handlers -/
abbrev am_tbH : Type := List (Nat × Nat × Nat × Nat)
def am_Tb (X : am_C) (tb : am_tbH) : Prop := match X with
  | (_, _, _, _, _, _, _, _, _, c, _, _, _, _) => c.exceptionTable.toList.map (fun h => (h.startPc, h.endPc, h.handlerPc, h.catchType)) = tb
def am_Mw (l : Launch) (G : am_G) (M : am_D) (tb : am_tbH) (as : List Value) (h : am_H) (P : am_Y) : Prop := ∀ (ad : List Nat) (av : List Value), am_S G ad as av → Met l M.1 (Cond.codeWith M.1 M.2.1 M.2.2.1 M.2.2.2.1 tb :: am_tbl) M.2.2.2.2 (am_Pc G ad h av) (am_Qc G ad P) M.2.2.2.2.cells M.2.2.2.2.slots (am_A G)
theorem am_Mw.of {l : Launch} {G : am_G} {M : am_D} {tb : am_tbH} {as : List Value} {h : am_H} {P : am_Y} (hy : plainName M.1.cls = true) (hn : (am_fl as).length ≤ M.2.2.1) (body : ∀ X : am_C, am_B X M.1.cls M.2.1 → am_R X l G M P → am_Tb X tb → am_Z X 0 (am_ent as M.2.2.1) [] h 0 0) : am_Mw l G M tb as h P := by
  intro ad av hS
  refine va_MetW (cc := M.2.1) (maxL := M.2.2.1) (ret := M.2.2.2.1) (hh := tb) (ws' := am_tbl) hy rfl ?_
  intro p e s m args below meth c s₁ B hml hv
  obtain ⟨rfl, hW, hK, hfl, hG⟩ := hv
  have hts := atoms_spec (ws := Cond.codeWith M.1 M.2.1 M.2.2.1 M.2.2.2.1 tb :: am_tbl) B.pre
  have hown := findClass_of_methodNamed B.named
  have hnm := (name_of_methodNamed B.named B.method).1
  have htb : c.exceptionTable.toList.map (fun h => (h.startPc, h.endPc, h.handlerPc, h.catchType)) = tb := by
    obtain ⟨m9, meth9, c9, hn9, h1, h2, -, -, h3, -⟩ := Cond.codeWith_spec (hts _ List.mem_cons_self)
    cases B.named.symm.trans hn9
    cases B.method.symm.trans h1
    cases (Stand.of_body B).code.symm.trans h2
    exact h3
  have Z := body (p, l, e, (headSpec (Cond.codeWith M.1 M.2.1 M.2.2.1 M.2.2.2.1 tb :: am_tbl) M.2.2.2.2).room, s, m, av.toArray, below, meth, c, MQ below (am_Qc G ad P) av.toArray s M.2.2.2.2.cells M.2.2.2.2.slots (am_A G), G, ad, M.2.2.1) ⟨B.exec, B.bytes, hml, hown, fun w hw => hts w (List.mem_cons_of_mem _ hw), hK, hfl, hG⟩ ⟨rfl, rfl, rfl, rfl, B.returns, B.notSynchronized, hnm, rfl⟩ htb
  rw [lg_entry_eq]
  exact Z s.heap [] ad _ [] am_X.rf hW va_S.rf (am_ent_L hS hn) rfl
section AmWith
variable {X : am_C} {own : String} {cc : ByteArray} {pc : Nat} {L st st0 : List Value} {h : am_H} {cs sl cs' sl' : Nat} {l : Launch} {G : am_G} {M M0 : am_D} {as : List Value} {E : String} {P : am_H → Prop} {P0 P1 : am_Y}
/-- a static call of a method with handlers -/
def am_cW (own : String) (index : Nat) (M : am_D) (tb : am_tbH) (n : Nat) : Prop := Cond.methodLink own index M.1 ∈ am_tbl ∧ Cond.initialized M.1.cls ∈ am_tbl ∧ Cond.codeWith M.1 M.2.1 M.2.2.1 M.2.2.2.1 tb ∈ am_tbl ∧ (M.1.cls ≠ "java/lang/invoke/MethodHandle" ∧ M.1.cls ≠ "java/lang/invoke/VarHandle") ∧ (parseMethodDescriptor M.1.desc).map (fun d => d.parameters.length) = some n ∧ Cond.static M.1 ∈ am_tbl
theorem am_callW (hB : am_B X own cc) (hR : am_R X l G M0 P0) {index n : Nat} {tb : am_tbH} (hM : am_Mw l G M tb as h P1) (hc : am_cW own index M tb n) (hn : as.length = n) (hst : st0 = as.reverse ++ st) (hdg : decode cc pc = .ok (.invokestatic index, 3)) (hrm : (M.2.2.2.2.frames + 1 ≤ M0.2.2.2.2.frames ∧ 8 + (M.2.2.1 + 11) + M.2.2.2.2.locals ≤ M0.2.2.2.2.locals) ∧ am_wd st ≤ 8) (hcl : cs + M.2.2.2.2.cells ≤ M0.2.2.2.2.cells ∧ sl + M.2.2.2.2.slots ≤ M0.2.2.2.2.slots) (hcs : cs + M.2.2.2.2.cells = cs') (hsl : sl + M.2.2.2.2.slots = sl') (kk : ∀ r h', P1 r h' → am_Z X (pc + 3) L (r.toList ++ st) h' cs' sl') : am_Z X pc L st0 h cs sl := by
  subst hst
  subst hcs
  subst hsl
  obtain ⟨p, l, e, R, s, m, args, below, meth, c, Q, G, ad0, nL⟩ := X
  obtain ⟨hx, hb, hml, ho, hts, hK, hfl, hG⟩ := hB
  obtain ⟨rfl, rfl, rfl, rfl, -⟩ := hR
  obtain ⟨c1, c2, c3, c4, c5, c6⟩ := hc
  intro H locs ad ls st' a1 a2 a3 a4 a5
  obtain ⟨av, rv, rfl, hav, hrv⟩ := a5.split
  have hS : am_S G ad as av.reverse := by have := hav.rev; rwa [List.reverse_reverse] at this
  have hl : av.reverse.length = n := by rw [List.length_reverse, hav.len, List.length_reverse]; exact hn
  have hp := am_pre (av := av.reverse) a2 hK hfl hG a3
  have hgin : GoodIn am_tbl (Cond.codeWith M.1 M.2.1 M.2.2.1 M.2.2.2.1 tb :: am_tbl) := fun w hw => by
    rcases List.mem_cons.mp hw with rfl | hw
    · exact am_good _ c3
    · exact am_good _ hw
  have hback : Back l M0.2.2.2.2 p e below s args M.1 3 8 (PreOf M0.2.2.2.2 M.2.2.2.2.cells M.2.2.2.2.slots (am_Pc G ad h av.reverse)) (PostOf (am_Qc G ad P1) M.2.2.2.2.cells M.2.2.2.2.slots (am_A G)) :=
    va_backW (hh := tb) (bytes := M.2.1) (maxL := M.2.2.1) (ret := M.2.2.2.1) (hM ad _ hS) am_blind rfl rfl hrm.1.1 hrm.1.2 (pay_in hts hgin) List.mem_cons_self (fun a' U hW => word_at hW (am_good _ c2).2 (hts _ c2))
  have hrun : va_Run p l e M0.2.2.2.2 s m args below meth c H locs cs sl M.2.2.2.2.cells M.2.2.2.2.slots (F0 m pc ls (av ++ rv)) rv (am_Qc G ad P1 av.reverse.toArray) (am_A G) := by
    intro T hT Y
    obtain ⟨mk, methM, cM, hnamed, hmethM, -, -, -, -, -, -, hsig⟩ := Cond.codeWith_spec (hts _ c3)
    have hstatic : methM.isStatic = true := Cond.static_spec hnamed hmethM (hts _ c6)
    obtain ⟨kP, hkP, -⟩ := className_of_methodNamed hnamed
    have hinitP : kP.init = .initialized := Cond.initialized_spec (findClass_of_methodNamed hnamed) hkP (hts _ c2)
    obtain ⟨vm₁, X₁, hstep₁⟩ := Y.invokestatic hx ho (hts _ c1) hnamed hmethM hstatic hkP hinitP c4 (g := F0 m pc ls (av ++ rv)) rfl (argsL := av.reverse) (rest := rv) (by rw [hl]; rw [hsig] at c5; exact (Option.some.inj c5).symm) (by rw [List.reverse_reverse]) (by rw [hb]; exact hdg)
    obtain ⟨v, ⟨U', L', cB, sB⟩, X', ⟨g', mk', t, Lc, e1, e2, hq, h1, hL, h2, h3⟩, hsteps⟩ := hback m meth c ⟨T.setVm vm₁, locs, cs, sl⟩ (F0 m pc ls rv) (.invokestatic index) mk av.reverse.toArray X₁ rfl (by rw [hml]; exact a4.1) (by rw [hb]; exact hdg) (am_rm (l := l) hrv hrm.2) (X₁.named hnamed) ⟨hcl.1, hcl.2, hp.2 (T.setVm vm₁) hT X₁.warmed⟩
    dsimp only [Jvm.Free.Pt.U, Jvm.Free.Pt.locs, Jvm.Free.Pt.cells, Jvm.Free.Pt.slots] at X' e1 e2 h1 h2 h3 hsteps
    subst h1; subst h2; subst h3
    exact ⟨v, (T.setVm vm₁).calling g' mk' av.reverse.toArray, t, U', Lc, hT, X', hL, e1, e2, hq, fun target hh => hstep₁ _ fun acts => by rw [doInvoke_state]; exact hsteps.trans hh⟩
  exact am_go hrun a1 a3 a4 hrv kk
/-- into the handler: the entries before it are passed -/
theorem am_catV (hB : am_B X own cc) (hR : am_R X l G M0 P0) {tb pre rest : am_tbH} {h1 h2 h3 h4 : Nat} (hTb : am_Tb X tb) (htb : tb = pre ++ (h1, h2, h3, h4) :: rest) (hpass : ∀ y ∈ pre, ∃ N : String, y.2.2.2 ≠ 0 ∧ Cond.classLink own y.2.2.2 N ∈ am_tbl ∧ ∀ U : State, am_Tw (am_A G) U → am_nc E N U) (hcov : h1 ≤ pc ∧ pc < h2) (h40 : h4 ≠ 0) (hcl : Cond.classLink own h4 E ∈ am_tbl) (hEE : ∀ U : State, am_Tw (am_A G) U → va_Nw (.castable E E) U)
    {index n k ci : Nat} {fs : List Value} (hk : h[k]? = some (.inr (ci, fs))) (hM : am_T l G M (.ref k :: as) h E P) (hc : am_cV own index ci M n) (hn : as.length = n) (hst : st0 = as.reverse ++ .ref k :: st) (hdg : decode cc pc = .ok (.invokevirtual index, 3)) (hrm : (M.2.2.2.2.frames + 1 ≤ M0.2.2.2.2.frames ∧ 8 + (M.2.2.1 + 11) + M.2.2.2.2.locals ≤ M0.2.2.2.2.locals) ∧ am_wd st ≤ 8) (hcl2 : cs + M.2.2.2.2.cells ≤ M0.2.2.2.2.cells ∧ sl + M.2.2.2.2.slots ≤ M0.2.2.2.2.slots) (hcs : cs + M.2.2.2.2.cells = cs') (hsl : sl + M.2.2.2.2.slots = sl') (kk : ∀ h', P h' → am_Z X h3 L [.double 1] h' cs' sl') : am_Z X pc L st0 h cs sl := by
  subst hst
  subst hcs
  subst hsl
  obtain ⟨p, l, e, R, s, m, args, below, meth, c, Q, G, ad0, nL⟩ := X
  obtain ⟨hx, hb, hml, ho, hts, hK, hfl, hG⟩ := hB
  obtain ⟨rfl, rfl, rfl, rfl, -⟩ := hR
  have hTw := hG.tw
  intro H locs ad ls st' a1 a2 a3 a4 a5
  obtain ⟨av, rv, rfl, hav, hrv⟩ := a5.split
  obtain ⟨_, rs, rfl, ⟨a, ha, rfl⟩, hrs⟩ := hrv
  have hS : am_S G ad (.ref k :: as) (.ref a :: av.reverse) := ⟨_, _, rfl, ⟨a, ha, rfl⟩, by have := hav.rev; rwa [List.reverse_reverse] at this⟩
  have hl : av.reverse.length = n := by rw [List.length_reverse, hav.len, List.length_reverse]; exact hn
  intro T hT Y
  obtain ⟨v, T', Lc, ad', h', cell, X', hS', q, x1, x2, x4, x5, x6, stp⟩ := am_thrV hx hb (by rw [hml]; exact a4.1) ho hts hK hfl hG a2 a3 hk hM hc hS hl hdg hrm.1.1 hrm.1.2 (am_rm (l := l) hrs hrm.2) hcl2 T hT Y
  rw [List.reverse_reverse] at stp
  have hTb' : c.exceptionTable.toList.map (fun h => (h.startPc, h.endPc, h.handlerPc, h.catchType)) = pre ++ (h1, h2, h3, h4) :: rest := Eq.trans hTb htb
  rw [List.map_eq_append_iff] at hTb'
  obtain ⟨pre', tl', hsp, hpre, htl⟩ := hTb'
  rw [List.map_eq_cons_iff] at htl
  obtain ⟨x, rest', rfl, hx', hrest⟩ := htl
  simp only [Prod.mk.injEq] at hx'
  obtain ⟨y1, y2, y3, y4⟩ := hx'
  have hpl : e.platform.magicAccessors = ({} : Platform).magicAccessors := by rw [Y.admits.platform]
  obtain ⟨c3, c4, hc3, hc4, hasg⟩ := Cond.castable_spec (va_Nw.use (A := args) rfl (hEE s hTw))
  cases hc3.symm.trans x6
  cases hc4.symm.trans x6
  obtain ⟨hend, hk0⟩ := X'.catches_of_link (own := own) (name := E) ho (x := x) (by rw [y4]; exact h40) (by rw [y4]; exact hts _ hcl) x6 hasg
  obtain ⟨vm', XV, st2⟩ := X'.thenCaughtThrough v (g := F0 m pc ls rs) rfl stp x4 (by rw [x5]; rfl) hk0 pre' x rest' hsp (fun y hy => by
    have hy' : (y.startPc, y.endPc, y.handlerPc, y.catchType) ∈ pre := by
      rw [← hpre]
      exact List.mem_map_of_mem hy
    obtain ⟨N, n1, n2, n3⟩ := hpass _ hy'
    exact RowPassed.of_words hpl ho n1 (hts _ n2) x6 (n3 s hTw).use) (by
      unfold covers
      simp only [y1, y2]
      simp only [Bool.and_eq_true, decide_eq_true_eq]
      exact hcov) hend
  obtain ⟨t2, b1, b2⟩ := kk h' q T'.heap (locs ++ Lc) ad' ls [.ref v] (a1.tr x1) x2 hS' (a4.mono x1) ⟨_, _, rfl, ⟨v, rfl⟩, rfl⟩ (T'.setVm vm') rfl XV
  have e3 : ({ F0 m pc ls rs with pc := x.handlerPc, stack := [.ref v] } : JFrame) = F0 m h3 ls [.ref v] := by rw [y3]
  rw [e3] at st2
  exact ⟨t2, st2.trans b1, b2⟩
end AmWith
