/-! the calls once more, whatever the walk is to end with -/
theorem am_RT.r0 {X : am_C} {l : Launch} {G : am_G} {M : am_D} {E : String} {P : am_H → Prop} (h : am_RT X l G M E P) : am_R0 X l G M := h.1
theorem am_R.r0 {X : am_C} {l : Launch} {G : am_G} {M : am_D} {P : am_Y} (h : am_R X l G M P) : am_R0 X l G M := by
  obtain ⟨p, l, e, R, s, m, args, below, meth, c, Q, G, ad0, nL⟩ := X
  obtain ⟨h1, h2, h3, h4, h5, h6, h7, -⟩ := h
  exact ⟨h1, h2, h3, h4, h5, h6, h7⟩
theorem am_R0.nL {X : am_C} {l : Launch} {G : am_G} {M : am_D} (hR : am_R0 X l G M) : X.2.2.2.2.2.2.2.2.2.2.2.2.2 = M.2.2.1 := by
  obtain ⟨p, l, e, R, s, m, args, below, meth, c, Q, G, ad0, nL⟩ := X
  exact hR.2.2.2.1
theorem am_R0.room {X : am_C} {l : Launch} {G : am_G} {M : am_D} (hR : am_R0 X l G M) : X.2.2.2.1 = M.2.2.2.2 := by
  obtain ⟨p, l, e, R, s, m, args, below, meth, c, Q, G, ad0, nL⟩ := X
  exact hR.2.2.1
section AmCalls0
variable {X : am_C} {own : String} {cc : ByteArray} {pc : Nat} {L st st0 : List Value} {h : am_H} {cs sl cs' sl' : Nat} {l : Launch} {G : am_G} {M M0 : am_D} {P : am_Y} {as : List Value}
theorem am_callS0 (hB : am_B X own cc) (hR : am_R0 X l G M0) {index n : Nat} (hM : am_M l G M (as) h P) (hc : am_cS own index M n) (hn : as.length = n) (hst : st0 = as.reverse ++ st) (hdg : decode cc pc = .ok (.invokestatic index, 3)) (hrm : (M.2.2.2.2.frames + 1 ≤ M0.2.2.2.2.frames ∧ 8 + (M.2.2.1 + 11) + M.2.2.2.2.locals ≤ M0.2.2.2.2.locals) ∧ am_wd st ≤ 8) (hcl : cs + M.2.2.2.2.cells ≤ M0.2.2.2.2.cells ∧ sl + M.2.2.2.2.slots ≤ M0.2.2.2.2.slots) (hcs : cs + M.2.2.2.2.cells = cs') (hsl : sl + M.2.2.2.2.slots = sl') (kk : ∀ r h', P r h' → am_Z X (pc + 3) L (r.toList ++ st) h' cs' sl') : am_Z X pc L st0 h cs sl := by
  subst hst
  subst hcs
  subst hsl
  obtain ⟨p, l, e, R, s, m, args, below, meth, c, Q, G, ad0, nL⟩ := X
  obtain ⟨hx, hb, hml, ho, hts, hK, hfl, hG⟩ := hB
  obtain ⟨rfl, rfl, rfl, rfl, -⟩ := hR
  obtain ⟨⟨c1, c2, c3, c4, c5, c6⟩, c7⟩ := hc
  intro H locs ad ls st' a1 a2 a3 a4 a5
  obtain ⟨av, rv, rfl, hav, hrv⟩ := a5.split
  have hS : am_S G ad as av.reverse := by have := hav.rev; rwa [List.reverse_reverse] at this
  have hl : av.reverse.length = n := by rw [List.length_reverse, hav.len, List.length_reverse]; exact hn
  have hB := callB_of (R := M0.2.2.2.2) (s := s) (args := args) (own := own) (index := index) n hts (am_gin c3) rfl rfl rfl (hts _ c2) (hts _ c1) ⟨c4, c5, c6⟩ hrm.1
  have hp := am_pre (av := av.reverse) a2 hK hfl hG a3
  exact am_go (va_runS (As := av.reverse) (rest := rv) ⟨hx, hb, hml, ho, hts⟩ (hM ad _ hS) ⟨hB, hts _ c7⟩ hp rfl hl a4.1 (by simp) (am_rm (l := l) hrv hrm.2) hdg hcl) a1 a3 a4 hrv kk
theorem am_callI0 (hB : am_B X own cc) (hR : am_R0 X l G M0) {index n : Nat} {k : Nat} (hM : am_M l G M (.ref k :: as) h P) (hc : am_cI own index M n ∧ M.2.2.2.1 = none) (hn : as.length = n) (hst : st0 = as.reverse ++ .ref k :: st) (hdg : decode cc pc = .ok (.invokespecial index, 3)) (hrm : (M.2.2.2.2.frames + 1 ≤ M0.2.2.2.2.frames ∧ 8 + (M.2.2.1 + 11) + M.2.2.2.2.locals ≤ M0.2.2.2.2.locals) ∧ am_wd st ≤ 8) (hcl : cs + M.2.2.2.2.cells ≤ M0.2.2.2.2.cells ∧ sl + M.2.2.2.2.slots ≤ M0.2.2.2.2.slots) (hcs : cs + M.2.2.2.2.cells = cs') (hsl : sl + M.2.2.2.2.slots = sl') (kk : ∀ r h', P r h' → am_Z X (pc + 3) L (r.toList ++ st) h' cs' sl') : am_Z X pc L st0 h cs sl := by
  subst hst
  subst hcs
  subst hsl
  obtain ⟨p, l, e, R, s, m, args, below, meth, c, Q, G, ad0, nL⟩ := X
  obtain ⟨hx, hb, hml, ho, hts, hK, hfl, hG⟩ := hB
  obtain ⟨rfl, rfl, rfl, rfl, -⟩ := hR
  obtain ⟨⟨⟨c1, c2, c3, c4, c5, c6⟩, c7, c8⟩, c9⟩ := hc
  obtain ⟨y, bt, mL, rt, rm⟩ := M
  obtain rfl : rt = none := c9
  intro H locs ad ls st' a1 a2 a3 a4 a5
  obtain ⟨av, rv, rfl, hav, hrv⟩ := a5.split
  obtain ⟨_, rs, rfl, ⟨a, ha, rfl⟩, hrs⟩ := hrv
  have hS : am_S G ad (.ref k :: as) (.ref a :: av.reverse) := ⟨_, _, rfl, ⟨a, ha, rfl⟩, by have := hav.rev; rwa [List.reverse_reverse] at this⟩
  have hl : av.reverse.length = n := by rw [List.length_reverse, hav.len, List.length_reverse]; exact hn
  have hB := callB_of (R := M0.2.2.2.2) (s := s) (args := args) (own := own) (index := index) n hts (am_gin c3) rfl rfl rfl (hts _ c2) (hts _ c1) ⟨c4, c5, c6⟩ hrm.1
  have hp := am_pre (av := .ref a :: av.reverse) a2 hK hfl hG a3
  exact am_go (va_runI (As := av.reverse) (rest := rs) (b := a) ⟨hx, hb, hml, ho, hts⟩ (hM ad _ hS) ⟨hB, c7, hts _ c8⟩ hp rfl hl a4.1 (by simp) (am_rm (l := l) hrs hrm.2) hdg hcl) a1 a3 a4 hrs kk
theorem am_callV0 (hB : am_B X own cc) (hR : am_R0 X l G M0) {index n : Nat} {k ci : Nat} {fs : List Value} (hk : h[k]? = some (.inr (ci, fs))) (hM : am_M l G M (.ref k :: as) h P) (hc : am_cV own index ci M n) (hn : as.length = n) (hst : st0 = as.reverse ++ .ref k :: st) (hdg : decode cc pc = .ok (.invokevirtual index, 3)) (hrm : (M.2.2.2.2.frames + 1 ≤ M0.2.2.2.2.frames ∧ 8 + (M.2.2.1 + 11) + M.2.2.2.2.locals ≤ M0.2.2.2.2.locals) ∧ am_wd st ≤ 8) (hcl : cs + M.2.2.2.2.cells ≤ M0.2.2.2.2.cells ∧ sl + M.2.2.2.2.slots ≤ M0.2.2.2.2.slots) (hcs : cs + M.2.2.2.2.cells = cs') (hsl : sl + M.2.2.2.2.slots = sl') (kk : ∀ r h', P r h' → am_Z X (pc + 3) L (r.toList ++ st) h' cs' sl') : am_Z X pc L st0 h cs sl := by
  subst hst
  subst hcs
  subst hsl
  obtain ⟨p, l, e, R, s, m, args, below, meth, c, Q, G, ad0, nL⟩ := X
  obtain ⟨hx, hb, hml, ho, hts, hK, hfl, hG⟩ := hB
  obtain ⟨rfl, rfl, rfl, rfl, -⟩ := hR
  obtain ⟨⟨c1, c2, c3, c4, c5, c6⟩, c7, C, T, N, c8, c9⟩ := hc
  intro H locs ad ls st' a1 a2 a3 a4 a5
  obtain ⟨av, rv, rfl, hav, hrv⟩ := a5.split
  obtain ⟨_, rs, rfl, ⟨a, ha, rfl⟩, hrs⟩ := hrv
  have hS : am_S G ad (.ref k :: as) (.ref a :: av.reverse) := ⟨_, _, rfl, ⟨a, ha, rfl⟩, by have := hav.rev; rwa [List.reverse_reverse] at this⟩
  have hl : av.reverse.length = n := by rw [List.length_reverse, hav.len, List.length_reverse]; exact hn
  have hB := callB_of (R := M0.2.2.2.2) (s := s) (args := args) (own := own) (index := index) n hts (am_gin c3) rfl rfl rfl (hts _ c2) (hts _ c1) ⟨c4, c5, c6⟩ hrm.1
  obtain ⟨ws, w1, w2, w3, hP, hD⟩ := id a2
  obtain ⟨a', e', g1, g2, fs', rfl, g3⟩ := w3 k _ hk
  have haa : a' = a := Option.some.inj (g1.symm.trans ha)
  subst haa
  have hp := am_pre (av := .ref a' :: av.reverse) a2 hK hfl hG a3
  exact am_go (va_runV (As := av.reverse) (rest := rs) (b := a') (C := C) ⟨hx, hb, hml, ho, hts⟩ (hM ad _ hS) ⟨hB, hts _ c7, hts _ c9⟩ ⟨hp.1, va_recv hK hP c8 g2, hp.2⟩ rfl hl a4.1 (by simp) (am_rm (l := l) hrs hrm.2) hdg hcl) a1 a3 a4 hrs kk
theorem am_callU0 (hB : am_B X own cc) (hR : am_R0 X l G M0) {index n k ci : Nat} {fs : List Value} {x : MethodName} {owner : String} (hk : h[k]? = some (.inr (ci, fs))) (hM : am_M l G M (.ref k :: as) h P) (hc : am_cU own index ci x owner M n) (hn : as.length = n) (hst : st0 = as.reverse ++ .ref k :: st) (hdg : decode cc pc = .ok (.invokevirtual index, 3)) (hrm : (M.2.2.2.2.frames + 1 ≤ M0.2.2.2.2.frames ∧ 8 + (M.2.2.1 + 11) + M.2.2.2.2.locals ≤ M0.2.2.2.2.locals) ∧ am_wd st ≤ 8) (hcl : cs + M.2.2.2.2.cells ≤ M0.2.2.2.2.cells ∧ sl + M.2.2.2.2.slots ≤ M0.2.2.2.2.slots) (hcs : cs + M.2.2.2.2.cells = cs') (hsl : sl + M.2.2.2.2.slots = sl') (kk : ∀ r h', P r h' → am_Z X (pc + 3) L (r.toList ++ st) h' cs' sl') : am_Z X pc L st0 h cs sl := by
  subst hst
  subst hcs
  subst hsl
  obtain ⟨p, l, e, R, s, m, args, below, meth, c, Q, G, ad0, nL⟩ := X
  obtain ⟨hx, hb, hml, ho, hts, hK, hfl, hG⟩ := hB
  obtain ⟨rfl, rfl, rfl, rfl, -⟩ := hR
  obtain ⟨c1, c2, c3, c4, c5, c6, c7, ⟨C, T, N, c8, c9⟩, c10⟩ := hc
  intro H locs ad ls st' a1 a2 a3 a4 a5
  obtain ⟨av, rv, rfl, hav, hrv⟩ := a5.split
  obtain ⟨_, rs, rfl, ⟨a, ha, rfl⟩, hrs⟩ := hrv
  have hS : am_S G ad (.ref k :: as) (.ref a :: av.reverse) := ⟨_, _, rfl, ⟨a, ha, rfl⟩, by have := hav.rev; rwa [List.reverse_reverse] at this⟩
  have hl : av.reverse.length = n := by rw [List.length_reverse, hav.len, List.length_reverse]; exact hn
  obtain ⟨ws, w1, w2, w3, hP, hD⟩ := id a2
  obtain ⟨a', e', g1, g2, fs', rfl, g3⟩ := w3 k _ hk
  have haa : a' = a := Option.some.inj (g1.symm.trans ha)
  subst haa
  have hp := am_pre (av := .ref a' :: av.reverse) a2 hK hfl hG a3
  have hcu : va_CU M0.2.2.2.2 s args own C owner index x M.1 M.2.1 M.2.2.1 M.2.2.2.1 (am_ws M) M.2.2.2.2 M.2.2.2.2.cells M.2.2.2.2.slots n :=
    ⟨⟨rfl, rfl, hrm.1.1, hrm.1.2, pay_in hts (am_gin c3), List.mem_cons_self⟩, hts _ c3, hts _ c2, c6, fun sig hh => by rw [hh] at c7; exact (Option.some.inj c7).symm, hts _ c1, hts _ c4, c10 G args s hG hts, hts _ c9, hts _ c5⟩
  exact am_go (va_runU (As := av.reverse) (rest := rs) (b := a') (C := C) (owner := owner) (x := x) ⟨hx, hb, hml, ho, hts⟩ (hM ad _ hS) hcu ⟨hp.1, va_recv hK hP c8 g2, hp.2⟩ rfl hl a4.1 (by simp) (am_rm (l := l) hrs hrm.2) hdg hcl) a1 a3 a4 hrs kk
end AmCalls0
