section Am4
variable {X : am_C} {own : String} {cc : ByteArray} {pc : Nat} {L st : List Value} {h : am_H} {cs sl : Nat} {l : Launch} {G : am_G} {M0 : am_D} {P0 : am_Y}
theorem am_obj (hB : am_B X own cc) (hR : am_R X l G M0 P0) {index k : Nat} (hdg : decode cc pc = .ok (.invokespecial index, 3)) (hl : Cond.methodLink own index objectInit ∈ am_tbl) (hrm : (1 ≤ M0.2.2.2.2.frames ∧ 20 ≤ M0.2.2.2.2.locals) ∧ am_wd st ≤ 8) (kk : am_Z X (pc + 3) L st h cs sl) : am_Z X pc L (.ref k :: st) h cs sl := by
  obtain ⟨p, l, e, R, s, m, args, below, meth, c, Q, G, ad0, nL⟩ := X
  obtain ⟨hx, hb, hml, ho, hts, hK, hfl, hG⟩ := hB
  obtain ⟨rfl, rfl, rfl, rfl, -⟩ := hR
  intro H locs ad ls st' a1 a2 a3 a4 a5
  obtain ⟨_, rs, rfl, ⟨a, ha, rfl⟩, a5⟩ := a5
  have hr := am_rm (l := l) (m := m) (pc := pc) (ls := ls) (q := .ref a :: rs) a5 hrm.2
  exact W.objInit hx hb ho (hts _ hl) (hts _ tb_33) (hts _ tb_34) rfl (a4.1.trans hml.symm) rfl hdg hrm.1.1 (by have := hrm.1.2; omega) (kk H locs ad ls _ a1 a2 a3 a4 a5)
theorem am_ldc2 (hB : am_B X own cc) {index : Nat} {v : Int64} (hdg : decode cc pc = .ok (.ldc2_w index, 3)) (hw : Cond.constantLong own index v ∈ am_tbl) (kk : am_Z X (pc + 3) L (.long v :: st) h cs sl) : am_Z X pc L st h cs sl := by
  obtain ⟨p, l, e, R, s, m, args, below, meth, c, Q, G, ad0, nL⟩ := X
  obtain ⟨hx, hb, hml, ho, hts, hK, hfl, hG⟩ := hB
  intro H locs ad ls st' a1 a2 a3 a4 a5
  exact lv_ldc2 hx hb ho (hts _ hw) hdg (kk H locs ad ls _ a1 a2 a3 a4 ⟨_, _, rfl, rfl, a5⟩)
theorem am_ldcS (hB : am_B X own cc) {index k : Nat} {tx : String} (hdg : decode cc pc = .ok (.ldc index, 2)) (hq : (own, index, tx, k) ∈ am_strs) (kk : am_Z X (pc + 2) L (.retAddr k :: st) h cs sl) : am_Z X pc L st h cs sl := by
  obtain ⟨p, l, e, R, s, m, args, below, meth, c, Q, G, ad0, nL⟩ := X
  obtain ⟨hx, hb, hml, ho, hts, hK, hfl, hG⟩ := hB
  intro H locs ad ls st' a1 a2 a3 a4 a5
  exact va_ldcS hx hb ho (hG.1 _ hq) hdg (kk H locs ad ls _ a1 a2 a3 a4 ⟨_, _, rfl, rfl, a5⟩)
def am_cp (f g : Int → Int) (sp dp n : Int) : Int → Int := fun j => if dp ≤ j ∧ j < dp + n then f (sp + (j - dp)) else g j
theorem am_copy (hB : am_B X own cc) (hR : am_R X l G M0 P0) {index ks kd n0 n1 : Nat} {f g : Int → Int} {sp dp n : Int} {h' : am_H} (hdg : decode cc pc = .ok (.invokestatic index, 3)) (hl : Cond.methodLink own index arraycopyName ∈ am_tbl) (rs : h[ks]? = some (am_ia 0 n0 f)) (rd : h[kd]? = some (am_ia 0 n1 g)) (hf : ∀ j, sp ≤ j → j < sp + n → 0 ≤ f j ∧ f j < 65536) (hrm : (1 ≤ M0.2.2.2.2.frames ∧ 40 ≤ M0.2.2.2.2.locals) ∧ am_wd st ≤ 8)
    (hh : h.set kd (am_ia 0 n1 (am_cp f g sp dp n)) = h') (kk : am_Z X (pc + 3) L st h' cs sl) (h1 : 0 ≤ sp := by omega) (h2 : 0 ≤ dp := by omega) (h3 : 0 ≤ n := by omega) (h4 : sp + n ≤ n0 := by omega) (h5 : dp + n ≤ n1 := by omega) (h6 : n0 < 2147483648 := by omega) (h7 : n1 < 2147483648 := by omega) : am_Z X pc L (am_n n :: am_n dp :: .ref kd :: am_n sp :: .ref ks :: st) h cs sl := by
  subst hh
  obtain ⟨p, l, e, R, s, m, args, below, meth, c, Q, G, ad0, nL⟩ := X
  obtain ⟨hx, hb, hml, ho, hts, hK, hfl, hG⟩ := hB
  obtain ⟨rfl, rfl, rfl, rfl, -⟩ := hR
  intro H locs ad ls st' a1 a2 a3 a4 a5
  obtain ⟨_, _, rfl, rfl, _, _, rfl, rfl, _, _, rfl, ⟨a, ha, rfl⟩, _, _, rfl, rfl, _, rst, rfl, ⟨a0, ha0, rfl⟩, a5⟩ := a5
  have hr := am_rm (l := l) (m := m) (pc := pc) (ls := ls) (q := []) a5 hrm.2
  obtain ⟨ws, w1, w2, w3, hP, hD⟩ := a2
  obtain ⟨b', e', g1, g2, g3⟩ := w3 ks _ rs
  have haa : b' = a0 := Option.some.inj (g1.symm.trans ha0)
  subst haa
  rw [show e' = _ from g3] at g2
  obtain ⟨c', e2, k1, k2, k3⟩ := w3 kd _ rd
  have hab : c' = a := Option.some.inj (k1.symm.trans ha)
  subst hab
  rw [show e2 = _ from k3] at k2
  have e1 : (am_i sp).toNatClampNeg = sp.toNat := am_i_cl h1 (by omega)
  have e2' : (am_i dp).toNatClampNeg = dp.toNat := am_i_cl h2 (by omega)
  have e3 : (am_i n).toNatClampNeg = n.toNat := am_i_cl h3 (by omega)
  have ng : ∀ z : Int, 0 ≤ z → z < 2147483648 → ¬ am_i z < 0 := fun z z1 z2 q => by
    have := (am_i_lt (by omega) z2 (by omega) (by omega)).mp (show am_i z < am_i 0 from q)
    omega
  refine va_copyi hx hb (hml.trans a4.1.symm) ho (hts _ hl) (hts _ tb_426) (hts _ tb_425) (hts _ tb_13) hK hP hD a3 ks kd 0 0 (ty := .char) g2 k2 rfl rfl rfl (ng sp h1 (by omega)) (ng dp h2 (by omega)) (ng n h3 (by omega)) (by rw [e1, e3]; omega) (by rw [e2', e3]; omega) ?_ hrm.1.1 ?_ hdg (fun H1 locs1 hP1 hD1 hS1 => ?_)
  · intro i hi
    rw [e3] at hi
    rw [e1]
    obtain ⟨f1, f2⟩ := hf ((sp.toNat + i : Nat) : Int) (by omega) (by omega)
    rw [am_i_N f1]
    exact (pk_charN (by omega)).2
  · have hn : nativeFrameWords "java/lang/System" "arraycopy" 5 ≤ 20 := by decide +kernel
    have := hrm.1.2
    have := am_wd_eq a5
    have := hrm.2
    omega
  · have ec : (.inl (G.2.1 0, n1, .inl (va_cpy (fun j : Nat => am_i (f j)) (fun j : Nat => am_i (g j)) (am_i sp).toNatClampNeg (am_i dp).toNatClampNeg (am_i n).toNatClampNeg)) : va_E) = .inl (G.2.1 0, n1, .inl (fun j : Nat => am_i (am_cp f g sp dp n j))) := by
      congr 3
      congr 1
      funext j
      rw [e1, e2', e3]
      unfold va_cpy am_cp
      by_cases hj : dp.toNat ≤ j ∧ j < dp.toNat + n.toNat
      · rw [if_pos hj, if_pos (by omega)]
        show am_i (f ((sp.toNat + (j - dp.toNat) : Nat) : Int)) = _
        rw [show ((sp.toNat + (j - dp.toNat) : Nat) : Int) = sp + ((j : Int) - dp) by omega]
      · rw [if_neg hj, if_neg (by omega)]
    rw [ec] at hP1 hD1
    exact kk H1 locs1 ad ls _ a1 (am_W.set w1 w2 w3 ha rfl hP1 hD1) hS1 a4 a5
theorem am_min (hB : am_B X own cc) (hR : am_R X l G M0 P0) {index : Nat} {a b : Int} (hdg : decode cc pc = .ok (.invokestatic index, 3)) (hl : Cond.methodLink own index Lib.Math.min.name ∈ am_tbl) (hrm : (1 ≤ M0.2.2.2.2.frames ∧ 30 ≤ M0.2.2.2.2.locals) ∧ am_wd st ≤ 8) (hcl : cs ≤ M0.2.2.2.2.cells ∧ sl ≤ M0.2.2.2.2.slots) (kk : am_Z X (pc + 3) L (am_n (if b < a then b else a) :: st) h cs sl) (h1 : -2147483648 ≤ a := by omega) (h2 : a < 2147483648 := by omega) (h3 : -2147483648 ≤ b := by omega) (h4 : b < 2147483648 := by omega) : am_Z X pc L (am_n b :: am_n a :: st) h cs sl := by
  obtain ⟨p, l, e, R, s, m, args, below, meth, c, Q, G, ad0, nL⟩ := X
  obtain ⟨hx, hb, hml, ho, hts, hK, hfl, hG⟩ := hB
  obtain ⟨rfl, rfl, rfl, rfl, -⟩ := hR
  intro H locs ad ls st' a1 a2 a3 a4 a5
  obtain ⟨_, _, rfl, rfl, _, rst, rfl, rfl, a5⟩ := a5
  refine va_mmin hx hb (hml.trans a4.1.symm) ho (hts _ hl) (hts _ tb_644) (hts _ tb_18) (hts _ tb_645) hrm.1.1 (by have := hrm.1.2; have := am_wd_eq a5; have := hrm.2; omega) hcl.1 hcl.2 hdg ?_
  have ee : (if am_i b < am_i a then am_i b else am_i a) = am_i (if b < a then b else a) := by
    by_cases q : b < a
    · rw [if_pos q, if_pos ((am_i_lt h3 h4 h1 h2).mpr q)]
    · rw [if_neg q, if_neg (fun z => q ((am_i_lt h3 h4 h1 h2).mp z))]
  rw [ee]
  exact kk H locs ad ls _ a1 a2 a3 a4 ⟨_, _, rfl, rfl, a5⟩
theorem am_max (hB : am_B X own cc) (hR : am_R X l G M0 P0) {index : Nat} {a b : Int} (hdg : decode cc pc = .ok (.invokestatic index, 3)) (hl : Cond.methodLink own index Lib.Math.max.name ∈ am_tbl) (hrm : (1 ≤ M0.2.2.2.2.frames ∧ 30 ≤ M0.2.2.2.2.locals) ∧ am_wd st ≤ 8) (hcl : cs ≤ M0.2.2.2.2.cells ∧ sl ≤ M0.2.2.2.2.slots) (kk : am_Z X (pc + 3) L (am_n (if a < b then b else a) :: st) h cs sl) (h1 : -2147483648 ≤ a := by omega) (h2 : a < 2147483648 := by omega) (h3 : -2147483648 ≤ b := by omega) (h4 : b < 2147483648 := by omega) : am_Z X pc L (am_n b :: am_n a :: st) h cs sl := by
  obtain ⟨p, l, e, R, s, m, args, below, meth, c, Q, G, ad0, nL⟩ := X
  obtain ⟨hx, hb, hml, ho, hts, hK, hfl, hG⟩ := hB
  obtain ⟨rfl, rfl, rfl, rfl, -⟩ := hR
  intro H locs ad ls st' a1 a2 a3 a4 a5
  obtain ⟨_, _, rfl, rfl, _, rst, rfl, rfl, a5⟩ := a5
  refine va_mmax hx hb (hml.trans a4.1.symm) ho (hts _ hl) (hts _ tb_950) (hts _ tb_18) (hts _ tb_951) hrm.1.1 (by have := hrm.1.2; have := am_wd_eq a5; have := hrm.2; omega) hcl.1 hcl.2 hdg ?_
  have ee : (if am_i a < am_i b then am_i b else am_i a) = am_i (if a < b then b else a) := by
    by_cases q : a < b
    · rw [if_pos q, if_pos ((am_i_lt h1 h2 h3 h4).mpr q)]
    · rw [if_neg q, if_neg (fun z => q ((am_i_lt h1 h2 h3 h4).mp z))]
  rw [ee]
  exact kk H locs ad ls _ a1 a2 a3 a4 ⟨_, _, rfl, rfl, a5⟩
end Am4
/-- a call by the name x of a class that inherits it, or that only declares it: the receiver's class selects M -/
def am_cU (own : String) (index ci : Nat) (x : MethodName) (owner : String) (M : am_D) (n : Nat) : Prop := Cond.methodLink own index x ∈ am_tbl ∧ Cond.initialized M.1.cls ∈ am_tbl ∧ Cond.code M.1 M.2.1 M.2.2.1 M.2.2.2.1 ∈ am_tbl ∧ Cond.sameMethod x.cls owner x.name x.desc ∈ am_tbl ∧ Cond.instanceMethod M.1 ∈ am_tbl ∧ (owner ≠ "java/lang/invoke/MethodHandle" ∧ owner ≠ "java/lang/invoke/VarHandle") ∧ (parseMethodDescriptor x.desc).map (fun d => d.parameters.length) = some n ∧ (∃ (C : String) (T : u_T) (N : Nat), vwCl[ci]? = some (C, T, N) ∧ Cond.selects C x M.1 ∈ am_tbl) ∧ ∀ (G : am_G) (args : Array Value) (s : State), am_K G s → (∀ w ∈ am_tbl, w.before args s = true) → va_Decl s ⟨owner, x.name, x.desc⟩
/-- a private static of a nest mate -/
def am_cN (own : String) (index : Nat) (host : String) (M : am_D) (n : Nat) : Prop := Cond.initialized M.1.cls ∈ am_tbl ∧ Cond.code M.1 M.2.1 M.2.2.1 M.2.2.2.1 ∈ am_tbl ∧ Cond.static M.1 ∈ am_tbl ∧ (M.1.cls ≠ "java/lang/invoke/MethodHandle" ∧ M.1.cls ≠ "java/lang/invoke/VarHandle" ∧ (parseMethodDescriptor M.1.desc).map (fun d => d.parameters.length) = some n) ∧ ∀ (G : am_G) (s : State), am_K G s → va_Nw (.methodLinkNest own index M.1 host) s
section Am4Calls
variable {X : am_C} {own : String} {cc : ByteArray} {pc : Nat} {L st st0 : List Value} {h : am_H} {cs sl cs' sl' : Nat} {l : Launch} {G : am_G} {M M0 : am_D} {P0 P : am_Y} {as : List Value}
theorem am_callU (hB : am_B X own cc) (hR : am_R X l G M0 P0) {index n k ci : Nat} {fs : List Value} {x : MethodName} {owner : String} (hk : h[k]? = some (.inr (ci, fs))) (hM : am_M l G M (.ref k :: as) h P) (hc : am_cU own index ci x owner M n) (hn : as.length = n) (hst : st0 = as.reverse ++ .ref k :: st) (hdg : decode cc pc = .ok (.invokevirtual index, 3)) (hrm : (M.2.2.2.2.frames + 1 ≤ M0.2.2.2.2.frames ∧ 8 + (M.2.2.1 + 11) + M.2.2.2.2.locals ≤ M0.2.2.2.2.locals) ∧ am_wd st ≤ 8) (hcl : cs + M.2.2.2.2.cells ≤ M0.2.2.2.2.cells ∧ sl + M.2.2.2.2.slots ≤ M0.2.2.2.2.slots) (hcs : cs + M.2.2.2.2.cells = cs') (hsl : sl + M.2.2.2.2.slots = sl') (kk : ∀ r h', P r h' → am_Z X (pc + 3) L (r.toList ++ st) h' cs' sl') : am_Z X pc L st0 h cs sl := by
  subst hst
  subst hcs
  subst hsl
  obtain ⟨p, l, e, R, s, m, args, below, meth, c, Q, G, ad0, nL⟩ := X
  obtain ⟨hx, hb, hml, ho, hts, hK, hfl, hG⟩ := hB
  obtain ⟨rfl, rfl, rfl, rfl, -⟩ := hR
  obtain ⟨c1, c2, c3, c4, c5, c6, c7, ⟨C, T, N, c8, c9⟩, c10⟩ := hc
  intro H locs ad ls st' a1 a2 a3 a4 a5
  obtain ⟨av, rv, rfl, hav, hrv⟩ := a5.split
  obtain ⟨_, rs, rfl, ⟨a, ha, rfl⟩, hrs⟩ := hrv
  have hS : am_S G ad (.ref k :: as) (.ref a :: av.reverse) := ⟨_, _, rfl, ⟨a, ha, rfl⟩, by have := hav.rev; rwa [List.reverse_reverse] at this⟩
  have hl : av.reverse.length = n := by rw [List.length_reverse, hav.len, List.length_reverse]; exact hn
  obtain ⟨ws, w1, w2, w3, hP, hD⟩ := id a2
  obtain ⟨a', e', g1, g2, fs', rfl, g3⟩ := w3 k _ hk
  have haa : a' = a := Option.some.inj (g1.symm.trans ha)
  subst haa
  have hp := am_pre (av := .ref a' :: av.reverse) a2 hK hfl hG a3
  have hcu : va_CU M0.2.2.2.2 s args own C owner index x M.1 M.2.1 M.2.2.1 M.2.2.2.1 (am_ws M) M.2.2.2.2 M.2.2.2.2.cells M.2.2.2.2.slots n :=
    ⟨⟨rfl, rfl, hrm.1.1, hrm.1.2, pay_in hts (am_gin c3), List.mem_cons_self⟩, hts _ c3, hts _ c2, c6, fun sig hh => by rw [hh] at c7; exact (Option.some.inj c7).symm, hts _ c1, hts _ c4, c10 G args s hG hts, hts _ c9, hts _ c5⟩
  exact am_go (va_runU (As := av.reverse) (rest := rs) (b := a') (C := C) (owner := owner) (x := x) ⟨hx, hb, hml, ho, hts⟩ (hM ad _ hS) hcu ⟨hp.1, va_recv hK hP c8 g2, hp.2⟩ rfl hl a4.1 (by simp) (am_rm (l := l) hrs hrm.2) hdg hcl) a1 a3 a4 hrs kk
theorem am_callN (hB : am_B X own cc) (hR : am_R X l G M0 P0) {index n : Nat} {host : String} (hM : am_M l G M as h P) (hc : am_cN own index host M n) (hn : as.length = n) (hst : st0 = as.reverse ++ st) (hdg : decode cc pc = .ok (.invokestatic index, 3)) (hrm : (M.2.2.2.2.frames + 1 ≤ M0.2.2.2.2.frames ∧ 8 + (M.2.2.1 + 11) + M.2.2.2.2.locals ≤ M0.2.2.2.2.locals) ∧ am_wd st ≤ 8) (hcl : cs + M.2.2.2.2.cells ≤ M0.2.2.2.2.cells ∧ sl + M.2.2.2.2.slots ≤ M0.2.2.2.2.slots) (hcs : cs + M.2.2.2.2.cells = cs') (hsl : sl + M.2.2.2.2.slots = sl') (kk : ∀ r h', P r h' → am_Z X (pc + 3) L (r.toList ++ st) h' cs' sl') : am_Z X pc L st0 h cs sl := by
  subst hst
  subst hcs
  subst hsl
  obtain ⟨p, l, e, R, s, m, args, below, meth, c, Q, G, ad0, nL⟩ := X
  obtain ⟨hx, hb, hml, ho, hts, hK, hfl, hG⟩ := hB
  obtain ⟨rfl, rfl, rfl, rfl, -⟩ := hR
  obtain ⟨c1, c2, c3, c4, c5⟩ := hc
  intro H locs ad ls st' a1 a2 a3 a4 a5
  obtain ⟨av, rv, rfl, hav, hrv⟩ := a5.split
  have hS : am_S G ad as av.reverse := by have := hav.rev; rwa [List.reverse_reverse] at this
  have hl : av.reverse.length = n := by rw [List.length_reverse, hav.len, List.length_reverse]; exact hn
  have hp := am_pre (av := av.reverse) a2 hK hfl hG a3
  exact am_go (va_runSN (As := av.reverse) (rest := rv) (host := host) ⟨hx, hb, hml, ho, hts⟩ (hM ad _ hS) ⟨va_cnB (R := M0.2.2.2.2) n hts (am_gin c2) rfl rfl rfl (c5 G s hG) (hts _ c1) c4 hrm.1, hts _ c3, trivial⟩ hp rfl hl a4.1 (by simp) (am_rm (l := l) hrv hrm.2) hdg hcl) a1 a3 a4 hrv kk
end Am4Calls