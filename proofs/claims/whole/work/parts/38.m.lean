/-! all of a trace is retraced -/
def t_frs (T : pt_S) (x : pt_H) : List pt_F := (T.2.drop x.2.2.1).take (x.2.2.2 - x.2.2.1)
def r_blk (S : pm_S) (T : pt_S) (i : Nat) (x : pt_H) : List Int := w_head i (match pc_brief S x.1.1 with
  | none => x.1.1
  | some p => (pm_cl S p).1) x ++ (t_frs T x).flatMap (r_txt S) ++ w_more x
def r_all (S : pm_S) (T : pt_S) : Nat → List Int
  | 0 => []
  | n + 1 => r_all S T n ++ (match T.1[n]? with
    | none => []
    | some x => r_blk S T n x)
def t_sum (v : pt_F → Int) (T : pt_S) : Nat → Int
  | 0 => 0
  | n + 1 => t_sum v T n + (match T.1[n]? with
    | none => 0
    | some x => sm ((t_frs T x).map v))
theorem sm_in {v : pt_F → Int} {m : Int} (hv : ∀ f, 0 ≤ v f ∧ v f ≤ m) : ∀ L : List pt_F, 0 ≤ sm (L.map v) ∧ sm (L.map v) ≤ m * L.length
  | [] => by simp [sm]
  | f :: L => by
    have ih := sm_in hv L
    have := hv f
    rw [List.map_cons, sm, List.length_cons]
    have e : m * ((L.length + 1 : Nat) : Int) = m * (L.length : Nat) + m := by
      rw [show ((L.length + 1 : Nat) : Int) = (L.length : Nat) + 1 by omega, Int.mul_add, Int.mul_one]
    omega
theorem t_frs_len {T : pt_S} {x : pt_H} (h : T.2.length ≤ 20) : (t_frs T x).length ≤ 20 := by
  unfold t_frs
  rw [List.length_take, List.length_drop]
  omega
theorem t_sum_in {v : pt_F → Int} {T : pt_S} (hv : ∀ f, 0 ≤ v f ∧ v f ≤ 32) (h20 : T.2.length ≤ 20) : ∀ n : Nat, 0 ≤ t_sum v T n ∧ t_sum v T n ≤ 640 * n
  | 0 => by simp [t_sum]
  | n + 1 => by
    have ih := t_sum_in hv h20 n
    rw [t_sum]
    cases e : T.1[n]? with
    | none => simp only; omega
    | some x =>
      have h1 := sm_in hv (t_frs T x)
      have h2 := t_frs_len (x := x) h20
      simp only
      omega
/-- one frame more of a header's -/
theorem t_frs_take {T : pt_S} {x : pt_H} {j : Nat} {f : pt_F} (h1 : x.2.2.1 ≤ j) (h2 : j < x.2.2.2) (hf : T.2[j]? = some f) : (t_frs T x).take (j + 1 - x.2.2.1) = (t_frs T x).take (j - x.2.2.1) ++ [f] := by
  rw [show j + 1 - x.2.2.1 = (j - x.2.2.1) + 1 by omega, List.take_add_one]
  congr 1
  unfold t_frs
  rw [List.getElem?_take, if_pos (by omega), List.getElem?_drop, show x.2.2.1 + (j - x.2.2.1) = j by omega, hf]
  rfl
theorem t_frs_full {T : pt_S} {x : pt_H} : (t_frs T x).take (x.2.2.2 - x.2.2.1) = t_frs T x := by
  unfold t_frs
  rw [List.take_take, Nat.min_self]
theorem tr_rep.hx {g : Int → Int} {t : Nat → Int} {T : pt_S} (R : tr_rep g t T) {i : Nat} {x : pt_H} (hx : T.1[i]? = some x) : x.2.2.1 ≤ x.2.2.2 ∧ x.2.2.2 ≤ T.2.length := (R.2.2.2.2.1 i x hx).2.2.2.2.2.2.2.2.2.1
theorem am_st5 {a b c v d y : Value} (hv : am_long v = false) : am_st [a, b, c, v, d] 4 y = [a, b, c, v, y] := by
  unfold am_st am_clr
  simp [hv]
theorem m_RW_retraceTrace {l : Launch} {G : am_G} {h : am_H} {k bT c bM kp cp : Nat} {T : pt_S} {S : pm_S} {out : List Int} (w : rw_W h k bT c bM kp cp T S out 0 0) (ok : pm_ok S) : am_M l G M_RW_retraceTrace [.ref k] h (rw_P h k bT c bM kp cp T S (out ++ r_all S T T.1.length) (t_sum (r_fc S) T T.1.length) (t_sum (r_dc S) T T.1.length)) := by
  obtain ⟨t0, -, -, -, -, T4, T20⟩ := w.tc
  obtain ⟨s0, -, -, -, S32, -⟩ := w.mc
  have bF : ∀ f, 0 ≤ r_fc S f ∧ r_fc S f ≤ 32 := fun f => by have := r_fc_in S32 f; omega
  have bD : ∀ f, 0 ≤ r_dc S f ∧ r_dc S f ≤ 32 := fun f => by have := r_dc_in S f; omega
  have xx : ∀ (i : Nat) x, T.1[i]? = some x → x.2.2.1 ≤ x.2.2.2 ∧ x.2.2.2 ≤ T.2.length := by
    obtain ⟨g, t, m, hg, R⟩ := w.2.1
    exact fun i x hx => R.hx hx
  refine am_M.of (by decide) (Nat.le_of_ble_eq_true rfl) (fun X hB hR => ?_)
  show am_Z X 0 [.ref k, am_u, am_u, am_u, am_u] [] h 0 0
  have loop : ∀ (d i : Nat) (h1 : am_H) (v2 v3 v4 : Value), i + d = T.1.length → rw_W h1 k bT c bM kp cp T S (out ++ r_all S T i) (t_sum (r_fc S) T i) (t_sum (r_dc S) T i) → am_fr [k, kp, cp] h h1 → am_Z X 2 [.ref k, am_n i, v2, v3, v4] [] h1 0 0 := by
    intro d
    induction d with
    | zero =>
      intro i h1 v2 v3 v4 hi w1 f1
      obtain ⟨t1, c1, c2, c3, c4, -⟩ := w1.tc
      refine am_iload_n hB d_RW_retraceTrace_2 rfl rfl ?_
      refine am_aload_n hB d_RW_retraceTrace_3 rfl rfl rfl ?_
      refine am_getf hB d_RW_retraceTrace_4 F_RW_9_6 w1.1 rfl ?_
      refine am_getf hB d_RW_retraceTrace_7 F_RW_23_9 c1 rfl ?_
      rw [c4]
      refine ai_jge (tgt := 101) hB d_RW_retraceTrace_10 (by decide) (fun z1 => ?_) (fun z1 => ?_)
      · refine am_vret hB hR d_RW_retraceTrace_101 rfl ?_ (Nat.zero_le _) (Nat.zero_le _)
        have : i = T.1.length := by omega
        subst this
        exact ⟨rfl, w1, f1⟩
      · omega
    | succ d ih =>
      intro i h1 v2 v3 v4 hi w1 f1
      obtain ⟨t1, c1, c2, c3, c4, -⟩ := w1.tc
      obtain ⟨s1, mc1, -⟩ := w1.mc
      have hx : T.1[i]? = some (T.1[i]'(by omega)) := List.getElem?_eq_getElem (by omega)
      generalize (T.1[i]'(by omega)) = x at hx
      have hxx := xx i x hx
      obtain ⟨i4, ty, me, hb, hs⟩ := w1.hs hx
      obtain ⟨r0, sT, sG⟩ := hs h1 am_fr.rf
      have bF1 := t_sum_in bF T20 i
      have bD1 := t_sum_in bD T20 i
      -- the frames, and what stands behind them
      have inner : ∀ (e j : Nat) (h2 : am_H) (o2 : List Int) (fc dc : Int) (v3 : Value), am_long v3 = false → j + e = x.2.2.2 → x.2.2.1 ≤ j → rw_W h2 k bT c bM kp cp T S o2 fc dc → am_fr [k, kp, cp] h1 h2 → o2 ++ ((t_frs T x).drop (j - x.2.2.1)).flatMap (r_txt S) ++ w_more x = out ++ r_all S T (i + 1) → fc = t_sum (r_fc S) T i + sm (((t_frs T x).take (j - x.2.2.1)).map (r_fc S)) → dc = t_sum (r_dc S) T i + sm (((t_frs T x).take (j - x.2.2.1)).map (r_dc S)) → am_Z X 61 [.ref k, am_n i, .ref (bT + 3 + 3 * i), v3, am_n j] [] h2 0 0 := by
        intro e
        induction e with
        | zero =>
          intro j h2 o2 fc dc v3 hv3 hj hlo w2 f2 ho hfc hdc
          have hj' : j = x.2.2.2 := by omega
          subst hj'
          have r2 := (hs _ f2).1
          refine am_iload hB d_RW_retraceTrace_61 rfl ?_
          refine am_aload_n hB d_RW_retraceTrace_63 rfl rfl rfl ?_
          refine am_getf hB d_RW_retraceTrace_64 F_RW_57_3 r2 rfl ?_
          refine ai_jge (tgt := 90) hB d_RW_retraceTrace_67 (by decide) (fun z2 => ?_) (fun z2 => ?_)
          · refine am_aload_n hB d_RW_retraceTrace_90 rfl rfl rfl ?_
            refine am_aload_n hB d_RW_retraceTrace_91 rfl rfl rfl ?_
            refine am_callV hB hR (as := [.ref (bT + 3 + 3 * i)]) w2.1 (m_RW_writeMore w2 ⟨ty, me, hb, fun h' f' => hs h' (f2.tr f')⟩) c_RW_68 rfl rfl d_RW_retraceTrace_92 ⟨by decide, Nat.le_of_ble_eq_true rfl⟩ ⟨by decide, by decide⟩ rfl rfl (fun rr hh hp => ?_)
            obtain ⟨rfl, w3, f3⟩ := hp
            show am_Z X 95 [.ref k, am_n i, .ref (bT + 3 + 3 * i), v3, am_n (x.2.2.2 : Nat)] [] hh 0 0
            refine ai_inc hB d_RW_retraceTrace_95 rfl (by rw [hR.nL]; decide) rfl ?_
            refine am_goto (tgt := 2) hB d_RW_retraceTrace_98 (by decide) (ih (i + 1) hh _ _ _ (by omega) ?_ ((f1.tr f2).tr f3))
            have e0 : (t_frs T x).drop (x.2.2.2 - x.2.2.1) = [] := by
              apply List.drop_eq_nil_of_le
              unfold t_frs
              rw [List.length_take]
              omega
            rw [e0, List.flatMap_nil, List.append_nil] at ho
            rw [t_frs_full] at hfc hdc
            have e1 : t_sum (r_fc S) T (i + 1) = fc := by
              rw [t_sum, hx, hfc]
            have e2 : t_sum (r_dc S) T (i + 1) = dc := by
              rw [t_sum, hx, hdc]
            rw [e1, e2, ← ho]
            exact w3
          · omega
        | succ e ih2 =>
          intro j h2 o2 fc dc v3 hv3 hj hlo w2 f2 ho hfc hdc
          have r2 := (hs _ f2).1
          obtain ⟨t2, d1, d2, d3, -⟩ := w2.tc
          have hf : T.2[j]? = some (T.2[j]'(by omega)) := List.getElem?_eq_getElem (by omega)
          generalize (T.2[j]'(by omega)) = f at hf
          obtain ⟨j20, hfs⟩ := w2.fs hf
          have tk := t_frs_take (T := T) (x := x) hlo (by omega) hf
          have l1 := sm_in bF ((t_frs T x).take (j - x.2.2.1))
          have l2 := sm_in bD ((t_frs T x).take (j - x.2.2.1))
          have l3 : ((t_frs T x).take (j - x.2.2.1)).length ≤ 20 := by
            rw [List.length_take]
            have := t_frs_len (x := x) T20
            omega
          refine am_iload hB d_RW_retraceTrace_61 rfl ?_
          refine am_aload_n hB d_RW_retraceTrace_63 rfl rfl rfl ?_
          refine am_getf hB d_RW_retraceTrace_64 F_RW_57_3 r2 rfl ?_
          refine ai_jge (tgt := 90) hB d_RW_retraceTrace_67 (by decide) (fun z2 => ?_) (fun z2 => ?_)
          · omega
          refine am_aload_n hB d_RW_retraceTrace_70 rfl rfl rfl ?_
          refine am_aload_n hB d_RW_retraceTrace_71 rfl rfl rfl ?_
          refine am_getf hB d_RW_retraceTrace_72 F_RW_9_6 w2.1 rfl ?_
          refine am_getf hB d_RW_retraceTrace_75 F_RW_60_9 d1 rfl ?_
          refine am_iload hB d_RW_retraceTrace_78 rfl ?_
          refine ai_aald hB d_RW_retraceTrace_80 ty_6 d3 (z := bT + 16 + 4 * j) (if_pos (by omega)) ?_
          refine am_callV hB hR (as := [.ref (bT + 16 + 4 * j)]) w2.1 (m_RW_retraceFrame w2 ok hfs (by omega) (by omega)) c_RW_64 rfl rfl d_RW_retraceTrace_81 ⟨by decide, Nat.le_of_ble_eq_true rfl⟩ ⟨by decide, by decide⟩ rfl rfl (fun rr hh hp => ?_)
          obtain ⟨rfl, w3, f3⟩ := hp
          show am_Z X 84 [.ref k, am_n i, .ref (bT + 3 + 3 * i), v3, am_n j] [] hh 0 0
          refine ai_inc hB d_RW_retraceTrace_84 rfl (by rw [hR.nL]; decide) rfl ?_
          rw [am_st5 hv3]
          refine am_goto (tgt := 61) hB d_RW_retraceTrace_87 (by decide) (ih2 (j + 1) hh _ _ _ v3 hv3 (by omega) (by omega) w3 (f2.tr f3) ?_ ?_ ?_)
          · rw [← ho]
            have hd : (t_frs T x).drop (j - x.2.2.1) = f :: (t_frs T x).drop (j + 1 - x.2.2.1) := by
              have hl : j - x.2.2.1 < (t_frs T x).length := by
                unfold t_frs
                rw [List.length_take, List.length_drop]
                omega
              rw [List.drop_eq_getElem_cons hl, show j - x.2.2.1 + 1 = j + 1 - x.2.2.1 by omega]
              congr 1
              have : (t_frs T x)[j - x.2.2.1]? = some f := by
                unfold t_frs
                rw [List.getElem?_take, if_pos (by omega), List.getElem?_drop, show x.2.2.1 + (j - x.2.2.1) = j by omega, hf]
              rw [List.getElem?_eq_getElem hl] at this
              exact Option.some.inj this
            rw [hd, List.flatMap_cons]
            simp only [List.append_assoc]
          · rw [tk, List.map_append, sm_app, hfc]
            simp only [List.map_cons, List.map_nil, sm]
            omega
          · rw [tk, List.map_append, sm_app, hdc]
            simp only [List.map_cons, List.map_nil, sm]
            omega
      have head : ∀ (z : Nat) (n : List Int) (v3 : Value), am_long v3 = false → am_ss [k, kp, cp] h1 z n → n = (match pc_brief S x.1.1 with
          | none => x.1.1
          | some p => (pm_cl S p).1) → am_Z X 52 [.ref k, am_n i, .ref (bT + 3 + 3 * i), v3, v4] [.ref z, am_n i, .ref k] h1 0 0 := by
        intro z n v3 hv3 sz hn
        refine am_callV hB hR (as := [am_n i, .ref z]) w1.1 (m_RW_writeHeader w1 hx sz) c_RW_50 rfl rfl d_RW_retraceTrace_52 ⟨by decide, Nat.le_of_ble_eq_true rfl⟩ ⟨by decide, by decide⟩ rfl rfl (fun rr hh hp => ?_)
        obtain ⟨rfl, w2, f2⟩ := hp
        have r2 := (hs _ f2).1
        show am_Z X 55 [.ref k, am_n i, .ref (bT + 3 + 3 * i), v3, v4] [] hh 0 0
        refine am_aload_n hB d_RW_retraceTrace_55 rfl rfl rfl ?_
        refine am_getf hB d_RW_retraceTrace_56 F_RW_54_3 r2 rfl ?_
        refine am_istore hB d_RW_retraceTrace_59 (by rw [hR.nL]; decide) rfl ?_
        rw [am_st5 hv3]
        refine inner (x.2.2.2 - x.2.2.1) x.2.2.1 hh _ _ _ v3 hv3 (by omega) (Nat.le_refl _) w2 f2 ?_ ?_ ?_
        · rw [Nat.sub_self, List.drop_zero, r_all, hx]
          simp only [r_blk, ← hn, List.append_assoc]
        · rw [Nat.sub_self, List.take_zero, List.map_nil, sm]
          omega
        · rw [Nat.sub_self, List.take_zero, List.map_nil, sm]
          omega
      refine am_iload_n hB d_RW_retraceTrace_2 rfl rfl ?_
      refine am_aload_n hB d_RW_retraceTrace_3 rfl rfl rfl ?_
      refine am_getf hB d_RW_retraceTrace_4 F_RW_9_6 w1.1 rfl ?_
      refine am_getf hB d_RW_retraceTrace_7 F_RW_23_9 c1 rfl ?_
      rw [c4]
      refine ai_jge (tgt := 101) hB d_RW_retraceTrace_10 (by decide) (fun z1 => ?_) (fun z1 => ?_)
      · omega
      refine am_aload_n hB d_RW_retraceTrace_13 rfl rfl rfl ?_
      refine am_getf hB d_RW_retraceTrace_14 F_RW_9_6 w1.1 rfl ?_
      refine am_getf hB d_RW_retraceTrace_17 F_RW_29_9 c1 rfl ?_
      refine am_iload_n hB d_RW_retraceTrace_20 rfl rfl ?_
      refine ai_aald hB d_RW_retraceTrace_21 ty_5 c2 (z := bT + 3 + 3 * i) (if_pos (by omega)) ?_
      refine am_astore_n hB d_RW_retraceTrace_22 rfl (by rw [hR.nL]; decide) rfl rfl ?_
      refine am_aload_n hB d_RW_retraceTrace_23 rfl rfl rfl ?_
      refine am_getf hB d_RW_retraceTrace_24 F_RW_15_6 w1.1 rfl ?_
      refine am_aload_n hB d_RW_retraceTrace_27 rfl rfl rfl ?_
      refine am_getf hB d_RW_retraceTrace_28 F_RW_33_3 r0 rfl ?_
      refine am_callV hB hR (as := [.ref ty]) mc1 (mn_lineOfShort w1.2.2.1 sT) c_RW_39 rfl rfl d_RW_retraceTrace_31 ⟨by decide, Nat.le_of_ble_eq_true rfl⟩ ⟨by decide, by decide⟩ rfl rfl (fun rr hh hp => ?_)
      obtain ⟨rfl, rfl⟩ := hp
      show am_Z X 34 [.ref k, am_n i, .ref (bT + 3 + 3 * i), v3, v4] [mp_rv bM (pc_brief S x.1.1)] h1 0 0
      cases hpc : pc_brief S x.1.1 with
      | none =>
        show am_Z X 34 [.ref k, am_n i, .ref (bT + 3 + 3 * i), v3, v4] [.null] h1 0 0
        refine am_astore_n hB d_RW_retraceTrace_34 rfl (by rw [hR.nL]; decide) rfl rfl ?_
        refine am_aload_n hB d_RW_retraceTrace_35 rfl rfl rfl ?_
        refine am_iload_n hB d_RW_retraceTrace_36 rfl rfl ?_
        refine am_aload_n hB d_RW_retraceTrace_37 rfl rfl rfl ?_
        refine am_ifnonnullN hB d_RW_retraceTrace_38 ?_
        refine am_aload_n hB d_RW_retraceTrace_41 rfl rfl rfl ?_
        refine am_getf hB d_RW_retraceTrace_42 F_RW_33_3 r0 rfl ?_
        refine am_goto (tgt := 52) hB d_RW_retraceTrace_45 (by decide) ?_
        exact head ty x.1.1 .null rfl (fun h' f' => (hs h' f').2.1) (by rw [hpc])
      | some p =>
        show am_Z X 34 [.ref k, am_n i, .ref (bT + 3 + 3 * i), v3, v4] [.ref (bM + 4 + 3 * p)] h1 0 0
        obtain ⟨cc, hcc, -⟩ := pc_brief_get hpc
        obtain ⟨q8, fm, em, rcl, -, -⟩ := w1.2.2.1.cls hcc
        refine am_astore_n hB d_RW_retraceTrace_34 rfl (by rw [hR.nL]; decide) rfl rfl ?_
        refine am_aload_n hB d_RW_retraceTrace_35 rfl rfl rfl ?_
        refine am_iload_n hB d_RW_retraceTrace_36 rfl rfl ?_
        refine am_aload_n hB d_RW_retraceTrace_37 rfl rfl rfl ?_
        refine am_ifnonnullR (tgt := 48) hB d_RW_retraceTrace_38 (by decide) ?_
        refine am_aload_n hB d_RW_retraceTrace_48 rfl rfl rfl ?_
        refine am_getf hB d_RW_retraceTrace_49 F_RW_45_0 rcl rfl ?_
        exact head (bM + 5 + 3 * p) cc.1 _ rfl (w1.cs hcc).1 (by rw [hpc]; simp only [pm_cl_eq hcc])
  refine ai_const hB d_RW_retraceTrace_0 ?_
  refine am_istore_n hB d_RW_retraceTrace_1 rfl (by rw [hR.nL]; decide) rfl ?_
  refine loop T.1.length 0 h _ _ _ (by omega) ?_ am_fr.rf
  rw [r_all, List.append_nil]
  exact w
