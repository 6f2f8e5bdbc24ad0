/-! all of a trace is shortened -/
def s_frs (S : pm_S) : Nat → List pt_F → List Int
  | 0, _ => []
  | _ + 1, [] => []
  | n + 1, f :: F => s_txt S (f :: F) ++ s_frs S n ((f :: F).drop (s_cnt S (f :: F)).toNat)
def s_opn (S : pm_S) : Nat → List pt_F → Int
  | 0, _ => 0
  | _ + 1, [] => 0
  | n + 1, f :: F => 1 + s_opn S n ((f :: F).drop (s_cnt S (f :: F)).toNat)
theorem s_opn_in (S : pm_S) : ∀ (n : Nat) (F : List pt_F), 0 ≤ s_opn S n F ∧ s_opn S n F ≤ n
  | 0, _ => by simp [s_opn]
  | n + 1, [] => by simp only [s_opn]; omega
  | n + 1, f :: F => by
    have := s_opn_in S n ((f :: F).drop (s_cnt S (f :: F)).toNat)
    simp only [s_opn]
    omega
theorem s_frs_nil (S : pm_S) (n : Nat) : s_frs S n [] = [] ∧ s_opn S n [] = 0 := by
  cases n <;> exact ⟨rfl, rfl⟩
def s_blk (S : pm_S) (T : pt_S) (i : Nat) (x : pt_H) : List Int := w_head i (match pc_real S x.1.1 with
  | none => x.1.1
  | some p => (pm_cl S p).2) x ++ s_frs S 20 (t_frs T x) ++ w_more x
def s_all (S : pm_S) (T : pt_S) : Nat → List Int
  | 0 => []
  | n + 1 => s_all S T n ++ (match T.1[n]? with
    | none => []
    | some x => s_blk S T n x)
def s_ops (S : pm_S) (T : pt_S) : Nat → Int
  | 0 => 0
  | n + 1 => s_ops S T n + (match T.1[n]? with
    | none => 0
    | some x => s_opn S 20 (t_frs T x))
theorem s_ops_in (S : pm_S) (T : pt_S) : ∀ n : Nat, 0 ≤ s_ops S T n ∧ s_ops S T n ≤ 20 * n
  | 0 => by simp [s_ops]
  | n + 1 => by
    have ih := s_ops_in S T n
    rw [s_ops]
    cases e : T.1[n]? with
    | none => simp only; omega
    | some x =>
      have h1 := s_opn_in S 20 (t_frs T x)
      simp only
      omega
theorem am_st6 {a b c v d e y : Value} (hv : am_long d = false) : am_st [a, b, c, v, d, e] 5 y = [a, b, c, v, d, y] := by
  unfold am_st am_clr
  simp [hv]
theorem am_st54 {a b c v d e y : Value} (hv : am_long v = false) : am_st [a, b, c, v, d, e] 4 y = [a, b, c, v, y, e] := by
  unfold am_st am_clr
  simp [hv]
theorem m_RW_shortenTrace {l : Launch} {G : am_G} {h : am_H} {k bT c bM kp cp : Nat} {T : pt_S} {S : pm_S} {out : List Int} (w : rw_W h k bT c bM kp cp T S out 0 0) (ok : pm_ok S) : am_M l G M_RW_shortenTrace [.ref k] h (rw_P h k bT c bM kp cp T S (out ++ s_all S T T.1.length) (s_ops S T T.1.length) 0) := by
  obtain ⟨t0, -, -, -, -, T4, T20⟩ := w.tc
  have xx : ∀ (i : Nat) x, T.1[i]? = some x → x.2.2.1 ≤ x.2.2.2 ∧ x.2.2.2 ≤ T.2.length := by
    obtain ⟨g, t, m, hg, R⟩ := w.2.1
    exact fun i x hx => R.hx hx
  refine am_M.of (by decide) (Nat.le_of_ble_eq_true rfl) (fun X hB hR => ?_)
  show am_Z X 0 [.ref k, am_u, am_u, am_u, am_u, am_u] [] h 0 0
  have loop : ∀ (d i : Nat) (h1 : am_H) (v2 v3 v4 v5 : Value), i + d = T.1.length → rw_W h1 k bT c bM kp cp T S (out ++ s_all S T i) (s_ops S T i) 0 → am_fr [k, kp, cp] h h1 → am_Z X 2 [.ref k, am_n i, v2, v3, v4, v5] [] h1 0 0 := by
    intro d
    induction d with
    | zero =>
      intro i h1 v2 v3 v4 v5 hi w1 f1
      obtain ⟨t1, c1, c2, c3, c4, -⟩ := w1.tc
      refine am_iload_n hB d_RW_shortenTrace_2 rfl rfl ?_
      refine am_aload_n hB d_RW_shortenTrace_3 rfl rfl rfl ?_
      refine am_getf hB d_RW_shortenTrace_4 F_RW_9_6 w1.1 rfl ?_
      refine am_getf hB d_RW_shortenTrace_7 F_RW_23_9 c1 rfl ?_
      rw [c4]
      refine ai_jge (tgt := 115) hB d_RW_shortenTrace_10 (by decide) (fun z1 => ?_) (fun z1 => ?_)
      · refine am_vret hB hR d_RW_shortenTrace_115 rfl ?_ (Nat.zero_le _) (Nat.zero_le _)
        have : i = T.1.length := by omega
        subst this
        exact ⟨rfl, w1, f1⟩
      · omega
    | succ d ih =>
      intro i h1 v2 v3 v4 v5 hi w1 f1
      obtain ⟨t1, c1, c2, c3, c4, -⟩ := w1.tc
      obtain ⟨s1, mc1, -⟩ := w1.mc
      have hx : T.1[i]? = some (T.1[i]'(by omega)) := List.getElem?_eq_getElem (by omega)
      generalize (T.1[i]'(by omega)) = x at hx
      have hxx := xx i x hx
      obtain ⟨i4, ty, me, hb, hs⟩ := w1.hs hx
      obtain ⟨r0, sT, sG⟩ := hs h1 am_fr.rf
      have bF1 := s_ops_in S T i
      have flen : (t_frs T x).length = x.2.2.2 - x.2.2.1 := by
        unfold t_frs
        rw [List.length_take, List.length_drop]
        omega
      have inner : ∀ (e j nx n : Nat) (h2 : am_H) (o2 : List Int) (fc : Int) (v3 : Value), am_long v3 = false → j + e = x.2.2.2 → x.2.2.1 ≤ j → j ≤ nx → nx ≤ x.2.2.2 → x.2.2.2 - nx ≤ n → n ≤ 20 → rw_W h2 k bT c bM kp cp T S o2 fc 0 → am_fr [k, kp, cp] h1 h2 → o2 ++ s_frs S n ((t_frs T x).drop (nx - x.2.2.1)) ++ w_more x = out ++ s_all S T (i + 1) → fc + s_opn S n ((t_frs T x).drop (nx - x.2.2.1)) = s_ops S T (i + 1) → am_Z X 67 [.ref k, am_n i, .ref (bT + 3 + 3 * i), v3, am_n nx, am_n j] [] h2 0 0 := by
        intro e
        induction e with
        | zero =>
          intro j nx n h2 o2 fc v3 hv3 hj hlo hnx hnx2 hn n20 w2 f2 ho hfc
          have hj' : j = x.2.2.2 := by omega
          have hn' : nx = x.2.2.2 := by omega
          subst hj'
          subst hn'
          have r2 := (hs _ f2).1
          refine am_iload hB d_RW_shortenTrace_67 rfl ?_
          refine am_aload_n hB d_RW_shortenTrace_69 rfl rfl rfl ?_
          refine am_getf hB d_RW_shortenTrace_70 F_RW_57_3 r2 rfl ?_
          refine ai_jge (tgt := 104) hB d_RW_shortenTrace_73 (by decide) (fun z2 => ?_) (fun z2 => ?_)
          · refine am_aload_n hB d_RW_shortenTrace_104 rfl rfl rfl ?_
            refine am_aload_n hB d_RW_shortenTrace_105 rfl rfl rfl ?_
            refine am_callV hB hR (as := [.ref (bT + 3 + 3 * i)]) w2.1 (m_RW_writeMore w2 ⟨ty, me, hb, fun h' f' => hs h' (f2.tr f')⟩) c_RW_68 rfl rfl d_RW_shortenTrace_106 ⟨by decide, Nat.le_of_ble_eq_true rfl⟩ ⟨by decide, by decide⟩ rfl rfl (fun rr hh hp => ?_)
            obtain ⟨rfl, w3, f3⟩ := hp
            show am_Z X 109 [.ref k, am_n i, .ref (bT + 3 + 3 * i), v3, am_n (x.2.2.2 : Nat), am_n (x.2.2.2 : Nat)] [] hh 0 0
            refine ai_inc hB d_RW_shortenTrace_109 rfl (by rw [hR.nL]; decide) rfl ?_
            refine am_goto (tgt := 2) hB d_RW_shortenTrace_112 (by decide) (ih (i + 1) hh _ _ _ _ (by omega) ?_ ((f1.tr f2).tr f3))
            have e0 : (t_frs T x).drop (x.2.2.2 - x.2.2.1) = [] := List.drop_eq_nil_of_le (by omega)
            rw [e0, (s_frs_nil S n).1, List.append_nil] at ho
            rw [e0, (s_frs_nil S n).2, Int.add_zero] at hfc
            rw [← ho, ← hfc]
            exact w3
          · omega
        | succ e ih2 =>
          intro j nx n h2 o2 fc v3 hv3 hj hlo hnx hnx2 hn n20 w2 f2 ho hfc
          have r2 := (hs _ f2).1
          refine am_iload hB d_RW_shortenTrace_67 rfl ?_
          refine am_aload_n hB d_RW_shortenTrace_69 rfl rfl rfl ?_
          refine am_getf hB d_RW_shortenTrace_70 F_RW_57_3 r2 rfl ?_
          refine ai_jge (tgt := 104) hB d_RW_shortenTrace_73 (by decide) (fun z2 => ?_) (fun z2 => ?_)
          · omega
          refine am_iload hB d_RW_shortenTrace_76 rfl ?_
          refine am_iload hB d_RW_shortenTrace_78 rfl ?_
          refine ai_jne (tgt := 98) hB d_RW_shortenTrace_80 (by decide) (fun z3 => ?_) (fun z3 => ?_)
          · refine ai_inc hB d_RW_shortenTrace_98 rfl (by rw [hR.nL]; decide) rfl ?_
            exact am_goto (tgt := 67) hB d_RW_shortenTrace_101 (by decide) (ih2 (j + 1) nx n h2 o2 fc v3 hv3 (by omega) (by omega) (by omega) hnx2 hn n20 w2 f2 ho hfc)
          · have hjn : nx = j := by omega
            subst hjn
            obtain ⟨n', rfl⟩ : ∃ n', n = n' + 1 := ⟨n - 1, by omega⟩
            have hF : (T.2.drop nx).take (x.2.2.2 - nx) = (t_frs T x).drop (nx - x.2.2.1) := by
              unfold t_frs
              rw [List.drop_take, List.drop_drop, show x.2.2.1 + (nx - x.2.2.1) = nx by omega, show x.2.2.2 - x.2.2.1 - (nx - x.2.2.1) = x.2.2.2 - nx by omega]
            have hFl : ((t_frs T x).drop (nx - x.2.2.1)).length = x.2.2.2 - nx := by
              rw [List.length_drop]
              omega
            have hFc : ∃ f F', (t_frs T x).drop (nx - x.2.2.1) = f :: F' := by
              cases z : (t_frs T x).drop (nx - x.2.2.1) with
              | nil =>
                rw [z] at hFl
                simp only [List.length_nil] at hFl
                omega
              | cons f F' => exact ⟨f, F', rfl⟩
            have hcin := s_cnt_in ok (F := (t_frs T x).drop (nx - x.2.2.1)) (by obtain ⟨f, F', q⟩ := hFc; rw [q]; exact fun z => by cases z)
            have bO := s_opn_in S (n' + 1) ((t_frs T x).drop (nx - x.2.2.1))
            have bO2 := s_ops_in S T (i + 1)
            have hfcb := w2.2.2.2.2.2.1
            refine am_iload hB d_RW_shortenTrace_83 rfl ?_
            refine am_aload_n hB d_RW_shortenTrace_85 rfl rfl rfl ?_
            refine am_iload hB d_RW_shortenTrace_86 rfl ?_
            refine am_aload_n hB d_RW_shortenTrace_88 rfl rfl rfl ?_
            refine am_getf hB d_RW_shortenTrace_89 F_RW_57_3 r2 rfl ?_
            refine am_callV hB hR (as := [am_n (nx : Nat), am_n (x.2.2.2 : Nat)]) w2.1 (m_RW_shortenFrom w2 ok (by omega) (by omega) (by omega)) c_RW_154 rfl rfl d_RW_shortenTrace_92 ⟨by decide, Nat.le_of_ble_eq_true rfl⟩ ⟨by decide, by decide⟩ rfl rfl (fun rr hh hp => ?_)
            obtain ⟨rfl, w3, f3⟩ := hp
            rw [hF] at w3 ⊢
            show am_Z X 95 [.ref k, am_n i, .ref (bT + 3 + 3 * i), v3, am_n (nx : Nat), am_n (nx : Nat)] [am_n (s_cnt S ((t_frs T x).drop (nx - x.2.2.1))), am_n (nx : Nat)] hh 0 0
            refine ai_add hB d_RW_shortenTrace_95 ?_
            refine am_istore hB d_RW_shortenTrace_96 (by rw [hR.nL]; decide) rfl ?_
            rw [am_st54 hv3]
            obtain ⟨cn, hcn⟩ : ∃ cn : Nat, s_cnt S ((t_frs T x).drop (nx - x.2.2.1)) = cn := ⟨(s_cnt S ((t_frs T x).drop (nx - x.2.2.1))).toNat, by omega⟩
            rw [hcn]
            refine ai_inc hB d_RW_shortenTrace_98 rfl (by rw [hR.nL]; decide) rfl ?_
            rw [am_st6 rfl]
            refine am_goto (tgt := 67) hB d_RW_shortenTrace_101 (by decide) (ih2 (nx + 1) (nx + cn) n' hh _ _ v3 hv3 (by omega) (by omega) (by omega) (by omega) (by omega) (by omega) w3 (f2.tr f3) ?_ ?_)
            · obtain ⟨f, F', q⟩ := hFc
              rw [← ho, show nx + cn - x.2.2.1 = (nx - x.2.2.1) + cn by omega, ← List.drop_drop]
              rw [q] at hcn ⊢
              rw [s_frs, hcn]
              simp only [Int.toNat_natCast, List.append_assoc]
            · obtain ⟨f, F', q⟩ := hFc
              rw [← hfc, show nx + cn - x.2.2.1 = (nx - x.2.2.1) + cn by omega, ← List.drop_drop]
              rw [q] at hcn ⊢
              rw [s_opn, hcn]
              simp only [Int.toNat_natCast]
              omega
      have head : ∀ (z : Nat) (n : List Int) (v3 : Value), am_long v3 = false → am_ss [k, kp, cp] h1 z n → n = (match pc_real S x.1.1 with
          | none => x.1.1
          | some p => (pm_cl S p).2) → am_Z X 52 [.ref k, am_n i, .ref (bT + 3 + 3 * i), v3, v4, v5] [.ref z, am_n i, .ref k] h1 0 0 := by
        intro z n v3 hv3 sz hn
        refine am_callV hB hR (as := [am_n i, .ref z]) w1.1 (m_RW_writeHeader w1 hx sz) c_RW_50 rfl rfl d_RW_shortenTrace_52 ⟨by decide, Nat.le_of_ble_eq_true rfl⟩ ⟨by decide, by decide⟩ rfl rfl (fun rr hh hp => ?_)
        obtain ⟨rfl, w2, f2⟩ := hp
        have r2 := (hs _ f2).1
        show am_Z X 55 [.ref k, am_n i, .ref (bT + 3 + 3 * i), v3, v4, v5] [] hh 0 0
        refine am_aload_n hB d_RW_shortenTrace_55 rfl rfl rfl ?_
        refine am_getf hB d_RW_shortenTrace_56 F_RW_54_3 r2 rfl ?_
        refine am_istore hB d_RW_shortenTrace_59 (by rw [hR.nL]; decide) rfl ?_
        rw [am_st54 hv3]
        refine am_aload_n hB d_RW_shortenTrace_61 rfl rfl rfl ?_
        refine am_getf hB d_RW_shortenTrace_62 F_RW_54_3 r2 rfl ?_
        refine am_istore hB d_RW_shortenTrace_65 (by rw [hR.nL]; decide) rfl ?_
        rw [am_st6 rfl]
        refine inner (x.2.2.2 - x.2.2.1) x.2.2.1 x.2.2.1 20 hh _ _ v3 hv3 (by omega) (Nat.le_refl _) (Nat.le_refl _) (by omega) (by omega) (by omega) w2 f2 ?_ ?_
        · rw [Nat.sub_self, List.drop_zero, s_all, hx]
          simp only [s_blk, ← hn, List.append_assoc]
        · rw [Nat.sub_self, List.drop_zero, s_ops, hx]
      refine am_iload_n hB d_RW_shortenTrace_2 rfl rfl ?_
      refine am_aload_n hB d_RW_shortenTrace_3 rfl rfl rfl ?_
      refine am_getf hB d_RW_shortenTrace_4 F_RW_9_6 w1.1 rfl ?_
      refine am_getf hB d_RW_shortenTrace_7 F_RW_23_9 c1 rfl ?_
      rw [c4]
      refine ai_jge (tgt := 115) hB d_RW_shortenTrace_10 (by decide) (fun z1 => ?_) (fun z1 => ?_)
      · omega
      refine am_aload_n hB d_RW_shortenTrace_13 rfl rfl rfl ?_
      refine am_getf hB d_RW_shortenTrace_14 F_RW_9_6 w1.1 rfl ?_
      refine am_getf hB d_RW_shortenTrace_17 F_RW_29_9 c1 rfl ?_
      refine am_iload_n hB d_RW_shortenTrace_20 rfl rfl ?_
      refine ai_aald hB d_RW_shortenTrace_21 ty_5 c2 (z := bT + 3 + 3 * i) (if_pos (by omega)) ?_
      refine am_astore_n hB d_RW_shortenTrace_22 rfl (by rw [hR.nL]; decide) rfl rfl ?_
      refine am_aload_n hB d_RW_shortenTrace_23 rfl rfl rfl ?_
      refine am_getf hB d_RW_shortenTrace_24 F_RW_15_6 w1.1 rfl ?_
      refine am_aload_n hB d_RW_shortenTrace_27 rfl rfl rfl ?_
      refine am_getf hB d_RW_shortenTrace_28 F_RW_33_3 r0 rfl ?_
      refine am_callV hB hR (as := [.ref ty]) mc1 (mn_lineOfReal w1.2.2.1 sT) c_RW_148 rfl rfl d_RW_shortenTrace_31 ⟨by decide, Nat.le_of_ble_eq_true rfl⟩ ⟨by decide, by decide⟩ rfl rfl (fun rr hh hp => ?_)
      obtain ⟨rfl, rfl⟩ := hp
      show am_Z X 34 [.ref k, am_n i, .ref (bT + 3 + 3 * i), v3, v4, v5] [mp_rv bM (pc_real S x.1.1)] h1 0 0
      cases hpc : pc_real S x.1.1 with
      | none =>
        show am_Z X 34 [.ref k, am_n i, .ref (bT + 3 + 3 * i), v3, v4, v5] [.null] h1 0 0
        refine am_astore_n hB d_RW_shortenTrace_34 rfl (by rw [hR.nL]; decide) rfl rfl ?_
        refine am_aload_n hB d_RW_shortenTrace_35 rfl rfl rfl ?_
        refine am_iload_n hB d_RW_shortenTrace_36 rfl rfl ?_
        refine am_aload_n hB d_RW_shortenTrace_37 rfl rfl rfl ?_
        refine am_ifnonnullN hB d_RW_shortenTrace_38 ?_
        refine am_aload_n hB d_RW_shortenTrace_41 rfl rfl rfl ?_
        refine am_getf hB d_RW_shortenTrace_42 F_RW_33_3 r0 rfl ?_
        refine am_goto (tgt := 52) hB d_RW_shortenTrace_45 (by decide) ?_
        exact head ty x.1.1 .null rfl (fun h' f' => (hs h' f').2.1) (by rw [hpc])
      | some p =>
        show am_Z X 34 [.ref k, am_n i, .ref (bT + 3 + 3 * i), v3, v4, v5] [.ref (bM + 4 + 3 * p)] h1 0 0
        obtain ⟨cc, hcc, -⟩ := pc_real_get hpc
        obtain ⟨q8, fm, em, rcl, -, -⟩ := w1.2.2.1.cls hcc
        refine am_astore_n hB d_RW_shortenTrace_34 rfl (by rw [hR.nL]; decide) rfl rfl ?_
        refine am_aload_n hB d_RW_shortenTrace_35 rfl rfl rfl ?_
        refine am_iload_n hB d_RW_shortenTrace_36 rfl rfl ?_
        refine am_aload_n hB d_RW_shortenTrace_37 rfl rfl rfl ?_
        refine am_ifnonnullR (tgt := 48) hB d_RW_shortenTrace_38 (by decide) ?_
        refine am_aload_n hB d_RW_shortenTrace_48 rfl rfl rfl ?_
        refine am_getf hB d_RW_shortenTrace_49 F_RW_151_0 rcl rfl ?_
        exact head (bM + 6 + 3 * p) cc.2 _ rfl (w1.cs hcc).2 (by rw [hpc]; simp only [pm_cl_eq hcc])
  refine ai_const hB d_RW_shortenTrace_0 ?_
  refine am_istore_n hB d_RW_shortenTrace_1 rfl (by rw [hR.nL]; decide) rfl ?_
  refine loop T.1.length 0 h _ _ _ _ (by omega) ?_ am_fr.rf
  rw [s_all, List.append_nil]
  exact w
