/-! a line more, in numbers and in words -/
def mp_wd (g : Int → Int) (v : Int × Int × Int × Int × Int × Int × Int × Int × Int × Int) : pm_W := ((nm g v.1 v.2.1, nm g v.2.2.1 v.2.2.2.1, nm g v.2.2.2.2.1 v.2.2.2.2.2.1), (v.2.2.2.2.2.2.1, v.2.2.2.2.2.2.2.1, v.2.2.2.2.2.2.2.2.1, v.2.2.2.2.2.2.2.2.2))
theorem mp_rep.addL {g : Int → Int} {s s1 s' : Nat → Int} {S : pm_S} {p i : Nat} {v : Int × Int × Int × Int × Int × Int × Int × Int × Int × Int} (R : mp_rep g s S) (hp : S.1.length = p + 1) (hi : S.2.length = i) (hi32 : i < 32) (ln : mp_line s s1 i p v) (lv : mp_lv s1 i) (en : mp_ent g s1 s' i p) :
    mp_rep g s' (S.1, S.2 ++ [((mp_wd g v).1, (mp_wd g v).2, p, !pm_on S.2 (mp_wd g v) p)]) := by
  obtain ⟨C, L⟩ := S
  simp only at hp hi
  obtain ⟨R2, R8, R3, R32, R4, RC, RL, Rq⟩ := R
  simp only at R2 R8 R3 R32 R4 RC RL Rq
  obtain ⟨n1, n2, n3, n4, n5, n6, n7, n8, n9, n10, n11, K1⟩ := ln
  obtain ⟨E1, E2, E3, E4⟩ := en
  have p8 : p < 8 := by omega
  have k5 : s1 5 = s 5 := K1 5 (by omega) (by omega) (by omega) (by omega)
  have k4 : s1 4 = s 4 := K1 4 (by omega) (by omega) (by omega) (by omega)
  have k14 : s1 (14 + 7 * p) = s (14 + 7 * p) := K1 _ (by omega) (by omega) (by omega) (by omega)
  -- both ways
  have main : ∃ on : Bool, pm_on L (mp_wd g v) p = on ∧ ((on = true ∧ ∃ (q : Nat) (y z : pm_L), s 5 = q ∧ q < i ∧ L[q]? = some y ∧ y.2.2.2 = true ∧ s (71 + 12 * q) = i - q ∧ L.getLast? = some z ∧ (z.2.2.1 = y.2.2.1 ∧ z.2.1.1 = y.2.1.1 ∧ z.2.1.2.1 = y.2.1.2.1 ∧ z.1.2.2 = y.1.2.2) ∧ (v.2.2.2.2.2.2.1 ≠ -1 ∧ z.2.2.1 = p ∧ z.2.1.1 = v.2.2.2.2.2.2.1 ∧ z.2.1.2.1 = v.2.2.2.2.2.2.2.1 ∧ z.1.2.2 = nm g v.2.2.2.2.1 v.2.2.2.2.2.1) ∧ sp_go g s1 i q = true) ∨ (on = false ∧ (s1 5 = -1 ∨ ∃ q : Nat, s1 5 = q ∧ sp_go g s1 i q = false))) := by
    rcases Rq with ⟨q1, q2⟩ | ⟨q, y, q1, q2, q3, q4, q5, q6⟩
    · simp only at q1
      subst q1
      exact ⟨false, rfl, Or.inr ⟨rfl, Or.inl (by rw [k5]; exact q2)⟩⟩
    · simp only at q2 q3 q5 q6
      have ne : L ≠ [] := fun z => by rw [z] at q2; simp at q2
      obtain ⟨z, hz⟩ : ∃ z, L.getLast? = some z := ⟨L.getLast ne, List.getLast?_eq_some_getLast ne⟩
      have hzy := q6 z hz
      obtain ⟨⟨lv1, lv2, lv3, -⟩, ⟨-, -, t3⟩, ⟨u1, u2, -, -⟩, c1, -⟩ := RL q y q3
      have hgo : sp_go g s1 i q = pm_on L (mp_wd g v) p := by
        unfold sp_go pm_on
        rw [hz]
        rw [K1 (70 + 12 * q) (by omega) (by omega) (by omega) (by omega), K1 (72 + 12 * q) (by omega) (by omega) (by omega) (by omega), K1 (73 + 12 * q) (by omega) (by omega) (by omega) (by omega), K1 (68 + 12 * q) (by omega) (by omega) (by omega) (by omega), K1 (69 + 12 * q) (by omega) (by omega) (by omega) (by omega)]
        rw [sp_eq_nm lv.2.2.1.2.1 lv3.2.1, t3, n5, n6, n7, n8, n9, u1, u2, c1]
        rw [Bool.eq_iff_iff]
        constructor
        · intro hq
          simp only [Bool.and_eq_true, decide_eq_true_eq] at hq
          obtain ⟨a1, a2, a3, a4, a5⟩ := hq
          exact decide_eq_true ⟨a1, by rw [hzy.1]; omega, by rw [hzy.2.1]; exact a3.symm, by rw [hzy.2.2.1]; exact a4.symm, by rw [hzy.2.2.2]; exact a5.symm⟩
        · intro hq
          obtain ⟨a1, a2, a3, a4, a5⟩ := of_decide_eq_true hq
          simp only [Bool.and_eq_true, decide_eq_true_eq]
          rw [hzy.1] at a2
          rw [hzy.2.1] at a3
          rw [hzy.2.2.1] at a4
          rw [hzy.2.2.2] at a5
          exact ⟨a1, by omega, a3.symm, a4.symm, a5.symm⟩
      cases ho : pm_on L (mp_wd g v) p with
      | true =>
        refine ⟨true, rfl, Or.inl ⟨rfl, q, y, z, q1, by omega, q3, q4, by rw [q5, hi], hz, hzy, ?_, by rw [hgo, ho]⟩⟩
        unfold pm_on at ho
        rw [hz] at ho
        exact of_decide_eq_true ho
      | false => exact ⟨false, rfl, Or.inr ⟨rfl, Or.inr ⟨q, by rw [k5, q1], by rw [hgo, ho]⟩⟩⟩
  obtain ⟨on, hon, hcase⟩ := main
  rw [hon]
  -- what stays, in both
  have K : ∀ r, r ≠ 0 → r ≠ 3 → r ≠ 4 → r ≠ 5 → r ≠ 6 → r ≠ 7 → r ≠ 13 + 7 * p → r ≠ 14 + 7 * p → (r < 64 + 12 * i ∨ 75 + 12 * i < r) → (on = true → ∀ q : Nat, s 5 = q → r ≠ 71 + 12 * q) → s' r = s r := by
    intro r r0 r3 r4 r5 r6 r7 r13 r14 rr rq
    rcases hcase with ⟨ho, q, y, z, q1, q2, q3, q4, q5, q6, q7, q8, q9⟩ | ⟨ho, hz⟩
    · rw [(E1 q (by rw [k5, q1]) q9).2.2.2.2.2 r r3 r13 (by omega) (rq ho q q1), K1 r r0 r6 r7 rr]
    · rw [(E2 hz).2.2.2.2 r r3 r4 r5 r13 r14 (by omega), K1 r r0 r6 r7 rr]
  have Ki : ∀ r, 64 + 12 * i ≤ r → r ≤ 75 + 12 * i → r ≠ 71 + 12 * i → s' r = s1 r := by
    intro r r1 r2 r3
    rcases hcase with ⟨ho, q, y, z, q1, q2, q3, q4, q5, q6, q7, q8, q9⟩ | ⟨ho, hz⟩
    · exact (E1 q (by rw [k5, q1]) q9).2.2.2.2.2 r (by omega) (by omega) r3 (by omega)
    · exact (E2 hz).2.2.2.2 r (by omega) (by omega) (by omega) (by omega) (by omega) r3
  have lvi : mp_lv s' i := by
    unfold mp_lv at lv ⊢
    rw [Ki (64 + 12 * i) (by omega) (by omega) (by omega), Ki (65 + 12 * i) (by omega) (by omega) (by omega), Ki (66 + 12 * i) (by omega) (by omega) (by omega), Ki (67 + 12 * i) (by omega) (by omega) (by omega), Ki (68 + 12 * i) (by omega) (by omega) (by omega), Ki (69 + 12 * i) (by omega) (by omega) (by omega), Ki (70 + 12 * i) (by omega) (by omega) (by omega), Ki (72 + 12 * i) (by omega) (by omega) (by omega), Ki (73 + 12 * i) (by omega) (by omega) (by omega), Ki (74 + 12 * i) (by omega) (by omega) (by omega), Ki (75 + 12 * i) (by omega) (by omega) (by omega)]
    exact lv
  refine ⟨?_, R8, ?_, ?_, ?_, ?_, ?_, ?_⟩
  · show s' 2 = _
    rw [K 2 (by omega) (by omega) (by omega) (by omega) (by omega) (by omega) (by omega) (by omega) (by omega) (fun _ q _ => by omega), R2]
  · rw [E3]
    simp only [List.length_append, List.length_cons, List.length_nil]
    omega
  · simp only [List.length_append, List.length_cons, List.length_nil]
    omega
  · simp only [List.filter_append, List.length_append]
    rcases hcase with ⟨rfl, q, y, z, q1, q2, q3, q4, q5, q6, q7, q8, q9⟩ | ⟨rfl, hz⟩
    · rw [(E1 q (by rw [k5, q1]) q9).2.1, k4, R4]
      rfl
    · rw [(E2 hz).2.1, k4, R4]
      rfl
  · -- class lines
    intro j c hc
    simp only at hc
    have jl := pm_lt hc
    obtain ⟨c1, c2, c3, c4, c5, c6, c7, c8⟩ := RC j c hc
    simp only at c5 c6 c7 c8
    have e8 : s' (8 + 7 * j) = s (8 + 7 * j) := K _ (by omega) (by omega) (by omega) (by omega) (by omega) (by omega) (by omega) (by omega) (by omega) (fun _ q _ => by omega)
    have e9 : s' (9 + 7 * j) = s (9 + 7 * j) := K _ (by omega) (by omega) (by omega) (by omega) (by omega) (by omega) (by omega) (by omega) (by omega) (fun _ q _ => by omega)
    have e10 : s' (10 + 7 * j) = s (10 + 7 * j) := K _ (by omega) (by omega) (by omega) (by omega) (by omega) (by omega) (by omega) (by omega) (by omega) (fun _ q _ => by omega)
    have e11 : s' (11 + 7 * j) = s (11 + 7 * j) := K _ (by omega) (by omega) (by omega) (by omega) (by omega) (by omega) (by omega) (by omega) (by omega) (fun _ q _ => by omega)
    have e12 : s' (12 + 7 * j) = s (12 + 7 * j) := K _ (by omega) (by omega) (by omega) (by omega) (by omega) (by omega) (by omega) (by omega) (by omega) (fun _ q _ => by omega)
    unfold rp_C
    rw [e8, e9, e10, e11, e12]
    simp only [List.length_append, List.length_cons, List.length_nil, List.filter_append]
    by_cases jp : j = p
    · subst jp
      have c8' := c8 (by omega)
      rw [E4]
      refine ⟨c1, c2, c3, c4, by omega, ?_, ?_, fun _ => by omega⟩
      · intro k x hx
        rcases pm_get hx with ⟨hk, hx⟩ | ⟨hk, rfl⟩
        · have := c6 k x hx
          rw [this]
          omega
        · simp only [true_iff]
          omega
      · rcases hcase with ⟨rfl, q, y, z, q1, q2, q3, q4, q5, q6, q7, q8, q9⟩ | ⟨rfl, hz⟩
        · rw [(E1 q (by rw [k5, q1]) q9).2.2.1, k14, c7]
          rfl
        · rw [(E2 hz).2.2.1, k14, c7]
          rw [show (List.filter (fun (x : pm_L) => x.2.2.2 && decide (x.2.2.1 = j)) [((mp_wd g v).1, (mp_wd g v).2, j, !false)]).length = 1 by simp]
          omega
    · have e13 : s' (13 + 7 * j) = s (13 + 7 * j) := K _ (by omega) (by omega) (by omega) (by omega) (by omega) (by omega) (by omega) (by omega) (by omega) (fun _ q _ => by omega)
      have e14 : s' (14 + 7 * j) = s (14 + 7 * j) := K _ (by omega) (by omega) (by omega) (by omega) (by omega) (by omega) (by omega) (by omega) (by omega) (fun _ q _ => by omega)
      rw [e13, e14]
      refine ⟨c1, c2, c3, c4, by omega, ?_, ?_, fun _ => by omega⟩
      · intro k x hx
        rcases pm_get hx with ⟨hk, hx⟩ | ⟨hk, rfl⟩
        · exact c6 k x hx
        · simp only
          omega
      · rw [c7, show (List.filter (fun (x : pm_L) => x.2.2.2 && decide (x.2.2.1 = j)) [((mp_wd g v).1, (mp_wd g v).2, p, !on)]).length = 0 by simp; intro _; omega]
        omega
  · -- method lines
    intro j x hx
    simp only at hx
    rcases pm_get hx with ⟨hj, hx1⟩ | ⟨hj, hx1⟩
    · obtain ⟨l1, l2, l3, l4, l5, l6, l7⟩ := RL j x hx1
      simp only at l5 l6 l7
      have kk : ∀ r, 64 + 12 * j ≤ r → r ≤ 75 + 12 * j → r ≠ 71 + 12 * j → s' r = s r := fun r r1 r2 r3 => K r (by omega) (by omega) (by omega) (by omega) (by omega) (by omega) (by omega) (by omega) (by omega) (fun _ q _ => by omega)
      have e64 := kk (64 + 12 * j) (by omega) (by omega) (by omega)
      have e65 := kk (65 + 12 * j) (by omega) (by omega) (by omega)
      have e66 := kk (66 + 12 * j) (by omega) (by omega) (by omega)
      have e67 := kk (67 + 12 * j) (by omega) (by omega) (by omega)
      have e68 := kk (68 + 12 * j) (by omega) (by omega) (by omega)
      have e69 := kk (69 + 12 * j) (by omega) (by omega) (by omega)
      have e70 := kk (70 + 12 * j) (by omega) (by omega) (by omega)
      have e72 := kk (72 + 12 * j) (by omega) (by omega) (by omega)
      have e73 := kk (73 + 12 * j) (by omega) (by omega) (by omega)
      have e74 := kk (74 + 12 * j) (by omega) (by omega) (by omega)
      have e75 := kk (75 + 12 * j) (by omega) (by omega) (by omega)
      unfold rp_L mp_lv
      rw [e64, e65, e66, e67, e68, e69, e70, e72, e73, e74, e75]
      simp only [List.length_append, List.length_cons, List.length_nil]
      refine ⟨l1, l2, l3, l4, l5, fun hl => ?_, fun hl => ?_⟩
      · obtain ⟨l61, l62, l63⟩ := l6 hl
        refine ⟨?_, l62, fun y hy => l63 y ?_⟩
        · rcases hcase with ⟨ho, q, y, z, q1, q2, q3, q4, q5, q6, q7, q8, q9⟩ | ⟨ho, hz⟩
          · have jq : j ≠ q := fun z => by
              subst z
              rw [q3] at hx1
              cases hx1
              rw [hl] at q4
              cases q4
            rw [K _ (by omega) (by omega) (by omega) (by omega) (by omega) (by omega) (by omega) (by omega) (by omega) (fun _ q' hq' => by omega), l61]
          · rw [K _ (by omega) (by omega) (by omega) (by omega) (by omega) (by omega) (by omega) (by omega) (by omega) (fun z => by rw [ho] at z; cases z), l61]
        · rcases pm_get hy with ⟨-, hy⟩ | ⟨hk, -⟩
          · exact hy
          · omega
      · obtain ⟨m, m1, m2, m3, m4, m5⟩ := l7 hl
        rcases hcase with ⟨rfl, q, y, z, q1, q2, q3, q4, q5, q6, q7, q8, q9⟩ | ⟨rfl, hz⟩
        · by_cases jq : j = q
          · subst jq
            refine ⟨m + 1, ?_, by omega, ?_, ?_, ?_⟩
            · rw [(E1 j (by rw [k5, q1]) q9).2.2.2.2.1, K1 _ (by omega) (by omega) (by omega) (by omega), m1]
              omega
            · omega
            · intro k w k1 k2 hw
              rcases pm_get hw with ⟨hk, hw⟩ | ⟨hk, rfl⟩
              · exact m4 k w k1 (by omega) hw
              · rfl
            · intro w hw
              have := pm_lt hw
              simp only [List.length_append, List.length_cons, List.length_nil] at this
              omega
          · have jm : j + m < L.length := by
              by_cases z : j + m < L.length
              · exact z
              · have hjm : j + m = L.length := by omega
                exfalso
                rcases Nat.lt_or_gt_of_ne jq with w | w
                · have := m4 q y w (by omega) q3
                  rw [this] at q4
                  cases q4
                · -- j lies in q's group, yet begins one
                  obtain ⟨mq, a1, a2, a3, a4, a5⟩ := (RL q y q3).2.2.2.2.2.2 q4
                  simp only at a3
                  have := a4 j x w (by omega) hx1
                  rw [this] at hl
                  cases hl
            refine ⟨m, ?_, m2, by omega, ?_, ?_⟩
            · rw [K _ (by omega) (by omega) (by omega) (by omega) (by omega) (by omega) (by omega) (by omega) (by omega) (fun _ q' hq' => by omega), m1]
            · intro k w k1 k2 hw
              rcases pm_get hw with ⟨hk, hw⟩ | ⟨hk, rfl⟩
              · exact m4 k w k1 (by omega) hw
              · omega
            · intro w hw
              rcases pm_get hw with ⟨hk, hw⟩ | ⟨hk, rfl⟩
              · exact m5 w hw
              · omega
        · refine ⟨m, ?_, m2, by omega, ?_, ?_⟩
          · rw [K _ (by omega) (by omega) (by omega) (by omega) (by omega) (by omega) (by omega) (by omega) (by omega) (fun z => by cases z), m1]
          · intro k w k1 k2 hw
            rcases pm_get hw with ⟨hk, hw⟩ | ⟨hk, rfl⟩
            · exact m4 k w k1 (by omega) hw
            · omega
          · intro w hw
            rcases pm_get hw with ⟨hk, hw⟩ | ⟨hk, rfl⟩
            · exact m5 w hw
            · rfl
    · -- the new one
      rw [hi] at hj
      subst hj
      subst hx1
      unfold rp_L
      rw [Ki (64 + 12 * j) (by omega) (by omega) (by omega), Ki (65 + 12 * j) (by omega) (by omega) (by omega), Ki (66 + 12 * j) (by omega) (by omega) (by omega), Ki (67 + 12 * j) (by omega) (by omega) (by omega), Ki (68 + 12 * j) (by omega) (by omega) (by omega), Ki (69 + 12 * j) (by omega) (by omega) (by omega), Ki (70 + 12 * j) (by omega) (by omega) (by omega), Ki (72 + 12 * j) (by omega) (by omega) (by omega), Ki (73 + 12 * j) (by omega) (by omega) (by omega), Ki (74 + 12 * j) (by omega) (by omega) (by omega), Ki (75 + 12 * j) (by omega) (by omega) (by omega)]
      rw [n1, n2, n3, n4, n5, n6, n7, n8, n9, n10, n11]
      refine ⟨lvi, ⟨rfl, rfl, rfl⟩, ⟨rfl, rfl, rfl, rfl⟩, rfl, ?_, fun hl => ?_, fun hl => ?_⟩
      · show p < C.length
        omega
      · rcases hcase with ⟨rfl, q, y, z, q1, q2, q3, q4, q5, q6, q7, q8, q9⟩ | ⟨rfl, hz⟩
        · refine ⟨(E1 q (by rw [k5, q1]) q9).2.2.2.1, by omega, fun w hw => ?_⟩
          simp only at hw
          rcases pm_get hw with ⟨hk, hw⟩ | ⟨hk, rfl⟩
          · have : z = w := by
              rw [List.getLast?_eq_getElem?, hi, hw] at q6
              exact (Option.some.inj q6).symm
            subst this
            exact q8
          · omega
        · cases hl
      · rcases hcase with ⟨rfl, q, y, z, q1, q2, q3, q4, q5, q6, q7, q8, q9⟩ | ⟨rfl, hz⟩
        · cases hl
        · refine ⟨1, (E2 hz).2.2.2.1, by omega, ?_, ?_, ?_⟩
          · simp only [List.length_append, List.length_cons, List.length_nil]
            omega
          · intro k w k1 k2 hw
            omega
          · intro w hw
            have := pm_lt hw
            simp only [List.length_append, List.length_cons, List.length_nil] at this
            omega
  · -- the latest group
    rcases hcase with ⟨rfl, q, y, z, q1, q2, q3, q4, q5, q6, q7, q8, q9⟩ | ⟨rfl, hz⟩
    · have ee := E1 q (by rw [k5, q1]) q9
      refine Or.inr ⟨q, y, by rw [ee.1, k5, q1], ?_, ?_, q4, ?_, ?_⟩
      · simp only [List.length_append, List.length_cons, List.length_nil]
        omega
      · simp only
        rw [List.getElem?_append_left (by omega), q3]
      · rw [ee.2.2.2.2.1, K1 _ (by omega) (by omega) (by omega) (by omega), q5]
        simp only [List.length_append, List.length_cons, List.length_nil]
        omega
      · intro w hw
        simp only [List.getLast?_append, List.getLast?_singleton, Option.some_or, Option.some.injEq] at hw
        subst hw
        simp only [mp_wd]
        obtain ⟨t1, t2, t3, t4⟩ := q7
        obtain ⟨u0, u1, u2, u3, u4⟩ := q8
        exact ⟨by rw [← u1, t1], by rw [← u2, t2], by rw [← u3, t3], by rw [← u4, t4]⟩
    · have ee := E2 hz
      refine Or.inr ⟨i, ((mp_wd g v).1, (mp_wd g v).2, p, !false), ee.1, ?_, ?_, ?_, ?_, ?_⟩
      · simp only [List.length_append, List.length_cons, List.length_nil]
        omega
      · simp only
        rw [List.getElem?_append_right (by omega), hi, Nat.sub_self]
        rfl
      · rfl
      · rw [ee.2.2.2.1]
        simp only [List.length_append, List.length_cons, List.length_nil]
        omega
      · intro w hw
        simp only [List.getLast?_append, List.getLast?_singleton, Option.some_or, Option.some.injEq] at hw
        subst hw
        exact ⟨rfl, rfl, rfl, rfl⟩
theorem mp_rep.addC {g : Int → Int} {s s' : Nat → Int} {S : pm_S} {n : Nat} {j k : Int} (R : mp_rep g s S) (hn : S.1.length = n) (hn8 : n < 8) (h0 : 0 ≤ s 0) (h1 : s 0 ≤ j) (h2 : j + 4 ≤ k) (h3 : k ≤ 600) (en : mp_cent s s' n j k) :
    mp_rep g s' (S.1 ++ [(nm g (s 0) j, nm g (j + 4) k)], S.2) := by
  obtain ⟨C, L⟩ := S
  simp only at hn
  obtain ⟨R2, R8, R3, R32, R4, RC, RL, Rq⟩ := R
  simp only at R2 R8 R3 R32 R4 RC RL Rq
  obtain ⟨E2, E8, E9, E10, E11, E12, E13, E14, K⟩ := en
  refine ⟨?_, ?_, ?_, R32, ?_, ?_, ?_, ?_⟩
  · rw [E2]
    simp only [List.length_append, List.length_cons, List.length_nil]
    omega
  · simp only [List.length_append, List.length_cons, List.length_nil]
    omega
  · rw [K 3 (by omega) (by omega) (by omega), R3]
  · rw [K 4 (by omega) (by omega) (by omega), R4]
  · intro i c hc
    simp only at hc
    rcases pm_get hc with ⟨hi, hc⟩ | ⟨hi, rfl⟩
    · obtain ⟨c1, c2, c3, c4, c5, c6, c7, c8⟩ := RC i c hc
      unfold rp_C
      rw [K (8 + 7 * i) (by omega) (by omega) (by omega), K (9 + 7 * i) (by omega) (by omega) (by omega), K (10 + 7 * i) (by omega) (by omega) (by omega), K (11 + 7 * i) (by omega) (by omega) (by omega), K (12 + 7 * i) (by omega) (by omega) (by omega), K (13 + 7 * i) (by omega) (by omega) (by omega), K (14 + 7 * i) (by omega) (by omega) (by omega)]
      refine ⟨c1, c2, c3, c4, c5, c6, c7, fun hz => ?_⟩
      simp only [List.length_append, List.length_cons, List.length_nil] at hz
      omega
    · rw [hn] at hi
      subst hi
      unfold rp_C
      rw [E8, E9, E10, E11, E12, E13, E14, R3]
      refine ⟨by omega, by omega, rfl, rfl, by simp only; omega, ?_, ?_, fun _ => rfl⟩
      · intro q x hx
        simp only at hx
        have := (RL q x hx).2.2.2.2.1
        simp only at this
        omega
      · have : List.filter (fun (x : pm_L) => x.2.2.2 && decide (x.2.2.1 = i)) L = [] := by
          rw [List.filter_eq_nil_iff]
          intro x hx
          obtain ⟨q, hq⟩ := List.getElem?_of_mem hx
          have := (RL q x hq).2.2.2.2.1
          simp only at this
          simp only [Bool.and_eq_true, decide_eq_true_eq]
          omega
        simp only [this]
        rfl
  · intro i x hx
    simp only at hx
    have il := pm_lt hx
    obtain ⟨l1, l2, l3, l4, l5, l6, l7⟩ := RL i x hx
    have kk : ∀ r, 64 + 12 * i ≤ r → s' r = s r := fun r r1 => K r (by omega) (by omega) (by omega)
    unfold rp_L mp_lv
    rw [kk (64 + 12 * i) (by omega), kk (65 + 12 * i) (by omega), kk (66 + 12 * i) (by omega), kk (67 + 12 * i) (by omega), kk (68 + 12 * i) (by omega), kk (69 + 12 * i) (by omega), kk (70 + 12 * i) (by omega), kk (71 + 12 * i) (by omega), kk (72 + 12 * i) (by omega), kk (73 + 12 * i) (by omega), kk (74 + 12 * i) (by omega), kk (75 + 12 * i) (by omega)]
    refine ⟨l1, l2, l3, l4, ?_, l6, l7⟩
    simp only [List.length_append, List.length_cons, List.length_nil]
    simp only at l5
    omega
  · rcases Rq with ⟨q1, q2⟩ | ⟨q, y, q1, q2, q3, q4, q5, q6⟩
    · exact Or.inl ⟨q1, by rw [K 5 (by omega) (by omega) (by omega)]; exact q2⟩
    · exact Or.inr ⟨q, y, by rw [K 5 (by omega) (by omega) (by omega)]; exact q1, q2, q3, q4, by rw [K _ (by omega) (by omega) (by omega)]; exact q5, q6⟩
/-- here, end and the call do not matter -/
theorem mp_rep.cg {g : Int → Int} {s s' : Nat → Int} {S : pm_S} (R : mp_rep g s S) (K : ∀ r, r ≠ 0 → r ≠ 1 → r ≠ 6 → r ≠ 7 → s' r = s r) : mp_rep g s' S := by
  obtain ⟨R2, R8, R3, R32, R4, RC, RL, Rq⟩ := R
  refine ⟨by rw [K 2 (by omega) (by omega) (by omega) (by omega)]; exact R2, R8, by rw [K 3 (by omega) (by omega) (by omega) (by omega)]; exact R3, R32, by rw [K 4 (by omega) (by omega) (by omega) (by omega)]; exact R4, fun i c hc => ?_, fun i x hx => ?_, ?_⟩
  · have kk : ∀ r, 8 ≤ r → s' r = s r := fun r r1 => K r (by omega) (by omega) (by omega) (by omega)
    have := RC i c hc
    unfold rp_C at this ⊢
    rw [kk (8 + 7 * i) (by omega), kk (9 + 7 * i) (by omega), kk (10 + 7 * i) (by omega), kk (11 + 7 * i) (by omega), kk (12 + 7 * i) (by omega), kk (13 + 7 * i) (by omega), kk (14 + 7 * i) (by omega)]
    exact this
  · have kk : ∀ r, 64 + 12 * i ≤ r → s' r = s r := fun r r1 => K r (by omega) (by omega) (by omega) (by omega)
    have := RL i x hx
    unfold rp_L mp_lv at this ⊢
    rw [kk (64 + 12 * i) (by omega), kk (65 + 12 * i) (by omega), kk (66 + 12 * i) (by omega), kk (67 + 12 * i) (by omega), kk (68 + 12 * i) (by omega), kk (69 + 12 * i) (by omega), kk (70 + 12 * i) (by omega), kk (71 + 12 * i) (by omega), kk (72 + 12 * i) (by omega), kk (73 + 12 * i) (by omega), kk (74 + 12 * i) (by omega), kk (75 + 12 * i) (by omega)]
    exact this
  · rcases Rq with ⟨q1, q2⟩ | ⟨q, y, q1, q2, q3, q4, q5, q6⟩
    · exact Or.inl ⟨q1, by rw [K 5 (by omega) (by omega) (by omega) (by omega)]; exact q2⟩
    · exact Or.inr ⟨q, y, by rw [K 5 (by omega) (by omega) (by omega) (by omega)]; exact q1, q2, q3, q4, by rw [K _ (by omega) (by omega) (by omega) (by omega)]; exact q5, q6⟩
