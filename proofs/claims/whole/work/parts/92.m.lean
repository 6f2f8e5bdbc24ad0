/-! a printed text, line by line -/
abbrev kv_L : Type := (Bool × List Int) ⊕ ((List Int × List Int) ⊕ List Int)
def kv_t : kv_L → List Int
  | .inl (c, X) => (if c = true then sp_wd 3 else []) ++ X
  | .inr (.inl (A, B)) => sp_wd 5 ++ (A ++ ([40] ++ B))
  | .inr (.inr X) => sp_wd 6 ++ X
def hd_ok (X : List Int) : Prop := no10 X ∧ ∃ n r, X = n ++ r ∧ n ≠ [] ∧ nmo n ∧ (r = [] ∨ ∃ q, r = 58 :: q)
def kv_ok : kv_L → Prop
  | .inl (c, X) => c = true ∧ hd_ok X
  | .inr (.inl (A, B)) => nmo A ∧ no10 B
  | .inr (.inr X) => no10 X
def kv_x (K : List kv_L) : List Int := K.flatMap (fun x => kv_t x ++ [10])
def kv_c : kv_L → Int
  | .inl _ => 0
  | .inr (.inl _) => 1
  | .inr (.inr _) => 0
theorem kv_x_cons (x : kv_L) (K : List kv_L) : kv_x (x :: K) = kv_t x ++ ([10] ++ kv_x K) := by
  unfold kv_x
  rw [List.flatMap_cons, List.append_assoc]
def kw (X : List Int) (z : Int) : Prop := ∃ K, X = kv_x K ∧ (∀ x ∈ K, kv_ok x) ∧ sm (K.map kv_c) = z
def kw1 (X : List Int) (z : Int) : Prop := ∃ Y K, X = kv_x (.inl (false, Y) :: K) ∧ hd_ok Y ∧ (∀ x ∈ K, kv_ok x) ∧ sm (K.map kv_c) = z
def kw0 (X : List Int) (z : Int) : Prop := (X = [] ∧ z = 0) ∨ kw1 X z
theorem kw_nil : kw [] 0 := ⟨[], rfl, fun x hx => absurd hx List.not_mem_nil, rfl⟩
theorem kw.app {X Y : List Int} {z y : Int} (h1 : kw X z) (h2 : kw Y y) : kw (X ++ Y) (z + y) := by
  obtain ⟨K, rfl, a1, a2⟩ := h1
  obtain ⟨L, rfl, b1, b2⟩ := h2
  refine ⟨K ++ L, ?_, fun x hx => ?_, ?_⟩
  · unfold kv_x
    rw [List.flatMap_append]
  · rcases List.mem_append.mp hx with hx | hx
    · exact a1 x hx
    · exact b1 x hx
  · rw [List.map_append, sm_app, a2, b2]
theorem kw1.app {X Y : List Int} {z y : Int} (h1 : kw1 X z) (h2 : kw Y y) : kw1 (X ++ Y) (z + y) := by
  obtain ⟨H, K, rfl, h, a1, a2⟩ := h1
  obtain ⟨L, rfl, b1, b2⟩ := h2
  refine ⟨H, K ++ L, ?_, h, fun x hx => ?_, ?_⟩
  · unfold kv_x
    rw [List.flatMap_cons, List.flatMap_cons, List.flatMap_append, List.append_assoc]
  · rcases List.mem_append.mp hx with hx | hx
    · exact a1 x hx
    · exact b1 x hx
  · rw [List.map_append, sm_app, a2, b2]
theorem kw_one {x : kv_L} (h : kv_ok x) : kw (kv_t x ++ [10]) (kv_c x) := by
  refine ⟨[x], ?_, fun y hy => ?_, ?_⟩
  · rw [kv_x_cons]
    rfl
  · rw [List.mem_singleton.mp hy]
    exact h
  · simp only [List.map_cons, List.map_nil, sm, Int.add_zero]
theorem no10.app {a b : List Int} (h1 : no10 a) (h2 : no10 b) : no10 (a ++ b) := fun c hc => by
  rcases List.mem_append.mp hc with hc | hc
  · exact h1 c hc
  · exact h2 c hc
theorem nmo.app {a b : List Int} (h1 : nmo a) (h2 : nmo b) : nmo (a ++ b) := fun c hc => by
  rcases List.mem_append.mp hc with hc | hc
  · exact h1 c hc
  · exact h2 c hc
theorem nmo_46 : nmo [46] := fun c hc => by
  rw [List.mem_singleton.mp hc]
  unfold nch
  omega
theorem nmo_nil : nmo [] := fun c hc => absurd hc List.not_mem_nil
theorem no10_nil : no10 [] := fun c hc => absurd hc List.not_mem_nil
theorem no10_dg (v u : Int) : no10 (sp_dg v u) := fun c hc => by
  unfold sp_dg at hc
  split at hc
  · rw [List.mem_singleton.mp hc]
    omega
  · exact absurd hc List.not_mem_nil
theorem no10_num (v : Int) : no10 (sp_num v) := by
  unfold sp_num
  refine (((no10_dg v 1000).app (no10_dg v 100)).app (no10_dg v 10)).app (fun c hc => ?_)
  rw [List.mem_singleton.mp hc]
  omega
theorem no10_wd : ∀ k, k < 15 → k ≠ 12 → ∀ c ∈ sp_wd k, c ≠ 10 := by decide
theorem no10_fl {o : List Int} (h : no10 o) (a : Int) (n : Nat) : no10 (sp_sp (fl o) a n) := fun c hc => by
  unfold sp_sp at hc
  rw [List.mem_map] at hc
  obtain ⟨i, -, rfl⟩ := hc
  unfold fl
  rw [List.getD_eq_getElem?_getD]
  cases z : o[(a + (i : Nat)).toNat]? with
  | none => decide
  | some v => exact h v (List.mem_of_getElem? z)
theorem no10_file {o : List Int} (h : no10 o) : no10 (fn_file o) := by
  unfold fn_file sp_file
  exact (no10_fl h _ _).app (no10_wd 13 (by decide) (by decide))
theorem kw_open {o m F : List Int} (z : Int) (ho : nmo o) (hm : nmo m) (hF : no10 F) : kw (w_open o m ++ F ++ w_close z) 1 := by
  have e : w_open o m ++ F ++ w_close z = kv_t (.inr (.inl (o ++ [46] ++ m, F ++ (if z = -1 then [] else 58 :: sp_num z) ++ [41]))) ++ [10] := by
    unfold w_open w_close kv_t
    rw [show sp_wd 12 = [41] ++ [10] from rfl]
    simp only [List.append_assoc]
  rw [e]
  refine kw_one ⟨(ho.app nmo_46).app hm, (hF.app ?_).app (fun c hc => ?_)⟩
  · split
    · exact no10_nil
    · intro c hc
      rcases List.mem_cons.mp hc with rfl | hc
      · decide
      · exact no10_num z c hc
  · rw [List.mem_singleton.mp hc]
    decide
theorem pm_cl_nm {S : pm_S} (h : pm_nm S) (p : Nat) : nmo (pm_cl S p).1 ∧ nmo (pm_cl S p).2 := by
  unfold pm_cl
  cases z : S.1[p]? with
  | none => exact ⟨nmo_nil, nmo_nil⟩
  | some c => exact ⟨(h.1 c (List.mem_of_getElem? z)).2.1, (h.1 c (List.mem_of_getElem? z)).2.2.2⟩
theorem pm_ln_nm {S : pm_S} (h : pm_nm S) (p : Nat) : nmo (pm_ln S p).1.1 ∧ nmo (pm_ln S p).1.2.1 ∧ nmo (pm_ln S p).1.2.2 := by
  unfold pm_ln
  cases z : S.2[p]? with
  | none => exact ⟨nmo_nil, nmo_nil, nmo_nil⟩
  | some c => exact (h.2 c (List.mem_of_getElem? z)).1.2
def pf_nm (f : pt_F) : Prop := nmo f.1.1 ∧ nmo f.1.2.1 ∧ no10 f.1.2.2
theorem kw_same {f : pt_F} (h : pf_nm f) : kw (w_same f) 1 := kw_open f.2.2 h.1 h.2.1 h.2.2
theorem kw_real {o m : List Int} {f : pt_F} (ho : nmo o) (hm : nmo m) (h : pf_nm f) : kw (w_real o m f) 1 := by
  unfold w_real
  refine kw_open f.2.2 ho hm ?_
  split
  · exact no10_file ho.no
  · exact h.2.2
theorem kw_short {o m : List Int} {f : pt_F} (ho : nmo o) (hm : nmo m) (h : pf_nm f) : kw (w_short o m f) 1 := by
  unfold w_short
  refine kw_open f.2.2 ho hm ?_
  split
  · exact no10_wd 14 (by decide) (by decide)
  · exact h.2.2
theorem kw_ones {ln : Int} : ∀ L : List pm_L, (∀ x ∈ L, nmo x.1.1 ∧ nmo x.1.2.1) → kw (L.flatMap (w_one ln)) L.length
  | [], _ => kw_nil
  | x :: L, h => by
    have h1 := h x List.mem_cons_self
    have ih := kw_ones (ln := ln) L (fun y hy => h y (List.mem_cons_of_mem _ hy))
    rw [List.flatMap_cons, List.length_cons, show ((L.length + 1 : Nat) : Int) = 1 + (L.length : Nat) by omega]
    exact (kw_open _ h1.1 h1.2 (no10_file h1.1.no)).app ih
theorem r_txt_kw {S : pm_S} {f : pt_F} (hS : pm_nm S) (hf : pf_nm f) : kw (r_txt S f) (r_fc S f) := by
  unfold r_txt r_fc
  cases e1 : pc_brief S f.1.1 with
  | none => exact kw_same hf
  | some p =>
    simp only
    cases e2 : pf_around S p f.1.2.1 f.2.2 with
    | some a =>
      simp only
      have ha := sp_fd_lt _ _ e2
      have hl := pf_grp_len (S := S) (a := a) (by omega)
      have he := pf_end_le (S := S) (a := a) (by omega)
      have := kw_ones (ln := f.2.2) (pf_grp S a) (fun x hx => by
        have hm : x ∈ S.2 := List.mem_of_mem_drop (List.mem_of_mem_take hx)
        exact ⟨(hS.2 x hm).1.2.1, (hS.2 x hm).1.2.2.1⟩)
      rw [hl, show ((pf_end S a - a : Nat) : Int) = (pf_end S a : Nat) - (a : Int) by omega] at this
      exact this
    | none =>
      simp only
      cases e3 : pf_first S p f.1.2.1 with
      | none => exact kw_real (pm_cl_nm hS p).1 hf.2.1 hf
      | some q => exact kw_real (pm_ln_nm hS _).1 (pm_ln_nm hS _).2.1 hf
theorem s_txt_kw {S : pm_S} {f : pt_F} {F : List pt_F} (hS : pm_nm S) (hf : pf_nm f) : kw (s_txt S (f :: F)) 1 := by
  unfold s_txt
  split
  · simp only
    unfold s_alone
    cases e1 : pf_bare S f.1.1 f.1.2.1 with
    | some i => exact kw_short (pm_cl_nm hS _).2 (pm_ln_nm hS _).2.2 hf
    | none =>
      simp only
      cases e2 : pc_real S f.1.1 with
      | none => exact kw_same hf
      | some p => exact kw_short (pm_cl_nm hS p).2 hf.2.1 hf
  · exact kw_open _ (pm_cl_nm hS _).2 (pm_ln_nm hS _).2.2 (no10_wd 14 (by decide) (by decide))
theorem s_frs_kw {S : pm_S} (hS : pm_nm S) : ∀ (n : Nat) (F : List pt_F), (∀ f ∈ F, pf_nm f) → kw (s_frs S n F) (s_opn S n F)
  | 0, _, _ => kw_nil
  | _ + 1, [], _ => kw_nil
  | n + 1, f :: F, h => (s_txt_kw hS (h f List.mem_cons_self)).app (s_frs_kw hS n _ (fun y hy => h y (List.mem_of_mem_drop hy)))
theorem r_frs_kw {S : pm_S} (hS : pm_nm S) : ∀ F : List pt_F, (∀ f ∈ F, pf_nm f) → kw (F.flatMap (r_txt S)) (sm (F.map (r_fc S)))
  | [], _ => kw_nil
  | f :: F, h => by
    rw [List.flatMap_cons, List.map_cons, sm]
    exact (r_txt_kw hS (h f List.mem_cons_self)).app (r_frs_kw hS F (fun y hy => h y (List.mem_cons_of_mem _ hy)))
theorem kw_more (x : pt_H) : kw (w_more x) 0 := by
  unfold w_more
  split
  · exact kw_nil
  · have e : sp_wd 6 ++ sp_num x.2.1 ++ sp_wd 7 ++ [10] = kv_t (.inr (.inr (sp_num x.2.1 ++ sp_wd 7))) ++ [10] := by
      unfold kv_t
      simp only [List.append_assoc]
    rw [e]
    exact kw_one (show no10 _ from (no10_num _).app (no10_wd 7 (by decide) (by decide)))
theorem hd_ok_of {ty : List Int} {x : pt_H} (h1 : ty ≠ []) (h2 : nmo ty) (h3 : no10 x.1.2.2) : hd_ok (ty ++ (if x.1.2.1 = true then sp_wd 4 ++ x.1.2.2 else [])) := by
  refine ⟨h2.no.app ?_, ty, _, rfl, h1, h2, ?_⟩
  · split
    · exact no10.app (no10_wd 4 (by decide) (by decide)) h3
    · exact no10_nil
  · split
    · exact Or.inr ⟨_, rfl⟩
    · exact Or.inl rfl
theorem kw_head0 {ty : List Int} {x : pt_H} (h1 : ty ≠ []) (h2 : nmo ty) (h3 : no10 x.1.2.2) : kw1 (w_head 0 ty x) 0 := by
  refine ⟨_, [], ?_, hd_ok_of h1 h2 h3, fun x hx => absurd hx List.not_mem_nil, rfl⟩
  unfold w_head
  rw [kv_x_cons]
  simp only [kv_t, if_true, List.nil_append, List.append_assoc]
  rfl
theorem kw_head {n : Nat} {ty : List Int} {x : pt_H} (hn : n ≠ 0) (h1 : ty ≠ []) (h2 : nmo ty) (h3 : no10 x.1.2.2) : kw (w_head n ty x) 0 := by
  have e : w_head n ty x = kv_t (.inl (true, ty ++ (if x.1.2.1 = true then sp_wd 4 ++ x.1.2.2 else []))) ++ [10] := by
    unfold w_head kv_t
    simp only [hn, if_false, if_true, List.append_assoc]
  rw [e]
  exact kw_one ⟨rfl, hd_ok_of h1 h2 h3⟩
theorem t_frs_nm {T : pt_S} (h : pt_nm T) (x : pt_H) : ∀ f ∈ t_frs T x, pf_nm f := fun f hf => h.2 f (List.mem_of_mem_drop (List.mem_of_mem_take hf))
theorem ty_brief {S : pm_S} {n : List Int} (hS : pm_nm S) (h1 : n ≠ []) (h2 : nmo n) : (match pc_brief S n with
    | none => n
    | some p => (pm_cl S p).1) ≠ [] ∧ nmo (match pc_brief S n with
    | none => n
    | some p => (pm_cl S p).1) := by
  cases e : pc_brief S n with
  | none => exact ⟨h1, h2⟩
  | some p =>
    obtain ⟨c, hc, -⟩ := pc_brief_get e
    simp only
    rw [pm_cl_eq hc]
    have := hS.1 c (List.mem_of_getElem? hc)
    exact ⟨this.1.1, this.2.1⟩
theorem ty_real {S : pm_S} {n : List Int} (hS : pm_nm S) (h1 : n ≠ []) (h2 : nmo n) : (match pc_real S n with
    | none => n
    | some p => (pm_cl S p).2) ≠ [] ∧ nmo (match pc_real S n with
    | none => n
    | some p => (pm_cl S p).2) := by
  cases e : pc_real S n with
  | none => exact ⟨h1, h2⟩
  | some p =>
    obtain ⟨c, hc, -⟩ := pc_real_get e
    simp only
    rw [pm_cl_eq hc]
    have := hS.1 c (List.mem_of_getElem? hc)
    exact ⟨this.2.2.1, this.2.2.2⟩
theorem r_all_kw1 {S : pm_S} {T : pt_S} (hS : pm_nm S) (hT : pt_nm T) : ∀ n, n < T.1.length → kw1 (r_all S T (n + 1)) (t_sum (r_fc S) T (n + 1))
  | 0, hn => by
    have hx : T.1[0]? = some T.1[0] := List.getElem?_eq_getElem hn
    have hm := hT.1 _ (List.mem_of_getElem? hx)
    unfold r_all t_sum
    rw [hx]
    simp only
    unfold r_all t_sum r_blk
    rw [List.nil_append]
    have ty := ty_brief hS hm.1 hm.2.1
    have := ((kw_head0 (x := T.1[0]) ty.1 ty.2 hm.2.2).app (r_frs_kw hS _ (t_frs_nm hT T.1[0]))).app (kw_more T.1[0])
    rw [Int.add_zero] at this
    exact this
  | n + 1, hn => by
    have hx : T.1[n + 1]? = some T.1[n + 1] := List.getElem?_eq_getElem hn
    have hm := hT.1 _ (List.mem_of_getElem? hx)
    have ih := r_all_kw1 hS hT n (by omega)
    rw [r_all, t_sum, hx]
    simp only
    unfold r_blk
    have ty := ty_brief hS hm.1 hm.2.1
    have := ((kw_head (n := n + 1) (x := T.1[n + 1]) (by omega) ty.1 ty.2 hm.2.2).app (r_frs_kw hS _ (t_frs_nm hT T.1[n + 1]))).app (kw_more T.1[n + 1])
    rw [Int.add_zero, Int.zero_add] at this
    exact ih.app this
theorem r_all_kw {S : pm_S} {T : pt_S} (hS : pm_nm S) (hT : pt_nm T) : kw0 (r_all S T T.1.length) (t_sum (r_fc S) T T.1.length) := by
  cases e : T.1.length with
  | zero => exact Or.inl ⟨rfl, rfl⟩
  | succ n => exact Or.inr (r_all_kw1 hS hT n (by omega))
theorem s_all_kw1 {S : pm_S} {T : pt_S} (hS : pm_nm S) (hT : pt_nm T) : ∀ n, n < T.1.length → kw1 (s_all S T (n + 1)) (s_ops S T (n + 1))
  | 0, hn => by
    have hx : T.1[0]? = some T.1[0] := List.getElem?_eq_getElem hn
    have hm := hT.1 _ (List.mem_of_getElem? hx)
    unfold s_all s_ops
    rw [hx]
    simp only
    unfold s_all s_ops s_blk
    rw [List.nil_append]
    have ty := ty_real hS hm.1 hm.2.1
    have := ((kw_head0 (x := T.1[0]) ty.1 ty.2 hm.2.2).app (s_frs_kw hS 20 _ (t_frs_nm hT T.1[0]))).app (kw_more T.1[0])
    rw [Int.add_zero] at this
    exact this
  | n + 1, hn => by
    have hx : T.1[n + 1]? = some T.1[n + 1] := List.getElem?_eq_getElem hn
    have hm := hT.1 _ (List.mem_of_getElem? hx)
    have ih := s_all_kw1 hS hT n (by omega)
    rw [s_all, s_ops, hx]
    simp only
    unfold s_blk
    have ty := ty_real hS hm.1 hm.2.1
    have := ((kw_head (n := n + 1) (x := T.1[n + 1]) (by omega) ty.1 ty.2 hm.2.2).app (s_frs_kw hS 20 _ (t_frs_nm hT T.1[n + 1]))).app (kw_more T.1[n + 1])
    rw [Int.add_zero, Int.zero_add] at this
    exact ih.app this
theorem s_all_kw {S : pm_S} {T : pt_S} (hS : pm_nm S) (hT : pt_nm T) : kw0 (s_all S T T.1.length) (s_ops S T T.1.length) := by
  cases e : T.1.length with
  | zero => exact Or.inl ⟨rfl, rfl⟩
  | succ n => exact Or.inr (s_all_kw1 hS hT n (by omega))
