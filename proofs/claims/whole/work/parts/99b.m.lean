/-! the script: its length and its numbers -/
def am_Sc (X : am_C) (n : Nat) (xs : Nat → Int32) : Prop := match X with
  | (_, _, _, _, s, _, _, _, _, _, _, G, _, _) => va_X G.2.2.2.1 n xs s s.heap ∧ G.2.2.2.1 < G.2.2.2.2
section AmScript
variable {X : am_C} {own : String} {cc : ByteArray} {pc : Nat} {L L' st st0 : List Value} {h : am_H} {cs sl cs' sl' : Nat} {l : Launch} {G : am_G} {M M0 : am_D} {as : List Value} {P1 : am_Y}
theorem lw_slen (hB : am_B X own cc) {n : Nat} {xs : Nat → Int32} (hdg : decode cc pc = .ok (.arraylength, 1)) (hs : am_Sc X n xs) (k : am_Z X (pc + 1) L (am_n n :: st) h cs sl) : am_Z X pc L (.float 0 :: st) h cs sl := by
  obtain ⟨p, l, e, R, s, m, args, below, meth, c, Q, G, ad0, nL⟩ := X
  obtain ⟨hx, hb, hml, ho, hts, hK, hfl, hG⟩ := hB
  obtain ⟨s1, s2⟩ := hs
  intro H locs ad ls st' a1 a2 a3 a4 a5
  obtain ⟨x0, rs, rfl, h0, hrs⟩ := a5
  obtain rfl : x0 = Value.ref G.2.2.2.1 := h0
  exact va_slen hx hb s1 (Nat.lt_of_lt_of_le s2 hfl) (fun z => Nat.not_le_of_lt s2 z) a3 hdg (k H locs ad ls _ a1 a2 a3 a4 ⟨_, _, rfl, congrArg Value.int (am_i_nI n).symm, hrs⟩)
theorem lw_sld (hB : am_B X own cc) {n : Nat} {xs : Nat → Int32} {i : Int} (hdg : decode cc pc = .ok (.iaload, 1)) (hs : am_Sc X n xs) (k : am_Z X (pc + 1) L (am_n (xs i.toNat).toInt :: st) h cs sl) (h1 : 0 ≤ i := by omega) (h2 : i < n := by omega) (h3 : n < 2147483648 := by omega) : am_Z X pc L (am_n i :: .float 0 :: st) h cs sl := by
  obtain ⟨p, l, e, R, s, m, args, below, meth, c, Q, G, ad0, nL⟩ := X
  obtain ⟨hx, hb, hml, ho, hts, hK, hfl, hG⟩ := hB
  obtain ⟨s1, s2⟩ := hs
  intro H locs ad ls st' a1 a2 a3 a4 a5
  obtain ⟨x0, rs0, rfl, h0, x1, rs, rfl, h01, hrs⟩ := a5
  obtain rfl : x0 = Value.int (am_i i) := h0
  obtain rfl : x1 = Value.ref G.2.2.2.1 := h01
  refine va_sld hx hb s1 (Nat.lt_of_lt_of_le s2 hfl) (fun z => Nat.not_le_of_lt s2 z) a3 (am_i_in h1 h2 h3) hdg ?_
  rw [am_i_cl h1 (by omega)]
  exact k H locs ad ls _ a1 a2 a3 a4 ⟨_, _, rfl, congrArg Value.int (am_i_of _), hrs⟩
/-- what is no longer looked at -/
def am_sb : List Value → List Value → Prop
  | [], _ => True
  | v :: vs, u :: us => (v = am_u ∨ v = u) ∧ am_sb vs us
  | _ :: _, [] => False
theorem am_sb.get : ∀ {vs us : List Value} {i : Nat} {v : Value}, am_sb vs us → vs[i]? = some v → v ≠ am_u → us[i]? = some v
  | [], _, _, _, _, h, _ => by cases h
  | _ :: _, [], _, _, hs, _, _ => hs.elim
  | a :: vs, u :: us, 0, v, hs, h, hv => by
    obtain rfl : a = v := Option.some.inj h
    rcases hs.1 with z | z
    · exact absurd z hv
    · rw [z]
      rfl
  | a :: vs, u :: us, i + 1, v, hs, h, hv => am_sb.get (vs := vs) (us := us) (i := i) hs.2 h hv
theorem am_fgt (hL : am_sb L' L) (k : am_Z X pc L' st h cs sl) : am_Z X pc L st h cs sl := by
  obtain ⟨p, l, e, R, s, m, args, below, meth, c, Q, G, ad0, nL⟩ := X
  intro H locs ad ls st' a1 a2 a3 a4 a5
  exact k H locs ad ls st' a1 a2 a3 ⟨a4.1, a4.2.1, fun i v hv hu => a4.2.2 i v (hL.get hv hu) hu⟩ a5
theorem am_R0.r0 (hR : am_R0 X l G M0) : am_R0 X l G M0 := hR
/-- a static call of a method with handlers, whatever the walk is to end with -/
theorem am_callW0 (hB : am_B X own cc) (hR : am_R0 X l G M0) {index n : Nat} {tb : am_tbH} (hM : am_Mw l G M tb as h P1) (hc : am_cW own index M tb n) (hn : as.length = n) (hst : st0 = as.reverse ++ st) (hdg : decode cc pc = .ok (.invokestatic index, 3)) (hrm : (M.2.2.2.2.frames + 1 ≤ M0.2.2.2.2.frames ∧ 8 + (M.2.2.1 + 11) + M.2.2.2.2.locals ≤ M0.2.2.2.2.locals) ∧ am_wd st ≤ 8) (hcl : cs + M.2.2.2.2.cells ≤ M0.2.2.2.2.cells ∧ sl + M.2.2.2.2.slots ≤ M0.2.2.2.2.slots) (hcs : cs + M.2.2.2.2.cells = cs') (hsl : sl + M.2.2.2.2.slots = sl') (kk : ∀ r h', P1 r h' → am_Z X (pc + 3) L (r.toList ++ st) h' cs' sl') : am_Z X pc L st0 h cs sl := by
  subst hst
  subst hcs
  subst hsl
  obtain ⟨p, l, e, R, s, m, args, below, meth, c, Q, G, ad0, nL⟩ := X
  obtain ⟨hx, hb, hml, ho, hts, hK, hfl, hG⟩ := hB
  obtain ⟨rfl, rfl, rfl, rfl, -⟩ := hR
  obtain ⟨c1, c2, c3, c4, c5, c6⟩ := hc
  intro H locs ad ls st' a1 a2 a3 a4 a5
  obtain ⟨av, rv, rfl, hav, hrv⟩ := a5.split
  have hS : am_S G ad as av.reverse := by have := hav.rev; rwa [List.reverse_reverse] at this
  have hl : av.reverse.length = n := by rw [List.length_reverse, hav.len, List.length_reverse]; exact hn
  have hp := am_pre (av := av.reverse) a2 hK hfl hG a3
  have hgin : GoodIn am_tbl (Cond.codeWith M.1 M.2.1 M.2.2.1 M.2.2.2.1 tb :: am_tbl) := fun w hw => by
    rcases List.mem_cons.mp hw with rfl | hw
    · exact am_good _ c3
    · exact am_good _ hw
  have hback : Back l M0.2.2.2.2 p e below s args M.1 3 8 (PreOf M0.2.2.2.2 M.2.2.2.2.cells M.2.2.2.2.slots (am_Pc G ad h av.reverse)) (PostOf (am_Qc G ad P1) M.2.2.2.2.cells M.2.2.2.2.slots (am_A G)) :=
    va_backW (hh := tb) (bytes := M.2.1) (maxL := M.2.2.1) (ret := M.2.2.2.1) (hM ad _ hS) am_blind rfl rfl hrm.1.1 hrm.1.2 (pay_in hts hgin) List.mem_cons_self (fun a' U hW => word_at hW (am_good _ c2).2 (hts _ c2))
  have hrun : va_Run p l e M0.2.2.2.2 s m args below meth c H locs cs sl M.2.2.2.2.cells M.2.2.2.2.slots (F0 m pc ls (av ++ rv)) rv (am_Qc G ad P1 av.reverse.toArray) (am_A G) := by
    intro T hT Y
    obtain ⟨mk, methM, cM, hnamed, hmethM, -, -, -, -, -, -, hsig⟩ := Cond.codeWith_spec (hts _ c3)
    have hstatic : methM.isStatic = true := Cond.static_spec hnamed hmethM (hts _ c6)
    obtain ⟨kP, hkP, -⟩ := className_of_methodNamed hnamed
    have hinitP : kP.init = .initialized := Cond.initialized_spec (findClass_of_methodNamed hnamed) hkP (hts _ c2)
    obtain ⟨vm₁, X₁, hstep₁⟩ := Y.invokestatic hx ho (hts _ c1) hnamed hmethM hstatic hkP hinitP c4 (g := F0 m pc ls (av ++ rv)) rfl (argsL := av.reverse) (rest := rv) (by rw [hl]; rw [hsig] at c5; exact (Option.some.inj c5).symm) (by rw [List.reverse_reverse]) (by rw [hb]; exact hdg)
    obtain ⟨v, ⟨U', L', cB, sB⟩, X', ⟨g', mk', t, Lc, e1, e2, hq, h1, hL, h2, h3⟩, hsteps⟩ := hback m meth c ⟨T.setVm vm₁, locs, cs, sl⟩ (F0 m pc ls rv) (.invokestatic index) mk av.reverse.toArray X₁ rfl (by rw [hml]; exact a4.1) (by rw [hb]; exact hdg) (am_rm (l := l) hrv hrm.2) (X₁.named hnamed) ⟨hcl.1, hcl.2, hp.2 (T.setVm vm₁) hT X₁.warmed⟩
    dsimp only [Jvm.Free.Pt.U, Jvm.Free.Pt.locs, Jvm.Free.Pt.cells, Jvm.Free.Pt.slots] at X' e1 e2 h1 h2 h3 hsteps
    subst h1; subst h2; subst h3
    exact ⟨v, (T.setVm vm₁).calling g' mk' av.reverse.toArray, t, U', Lc, hT, X', hL, e1, e2, hq, fun target hh => hstep₁ _ fun acts => by rw [doInvoke_state]; exact hsteps.trans hh⟩
  exact am_go hrun a1 a3 a4 hrv kk
end AmScript
theorem s_and15 (x : Int32) : 0 ≤ (x &&& am_i 15).toInt ∧ (x &&& am_i 15).toInt < 16 := by
  have h1 : (x &&& am_i 15).toBitVec.toNat ≤ 15 := by
    rw [Int32.toBitVec_and, BitVec.toNat_and]
    exact Nat.and_le_right
  have h2 : (x &&& am_i 15).toInt = ((x &&& am_i 15).toBitVec.toNat : Int) := by
    show (x &&& am_i 15).toBitVec.toInt = _
    exact BitVec.toInt_eq_toNat_of_lt (by omega)
  omega
theorem lw_ne1 {P : Prop} (z : (1 : Int) = 0) : P := absurd z (by decide)
theorem lw_ne2 {P : Prop} (z : (2 : Int) = 0) : P := absurd z (by decide)
theorem s_rng (x : Int32) : -2147483648 ≤ x.toInt ∧ x.toInt < 2147483648 := ⟨Int32.le_toInt x, Int32.toInt_lt x⟩
/-! the model's calls as functions of what the desk holds -/
def mo_P (m : Nat) (hA : am_H) (o : Int × Int × dv) : am_Y := fun rr h' => ∃ U', am_mo h' m U' ∧ ko m 35 hA h' ∧ U'.code_ = o.1 ∧ mo_rel U' o.2.2 ∧ ∃ v, rr = some (am_n v) ∧ (o.1 = 0 → v = o.2.1)
theorem k_MO_load {l : Launch} {G : am_G} {hA : am_H} {m : Nat} {U : mv} {V : dv} (M : am_mo hA m U) (R : mo_rel U V) (ok : V.ok) : am_M l G M_MO_load [.ref m] hA (mo_P m hA (o_load V)) := (m_MO_load M R ok).imp (fun r h' hp => by
  obtain ⟨U', M', f, q⟩ := hp
  cases e : pm_parse V.dr with
  | inl row =>
    have h0 : o_load V = (1, 0, (dv.s_wr (dv.s_dr V ([])) (row))) := by unfold o_load; rw [e]
    rw [e] at q
    obtain ⟨⟨v, hv⟩, hc, hr⟩ := q
    rw [h0]
    exact ⟨U', M', f, hc, hr, v, hv, fun z => by first | exact lw_ne1 z | exact lw_ne2 z⟩
  | inr S =>
    have h0 : o_load V = (0, dv_gc S, (dv.s_ld (dv.s_S (dv.s_dr V ([])) (S)) (true))) := by unfold o_load; rw [e]
    rw [e] at q
    obtain ⟨hv, hc, hr⟩ := q
    rw [h0]
    exact ⟨U', M', f, hc, hr, _, hv, fun _ => rfl⟩)
theorem k_MO_retrace {l : Launch} {G : am_G} {hA : am_H} {m : Nat} {U : mv} {V : dv} (M : am_mo hA m U) (R : mo_rel U V) (ok : V.ok) : am_M l G M_MO_retrace [.ref m] hA (mo_P m hA (o_retrace V)) := (m_MO_retrace M R ok).imp (fun r h' hp => by
  obtain ⟨U', M', f, q⟩ := hp
  cases e : pt_parse (cut V.dr) with
  | inl row =>
    rw [e] at q
    obtain ⟨hv, hc, hr⟩ := q
    rw [o_retrace_A e]
    exact ⟨U', M', f, hc, hr, _, hv, fun z => by first | exact lw_ne1 z | exact lw_ne2 z⟩
  | inr T =>
    rw [e] at q
    dsimp only at q
    rw [o_retrace_T e]
    by_cases hld : V.ld = false
    · rw [if_pos hld] at q ⊢
      obtain ⟨hv, hc, hr⟩ := q
      exact ⟨U', M', f, hc, hr, _, hv, fun z => by first | exact lw_ne1 z | exact lw_ne2 z⟩
    · rw [if_neg hld] at q ⊢
      by_cases ho : (r_all V.S T T.1.length).length ≤ 1000
      · rw [if_pos ho] at q ⊢
        obtain ⟨hv, hc, hr⟩ := q
        exact ⟨U', M', f, hc, hr, _, hv, fun _ => rfl⟩
      · rw [if_neg ho] at q ⊢
        obtain ⟨hv, hc, hr⟩ := q
        exact ⟨U', M', f, hc, hr, _, hv, fun z => by first | exact lw_ne1 z | exact lw_ne2 z⟩)
theorem k_MO_shorten {l : Launch} {G : am_G} {hA : am_H} {m : Nat} {U : mv} {V : dv} (M : am_mo hA m U) (R : mo_rel U V) (ok : V.ok) : am_M l G M_MO_shorten [.ref m] hA (mo_P m hA (o_shorten V)) := (m_MO_shorten M R ok).imp (fun r h' hp => by
  obtain ⟨U', M', f, q⟩ := hp
  cases e : pt_parse (cut V.dr) with
  | inl row =>
    rw [e] at q
    obtain ⟨hv, hc, hr⟩ := q
    rw [o_shorten_A e]
    exact ⟨U', M', f, hc, hr, _, hv, fun z => by first | exact lw_ne1 z | exact lw_ne2 z⟩
  | inr T =>
    rw [e] at q
    dsimp only at q
    rw [o_shorten_T e]
    by_cases hld : V.ld = false
    · rw [if_pos hld] at q ⊢
      obtain ⟨hv, hc, hr⟩ := q
      exact ⟨U', M', f, hc, hr, _, hv, fun z => by first | exact lw_ne1 z | exact lw_ne2 z⟩
    · rw [if_neg hld] at q ⊢
      by_cases ho : (s_all V.S T T.1.length).length ≤ 1000
      · rw [if_pos ho] at q ⊢
        obtain ⟨hv, hc, hr⟩ := q
        exact ⟨U', M', f, hc, hr, _, hv, fun _ => rfl⟩
      · rw [if_neg ho] at q ⊢
        obtain ⟨hv, hc, hr⟩ := q
        exact ⟨U', M', f, hc, hr, _, hv, fun z => by first | exact lw_ne1 z | exact lw_ne2 z⟩)
theorem k_MO_report {l : Launch} {G : am_G} {hA : am_H} {m : Nat} {U : mv} {V : dv} (M : am_mo hA m U) (R : mo_rel U V) (ok : V.ok) : am_M l G M_MO_report [.ref m] hA (mo_P m hA (o_report V)) := (m_MO_report M R ok).imp (fun r h' hp => by
  obtain ⟨U', M', f, q⟩ := hp
  cases e : pt_parse (cut V.dr) with
  | inl row =>
    rw [e] at q
    obtain ⟨hv, hc, hr⟩ := q
    rw [o_report_A e]
    exact ⟨U', M', f, hc, hr, _, hv, fun z => by first | exact lw_ne1 z | exact lw_ne2 z⟩
  | inr T =>
    rw [e] at q
    dsimp only at q
    rw [o_report_T e]
    by_cases hld : V.ld = false
    · rw [if_pos hld] at q ⊢
      obtain ⟨hv, hc, hr⟩ := q
      exact ⟨U', M', f, hc, hr, _, hv, fun z => by first | exact lw_ne1 z | exact lw_ne2 z⟩
    · rw [if_neg hld] at q ⊢
      by_cases ho : (r_all V.S T T.1.length).length ≤ 1000
      · rw [if_pos ho] at q ⊢
        by_cases hp : dv_at V (r_all V.S T T.1.length) = 16
        · rw [if_pos hp] at q ⊢
          obtain ⟨hv, hc, hr⟩ := q
          exact ⟨U', M', f, hc, hr, _, hv, fun z => by first | exact lw_ne1 z | exact lw_ne2 z⟩
        · rw [if_neg hp] at q ⊢
          obtain ⟨hv, hc, hr⟩ := q
          exact ⟨U', M', f, hc, hr, _, hv, fun _ => rfl⟩
      · rw [if_neg ho] at q ⊢
        obtain ⟨hv, hc, hr⟩ := q
        exact ⟨U', M', f, hc, hr, _, hv, fun z => by first | exact lw_ne1 z | exact lw_ne2 z⟩)
theorem k_MO_at {l : Launch} {G : am_G} {hA : am_H} {m : Nat} {U : mv} {V : dv} {i : Int} (M : am_mo hA m U) (R : mo_rel U V) (ok : V.ok) (hi : -2147483648 ≤ i ∧ i < 2147483648) : am_M l G M_MO_at [.ref m, am_n i] hA (mo_P m hA (o_at V i)) := (m_MO_at M R ok hi).imp (fun r h' hp => by
  obtain ⟨c, M', f, q⟩ := hp
  unfold o_at
  by_cases hc : 0 ≤ i ∧ i < V.pr.length
  · rw [if_pos hc] at q ⊢
    obtain ⟨rfl, hv⟩ := q
    exact ⟨_, M', f, rfl, R.cd, _, hv, fun _ => rfl⟩
  · rw [if_neg hc] at q ⊢
    obtain ⟨rfl, v, hv⟩ := q
    exact ⟨_, M', f, rfl, R.cd, _, hv, fun z => by first | exact lw_ne1 z | exact lw_ne2 z⟩)
theorem k_MO_groups {l : Launch} {G : am_G} {hA : am_H} {m : Nat} {U : mv} {V : dv} {i : Int} (M : am_mo hA m U) (R : mo_rel U V) (hi : -2147483648 ≤ i ∧ i < 2147483648) : am_M l G M_MO_groups [.ref m, am_n i] hA (mo_P m hA (o_groups V i)) := (m_MO_groups M R hi).imp (fun r h' hp => by
  obtain ⟨c, M', f, q⟩ := hp
  unfold o_groups
  by_cases hc : 0 ≤ i ∧ i < V.S.1.length
  · rw [if_pos hc] at q ⊢
    obtain ⟨rfl, hv⟩ := q
    exact ⟨_, M', f, rfl, R.cd, _, hv, fun _ => rfl⟩
  · rw [if_neg hc] at q ⊢
    obtain ⟨rfl, v, hv⟩ := q
    exact ⟨_, M', f, rfl, R.cd, _, hv, fun z => by first | exact lw_ne1 z | exact lw_ne2 z⟩)
theorem k_MO_reports {l : Launch} {G : am_G} {hA : am_H} {m : Nat} {U : mv} {V : dv} {i w : Int} (M : am_mo hA m U) (R : mo_rel U V) (ok : V.ok) (hi : -2147483648 ≤ i ∧ i < 2147483648) (hw : -2147483648 ≤ w ∧ w < 2147483648) : am_M l G M_MO_reports [.ref m, am_n i, am_n w] hA (mo_P m hA (o_reports V i w)) := (m_MO_reports M R ok hi hw).imp (fun r h' hp => by
  obtain ⟨c, M', f, q⟩ := hp
  unfold o_reports
  by_cases hc : 0 ≤ i ∧ i < V.n
  · rw [if_pos hc] at q ⊢
    by_cases hd : 0 ≤ w ∧ w ≤ 2
    · rw [if_pos hd] at q ⊢
      obtain ⟨rfl, hv⟩ := q
      exact ⟨_, M', f, rfl, R.cd, _, hv, fun _ => rfl⟩
    · rw [if_neg hd] at q ⊢
      obtain ⟨rfl, v, hv⟩ := q
      exact ⟨_, M', f, rfl, R.cd, _, hv, fun z => by first | exact lw_ne1 z | exact lw_ne2 z⟩
  · rw [if_neg hc] at q ⊢
    obtain ⟨rfl, v, hv⟩ := q
    exact ⟨_, M', f, rfl, R.cd, _, hv, fun z => by first | exact lw_ne1 z | exact lw_ne2 z⟩)
theorem k_MO_key {l : Launch} {G : am_G} {hA : am_H} {m : Nat} {U : mv} {V : dv} {i : Int} (M : am_mo hA m U) (R : mo_rel U V) (ok : V.ok) (hi : -2147483648 ≤ i ∧ i < 2147483648) : am_M l G M_MO_key [.ref m, am_n i] hA (fun rr h' => ∃ U', am_mo h' m U' ∧ ko m 35 hA h' ∧ U'.code_ = (o_key V i).1 ∧ mo_rel U' (o_key V i).2.2 ∧ ∃ v : Int64, rr = some (.long v) ∧ ((o_key V i).1 = 0 → v = (o_key V i).2.1)) := (m_MO_key M R ok hi).imp (fun r h' hp => by
  obtain ⟨c, M', f, q⟩ := hp
  unfold o_key
  by_cases hc : 0 ≤ i ∧ i < V.n
  · rw [if_pos hc] at q ⊢
    obtain ⟨rfl, hv⟩ := q
    exact ⟨_, M', f, rfl, R.cd, _, hv, fun _ => rfl⟩
  · rw [if_neg hc] at q ⊢
    obtain ⟨rfl, v, hv⟩ := q
    exact ⟨_, M', f, rfl, R.cd, _, hv, fun z => by first | exact lw_ne1 z | exact lw_ne2 z⟩)
/-! the law's cases -/
abbrev M_LW_law : am_D := (x, code, 8, ret, room_1)
abbrev lw_L (i : Int) : List Value := [.float 0, .ref 0, .ref 422, .ref 457, am_n i, am_u, am_u, am_u]
/-- between two turns: the desk and the model hold the same -/
def lw_I (h : am_H) (V : dv) : Prop := am_dk h 0 V ∧ ∃ U, am_mo h 422 U ∧ mo_rel U V ∧ ∃ g : Int → Int64, h[457]? = some (am_ja 2 1 g)
theorem lw_I.of {h : am_H} {V : dv} {U : mv} {g : Int → Int64} (D : am_dk h 0 V) (M : am_mo h 422 U) (R : mo_rel U V) (O : h[457]? = some (am_ja 2 1 g)) : lw_I h V := ⟨D, U, M, R, g, O⟩
theorem lw_I.mo {h h1 h2 : am_H} {V V1 : dv} {U1 : mv} {g1 : Int → Int64} (D1 : am_dk h1 0 V1) (O1 : h1[457]? = some (am_ja 2 1 g1)) (f : ko 422 35 h1 h2) (M2 : am_mo h2 422 U1) (R2 : mo_rel U1 V1) : lw_I h2 V1 := ⟨D1.ag (f.ag (Or.inr (by decide))), U1, M2, R2, g1, f 457 _ (Or.inr (by decide)) O1⟩
theorem lw_case_2 {X : am_C} {l : Launch} {G : am_G} (htr : l.stackTraces = false) (hB : am_B X "RetraceDeskLaw" code) (hR : am_R0 X l G M_LW_law) {n : Nat} {xs : Nat → Int32} (hs : am_Sc X n xs) (hn : n ≤ 2048) {i : Int} (h0 : 0 ≤ i) (h4 : i + 4 ≤ n) {h : am_H} {V : dv} {cs sl : Nat} (I : lw_I h V) (hcs : cs + 8 ≤ 601024) (hsl : sl + 48 ≤ 7293034) (kk : ∀ h2 V2, lw_I h2 V2 → am_Z X 651 (lw_L i) [] h2 (cs + 4) (sl + 24)) : am_Z X 188 (lw_L i) [] h cs sl := by
  obtain ⟨D, U, M, R, g, O⟩ := I
  obtain ⟨fs, hk⟩ := D.at
  show am_Z X 188 [.float 0, .ref 0, .ref 422, .ref 457, am_n i, am_u, am_u, am_u] [] h cs sl
  refine am_aload_n hB d_LW_law_188 rfl rfl rfl ?_
  refine am_aload_n hB d_LW_law_189 rfl rfl rfl ?_
  refine am_callW0 hB hR (as := [.ref 0, .ref 457]) (q_LW_load htr D O) cW_load rfl rfl d_LW_law_190 ⟨by decide, Nat.le_of_ble_eq_true rfl⟩ ⟨(by show cs + 1 ≤ 601024; omega), (by show sl + 6 ≤ 7293034; omega)⟩ (cs' := cs + 1) (sl' := sl + 6) rfl rfl (fun rr h1 hp => ?_)
  obtain ⟨hr, c3, D1, ⟨g1, O1, hx⟩, hm, f1, f2⟩ := hp
  have M1 := (M.ko f1 (Or.inl (by decide))).ko f2 (Or.inr (by decide))
  rw [hr]
  show am_Z X 193 [.float 0, .ref 0, .ref 422, .ref 457, am_n i, am_u, am_u, am_u] [am_n (o_load V).1] h1 (cs + 1) (sl + 6)
  refine am_istore hB d_LW_law_193 (by rw [hR.r0.nL]; decide) rfl ?_
  refine am_aload_n hB d_LW_law_195 rfl rfl rfl ?_
  refine am_callV0 hB hR (as := []) M1.1 (k_MO_load M1 R D.1) c_LW_65 rfl rfl d_LW_law_196 ⟨by decide, Nat.le_of_ble_eq_true rfl⟩ ⟨(by show cs + 1 + 0 ≤ 601024; omega), (by show sl + 6 + 0 ≤ 7293034; omega)⟩ (cs' := cs + 1) (sl' := sl + 6) rfl rfl (fun rr h2 hp => ?_)
  obtain ⟨U2, M2, f3, hcd, R2, v, hv, he⟩ := hp
  have I2 := lw_I.mo (h := h) (V := V) D1 O1 f3 M2 R2
  have O2 := f3 457 _ (Or.inr (by decide)) O1
  rw [hv]
  show am_Z X 199 [.float 0, .ref 0, .ref 422, .ref 457, am_n i, am_n (o_load V).1, am_u, am_u] [am_n v] h2 (cs + 1) (sl + 6)
  refine am_istore hB d_LW_law_199 (by rw [hR.r0.nL]; decide) rfl ?_
  refine am_aload_n hB d_LW_law_201 rfl rfl rfl ?_
  refine am_callV0 hB hR (as := []) M2.1 (m_MO_thrown M2) c_LW_66 rfl rfl d_LW_law_202 ⟨by decide, Nat.le_of_ble_eq_true rfl⟩ ⟨(by show cs + 1 + 0 ≤ 601024; omega), (by show sl + 6 + 0 ≤ 7293034; omega)⟩ (cs' := cs + 1) (sl' := sl + 6) rfl rfl (fun rr h3 hp => ?_)
  obtain ⟨hr3, hh3⟩ := hp
  rw [hr3, ← hh3, hcd]
  show am_Z X 205 [.float 0, .ref 0, .ref 422, .ref 457, am_n i, am_n (o_load V).1, am_n v, am_u] [am_n (o_load V).1] h2 (cs + 1) (sl + 6)
  refine am_iload hB d_LW_law_205 rfl ?_
  refine am_icmp_eq (tgt := 212) hB d_LW_law_207 (by decide) (fun _ => ?_) (fun z => absurd rfl z)
  have fin : am_Z X 229 [.float 0, .ref 0, .ref 422, .ref 457, am_n i, am_n (o_load V).1, am_n v, am_u] [] h2 (cs + 1) (sl + 6) := by
    refine am_goto (tgt := 651) hB d_LW_law_229 (by decide) ?_
    exact am_fgt (L' := lw_L i) ⟨Or.inr rfl, Or.inr rfl, Or.inr rfl, Or.inr rfl, Or.inr rfl, Or.inl rfl, Or.inl rfl, Or.inl rfl, trivial⟩ (am_wide (k := cs + 4) (n := sl + 24) (by omega) (by omega) (kk h2 _ I2))
  refine am_iload hB d_LW_law_212 rfl ?_
  refine ai_zne (tgt := 229) hB d_LW_law_214 (by decide) (fun hz => ?_) (fun hz => ?_)
  · exact fin
  have O := O2
  refine am_aload_n hB d_LW_law_217 rfl rfl rfl ?_
  refine ai_const hB d_LW_law_218 ?_
  refine ai_lald hB d_LW_law_219 ty_2 O ?_
  refine am_iload hB d_LW_law_220 rfl ?_
  refine am_i2l hB d_LW_law_222 ?_
  refine am_lcmp hB d_LW_law_223 ?_
  refine am_if_eq (tgt := 229) hB d_LW_law_224 (by decide) (fun _ => fin) (fun z => absurd ((lg_cmp_eq _ _).mpr ?_) z)
  rw [he hz]
  exact hx hz
theorem lw_case_3 {X : am_C} {l : Launch} {G : am_G} (htr : l.stackTraces = false) (hB : am_B X "RetraceDeskLaw" code) (hR : am_R0 X l G M_LW_law) {n : Nat} {xs : Nat → Int32} (hs : am_Sc X n xs) (hn : n ≤ 2048) {i : Int} (h0 : 0 ≤ i) (h4 : i + 4 ≤ n) {h : am_H} {V : dv} {cs sl : Nat} (I : lw_I h V) (hcs : cs + 8 ≤ 601024) (hsl : sl + 48 ≤ 7293034) (kk : ∀ h2 V2, lw_I h2 V2 → am_Z X 651 (lw_L i) [] h2 (cs + 4) (sl + 24)) : am_Z X 232 (lw_L i) [] h cs sl := by
  obtain ⟨D, U, M, R, g, O⟩ := I
  obtain ⟨fs, hk⟩ := D.at
  show am_Z X 232 [.float 0, .ref 0, .ref 422, .ref 457, am_n i, am_u, am_u, am_u] [] h cs sl
  refine am_aload_n hB d_LW_law_232 rfl rfl rfl ?_
  refine am_aload_n hB d_LW_law_233 rfl rfl rfl ?_
  refine am_callW0 hB hR (as := [.ref 0, .ref 457]) (q_LW_retrace htr D O) cW_retrace rfl rfl d_LW_law_234 ⟨by decide, Nat.le_of_ble_eq_true rfl⟩ ⟨(by show cs + 3 ≤ 601024; omega), (by show sl + 18 ≤ 7293034; omega)⟩ (cs' := cs + 3) (sl' := sl + 18) rfl rfl (fun rr h1 hp => ?_)
  obtain ⟨hr, c3, D1, ⟨g1, O1, hx⟩, hm, f1, f2⟩ := hp
  have M1 := (M.ko f1 (Or.inl (by decide))).ko f2 (Or.inr (by decide))
  rw [hr]
  show am_Z X 237 [.float 0, .ref 0, .ref 422, .ref 457, am_n i, am_u, am_u, am_u] [am_n (o_retrace V).1] h1 (cs + 3) (sl + 18)
  refine am_istore hB d_LW_law_237 (by rw [hR.r0.nL]; decide) rfl ?_
  refine am_aload_n hB d_LW_law_239 rfl rfl rfl ?_
  refine am_callV0 hB hR (as := []) M1.1 (k_MO_retrace M1 R D.1) c_LW_71 rfl rfl d_LW_law_240 ⟨by decide, Nat.le_of_ble_eq_true rfl⟩ ⟨(by show cs + 3 + 0 ≤ 601024; omega), (by show sl + 18 + 0 ≤ 7293034; omega)⟩ (cs' := cs + 3) (sl' := sl + 18) rfl rfl (fun rr h2 hp => ?_)
  obtain ⟨U2, M2, f3, hcd, R2, v, hv, he⟩ := hp
  have I2 := lw_I.mo (h := h) (V := V) D1 O1 f3 M2 R2
  have O2 := f3 457 _ (Or.inr (by decide)) O1
  rw [hv]
  show am_Z X 243 [.float 0, .ref 0, .ref 422, .ref 457, am_n i, am_n (o_retrace V).1, am_u, am_u] [am_n v] h2 (cs + 3) (sl + 18)
  refine am_istore hB d_LW_law_243 (by rw [hR.r0.nL]; decide) rfl ?_
  refine am_aload_n hB d_LW_law_245 rfl rfl rfl ?_
  refine am_callV0 hB hR (as := []) M2.1 (m_MO_thrown M2) c_LW_66 rfl rfl d_LW_law_246 ⟨by decide, Nat.le_of_ble_eq_true rfl⟩ ⟨(by show cs + 3 + 0 ≤ 601024; omega), (by show sl + 18 + 0 ≤ 7293034; omega)⟩ (cs' := cs + 3) (sl' := sl + 18) rfl rfl (fun rr h3 hp => ?_)
  obtain ⟨hr3, hh3⟩ := hp
  rw [hr3, ← hh3, hcd]
  show am_Z X 249 [.float 0, .ref 0, .ref 422, .ref 457, am_n i, am_n (o_retrace V).1, am_n v, am_u] [am_n (o_retrace V).1] h2 (cs + 3) (sl + 18)
  refine am_iload hB d_LW_law_249 rfl ?_
  refine am_icmp_eq (tgt := 256) hB d_LW_law_251 (by decide) (fun _ => ?_) (fun z => absurd rfl z)
  have fin : am_Z X 273 [.float 0, .ref 0, .ref 422, .ref 457, am_n i, am_n (o_retrace V).1, am_n v, am_u] [] h2 (cs + 3) (sl + 18) := by
    refine am_goto (tgt := 651) hB d_LW_law_273 (by decide) ?_
    exact am_fgt (L' := lw_L i) ⟨Or.inr rfl, Or.inr rfl, Or.inr rfl, Or.inr rfl, Or.inr rfl, Or.inl rfl, Or.inl rfl, Or.inl rfl, trivial⟩ (am_wide (k := cs + 4) (n := sl + 24) (by omega) (by omega) (kk h2 _ I2))
  refine am_iload hB d_LW_law_256 rfl ?_
  refine ai_zne (tgt := 273) hB d_LW_law_258 (by decide) (fun hz => ?_) (fun hz => ?_)
  · exact fin
  have O := O2
  refine am_aload_n hB d_LW_law_261 rfl rfl rfl ?_
  refine ai_const hB d_LW_law_262 ?_
  refine ai_lald hB d_LW_law_263 ty_2 O ?_
  refine am_iload hB d_LW_law_264 rfl ?_
  refine am_i2l hB d_LW_law_266 ?_
  refine am_lcmp hB d_LW_law_267 ?_
  refine am_if_eq (tgt := 273) hB d_LW_law_268 (by decide) (fun _ => fin) (fun z => absurd ((lg_cmp_eq _ _).mpr ?_) z)
  rw [he hz]
  exact hx hz
theorem lw_case_4 {X : am_C} {l : Launch} {G : am_G} (htr : l.stackTraces = false) (hB : am_B X "RetraceDeskLaw" code) (hR : am_R0 X l G M_LW_law) {n : Nat} {xs : Nat → Int32} (hs : am_Sc X n xs) (hn : n ≤ 2048) {i : Int} (h0 : 0 ≤ i) (h4 : i + 4 ≤ n) {h : am_H} {V : dv} {cs sl : Nat} (I : lw_I h V) (hcs : cs + 8 ≤ 601024) (hsl : sl + 48 ≤ 7293034) (kk : ∀ h2 V2, lw_I h2 V2 → am_Z X 651 (lw_L i) [] h2 (cs + 4) (sl + 24)) : am_Z X 276 (lw_L i) [] h cs sl := by
  obtain ⟨D, U, M, R, g, O⟩ := I
  obtain ⟨fs, hk⟩ := D.at
  show am_Z X 276 [.float 0, .ref 0, .ref 422, .ref 457, am_n i, am_u, am_u, am_u] [] h cs sl
  refine am_aload_n hB d_LW_law_276 rfl rfl rfl ?_
  refine am_aload_n hB d_LW_law_277 rfl rfl rfl ?_
  refine am_callW0 hB hR (as := [.ref 0, .ref 457]) (q_LW_shorten htr D O) cW_shorten rfl rfl d_LW_law_278 ⟨by decide, Nat.le_of_ble_eq_true rfl⟩ ⟨(by show cs + 3 ≤ 601024; omega), (by show sl + 18 ≤ 7293034; omega)⟩ (cs' := cs + 3) (sl' := sl + 18) rfl rfl (fun rr h1 hp => ?_)
  obtain ⟨hr, c3, D1, ⟨g1, O1, hx⟩, hm, f1, f2⟩ := hp
  have M1 := (M.ko f1 (Or.inl (by decide))).ko f2 (Or.inr (by decide))
  rw [hr]
  show am_Z X 281 [.float 0, .ref 0, .ref 422, .ref 457, am_n i, am_u, am_u, am_u] [am_n (o_shorten V).1] h1 (cs + 3) (sl + 18)
  refine am_istore hB d_LW_law_281 (by rw [hR.r0.nL]; decide) rfl ?_
  refine am_aload_n hB d_LW_law_283 rfl rfl rfl ?_
  refine am_callV0 hB hR (as := []) M1.1 (k_MO_shorten M1 R D.1) c_LW_74 rfl rfl d_LW_law_284 ⟨by decide, Nat.le_of_ble_eq_true rfl⟩ ⟨(by show cs + 3 + 0 ≤ 601024; omega), (by show sl + 18 + 0 ≤ 7293034; omega)⟩ (cs' := cs + 3) (sl' := sl + 18) rfl rfl (fun rr h2 hp => ?_)
  obtain ⟨U2, M2, f3, hcd, R2, v, hv, he⟩ := hp
  have I2 := lw_I.mo (h := h) (V := V) D1 O1 f3 M2 R2
  have O2 := f3 457 _ (Or.inr (by decide)) O1
  rw [hv]
  show am_Z X 287 [.float 0, .ref 0, .ref 422, .ref 457, am_n i, am_n (o_shorten V).1, am_u, am_u] [am_n v] h2 (cs + 3) (sl + 18)
  refine am_istore hB d_LW_law_287 (by rw [hR.r0.nL]; decide) rfl ?_
  refine am_aload_n hB d_LW_law_289 rfl rfl rfl ?_
  refine am_callV0 hB hR (as := []) M2.1 (m_MO_thrown M2) c_LW_66 rfl rfl d_LW_law_290 ⟨by decide, Nat.le_of_ble_eq_true rfl⟩ ⟨(by show cs + 3 + 0 ≤ 601024; omega), (by show sl + 18 + 0 ≤ 7293034; omega)⟩ (cs' := cs + 3) (sl' := sl + 18) rfl rfl (fun rr h3 hp => ?_)
  obtain ⟨hr3, hh3⟩ := hp
  rw [hr3, ← hh3, hcd]
  show am_Z X 293 [.float 0, .ref 0, .ref 422, .ref 457, am_n i, am_n (o_shorten V).1, am_n v, am_u] [am_n (o_shorten V).1] h2 (cs + 3) (sl + 18)
  refine am_iload hB d_LW_law_293 rfl ?_
  refine am_icmp_eq (tgt := 300) hB d_LW_law_295 (by decide) (fun _ => ?_) (fun z => absurd rfl z)
  have fin : am_Z X 317 [.float 0, .ref 0, .ref 422, .ref 457, am_n i, am_n (o_shorten V).1, am_n v, am_u] [] h2 (cs + 3) (sl + 18) := by
    refine am_goto (tgt := 651) hB d_LW_law_317 (by decide) ?_
    exact am_fgt (L' := lw_L i) ⟨Or.inr rfl, Or.inr rfl, Or.inr rfl, Or.inr rfl, Or.inr rfl, Or.inl rfl, Or.inl rfl, Or.inl rfl, trivial⟩ (am_wide (k := cs + 4) (n := sl + 24) (by omega) (by omega) (kk h2 _ I2))
  refine am_iload hB d_LW_law_300 rfl ?_
  refine ai_zne (tgt := 317) hB d_LW_law_302 (by decide) (fun hz => ?_) (fun hz => ?_)
  · exact fin
  have O := O2
  refine am_aload_n hB d_LW_law_305 rfl rfl rfl ?_
  refine ai_const hB d_LW_law_306 ?_
  refine ai_lald hB d_LW_law_307 ty_2 O ?_
  refine am_iload hB d_LW_law_308 rfl ?_
  refine am_i2l hB d_LW_law_310 ?_
  refine am_lcmp hB d_LW_law_311 ?_
  refine am_if_eq (tgt := 317) hB d_LW_law_312 (by decide) (fun _ => fin) (fun z => absurd ((lg_cmp_eq _ _).mpr ?_) z)
  rw [he hz]
  exact hx hz
theorem lw_case_5 {X : am_C} {l : Launch} {G : am_G} (htr : l.stackTraces = false) (hB : am_B X "RetraceDeskLaw" code) (hR : am_R0 X l G M_LW_law) {n : Nat} {xs : Nat → Int32} (hs : am_Sc X n xs) (hn : n ≤ 2048) {i : Int} (h0 : 0 ≤ i) (h4 : i + 4 ≤ n) {h : am_H} {V : dv} {cs sl : Nat} (I : lw_I h V) (hcs : cs + 8 ≤ 601024) (hsl : sl + 48 ≤ 7293034) (kk : ∀ h2 V2, lw_I h2 V2 → am_Z X 651 (lw_L i) [] h2 (cs + 4) (sl + 24)) : am_Z X 320 (lw_L i) [] h cs sl := by
  obtain ⟨D, U, M, R, g, O⟩ := I
  obtain ⟨fs, hk⟩ := D.at
  show am_Z X 320 [.float 0, .ref 0, .ref 422, .ref 457, am_n i, am_u, am_u, am_u] [] h cs sl
  refine am_aload_n hB d_LW_law_320 rfl rfl rfl ?_
  refine am_aload_n hB d_LW_law_321 rfl rfl rfl ?_
  refine am_callW0 hB hR (as := [.ref 0, .ref 457]) (q_LW_report htr D O) cW_report rfl rfl d_LW_law_322 ⟨by decide, Nat.le_of_ble_eq_true rfl⟩ ⟨(by show cs + 4 ≤ 601024; omega), (by show sl + 24 ≤ 7293034; omega)⟩ (cs' := cs + 4) (sl' := sl + 24) rfl rfl (fun rr h1 hp => ?_)
  obtain ⟨hr, c3, D1, ⟨g1, O1, hx⟩, hm, f1, f2⟩ := hp
  have M1 := (M.ko f1 (Or.inl (by decide))).ko f2 (Or.inr (by decide))
  rw [hr]
  show am_Z X 325 [.float 0, .ref 0, .ref 422, .ref 457, am_n i, am_u, am_u, am_u] [am_n (o_report V).1] h1 (cs + 4) (sl + 24)
  refine am_istore hB d_LW_law_325 (by rw [hR.r0.nL]; decide) rfl ?_
  refine am_aload_n hB d_LW_law_327 rfl rfl rfl ?_
  refine am_callV0 hB hR (as := []) M1.1 (k_MO_report M1 R D.1) c_LW_77 rfl rfl d_LW_law_328 ⟨by decide, Nat.le_of_ble_eq_true rfl⟩ ⟨(by show cs + 4 + 0 ≤ 601024; omega), (by show sl + 24 + 0 ≤ 7293034; omega)⟩ (cs' := cs + 4) (sl' := sl + 24) rfl rfl (fun rr h2 hp => ?_)
  obtain ⟨U2, M2, f3, hcd, R2, v, hv, he⟩ := hp
  have I2 := lw_I.mo (h := h) (V := V) D1 O1 f3 M2 R2
  have O2 := f3 457 _ (Or.inr (by decide)) O1
  rw [hv]
  show am_Z X 331 [.float 0, .ref 0, .ref 422, .ref 457, am_n i, am_n (o_report V).1, am_u, am_u] [am_n v] h2 (cs + 4) (sl + 24)
  refine am_istore hB d_LW_law_331 (by rw [hR.r0.nL]; decide) rfl ?_
  refine am_aload_n hB d_LW_law_333 rfl rfl rfl ?_
  refine am_callV0 hB hR (as := []) M2.1 (m_MO_thrown M2) c_LW_66 rfl rfl d_LW_law_334 ⟨by decide, Nat.le_of_ble_eq_true rfl⟩ ⟨(by show cs + 4 + 0 ≤ 601024; omega), (by show sl + 24 + 0 ≤ 7293034; omega)⟩ (cs' := cs + 4) (sl' := sl + 24) rfl rfl (fun rr h3 hp => ?_)
  obtain ⟨hr3, hh3⟩ := hp
  rw [hr3, ← hh3, hcd]
  show am_Z X 337 [.float 0, .ref 0, .ref 422, .ref 457, am_n i, am_n (o_report V).1, am_n v, am_u] [am_n (o_report V).1] h2 (cs + 4) (sl + 24)
  refine am_iload hB d_LW_law_337 rfl ?_
  refine am_icmp_eq (tgt := 344) hB d_LW_law_339 (by decide) (fun _ => ?_) (fun z => absurd rfl z)
  have fin : am_Z X 361 [.float 0, .ref 0, .ref 422, .ref 457, am_n i, am_n (o_report V).1, am_n v, am_u] [] h2 (cs + 4) (sl + 24) := by
    refine am_goto (tgt := 651) hB d_LW_law_361 (by decide) ?_
    exact am_fgt (L' := lw_L i) ⟨Or.inr rfl, Or.inr rfl, Or.inr rfl, Or.inr rfl, Or.inr rfl, Or.inl rfl, Or.inl rfl, Or.inl rfl, trivial⟩ (am_wide (k := cs + 4) (n := sl + 24) (by omega) (by omega) (kk h2 _ I2))
  refine am_iload hB d_LW_law_344 rfl ?_
  refine ai_zne (tgt := 361) hB d_LW_law_346 (by decide) (fun hz => ?_) (fun hz => ?_)
  · exact fin
  have O := O2
  refine am_aload_n hB d_LW_law_349 rfl rfl rfl ?_
  refine ai_const hB d_LW_law_350 ?_
  refine ai_lald hB d_LW_law_351 ty_2 O ?_
  refine am_iload hB d_LW_law_352 rfl ?_
  refine am_i2l hB d_LW_law_354 ?_
  refine am_lcmp hB d_LW_law_355 ?_
  refine am_if_eq (tgt := 361) hB d_LW_law_356 (by decide) (fun _ => fin) (fun z => absurd ((lg_cmp_eq _ _).mpr ?_) z)
  rw [he hz]
  exact hx hz
theorem lw_case_8 {X : am_C} {l : Launch} {G : am_G} (htr : l.stackTraces = false) (hB : am_B X "RetraceDeskLaw" code) (hR : am_R0 X l G M_LW_law) {n : Nat} {xs : Nat → Int32} (hs : am_Sc X n xs) (hn : n ≤ 2048) {i : Int} (h0 : 0 ≤ i) (h4 : i + 4 ≤ n) {h : am_H} {V : dv} {cs sl : Nat} (I : lw_I h V) (hcs : cs + 8 ≤ 601024) (hsl : sl + 48 ≤ 7293034) (kk : ∀ h2 V2, lw_I h2 V2 → am_Z X 651 (lw_L i) [] h2 (cs + 4) (sl + 24)) : am_Z X 390 (lw_L i) [] h cs sl := by
  obtain ⟨D, U, M, R, g, O⟩ := I
  obtain ⟨fs, hk⟩ := D.at
  show am_Z X 390 [.float 0, .ref 0, .ref 422, .ref 457, am_n i, am_u, am_u, am_u] [] h cs sl
  have r1 := s_rng (xs (i + 1).toNat)
  refine am_aload_n hB d_LW_law_390 rfl rfl rfl ?_
  refine am_aload_n hB d_LW_law_391 rfl rfl rfl ?_
  refine am_iload hB d_LW_law_392 rfl ?_
  refine ai_const hB d_LW_law_394 ?_
  refine ai_add hB d_LW_law_395 ?_
  refine lw_sld hB d_LW_law_396 hs ?_
  refine am_aload_n hB d_LW_law_397 rfl rfl rfl ?_
  refine am_callW0 hB hR (as := [.ref 0, am_n (xs (i + 1).toNat).toInt, .ref 457]) (q_LW_at htr D O r1) cW_at rfl rfl d_LW_law_398 ⟨by decide, Nat.le_of_ble_eq_true rfl⟩ ⟨(by show cs + 1 ≤ 601024; omega), (by show sl + 6 ≤ 7293034; omega)⟩ (cs' := cs + 1) (sl' := sl + 6) rfl rfl (fun rr h1 hp => ?_)
  obtain ⟨hr, c3, D1, ⟨g1, O1, hx⟩, hm, f1, f2⟩ := hp
  have M1 := (M.ko f1 (Or.inl (by decide))).ko f2 (Or.inr (by decide))
  rw [hr]
  show am_Z X 401 [.float 0, .ref 0, .ref 422, .ref 457, am_n i, am_u, am_u, am_u] [am_n (o_at V (xs (i + 1).toNat).toInt).1] h1 (cs + 1) (sl + 6)
  refine am_istore hB d_LW_law_401 (by rw [hR.r0.nL]; decide) rfl ?_
  refine am_aload_n hB d_LW_law_403 rfl rfl rfl ?_
  refine am_aload_n hB d_LW_law_404 rfl rfl rfl ?_
  refine am_iload hB d_LW_law_405 rfl ?_
  refine ai_const hB d_LW_law_407 ?_
  refine ai_add hB d_LW_law_408 ?_
  refine lw_sld hB d_LW_law_409 hs ?_
  refine am_callV0 hB hR (as := [am_n (xs (i + 1).toNat).toInt]) M1.1 (k_MO_at M1 R D.1 r1) c_LW_89 rfl rfl d_LW_law_410 ⟨by decide, Nat.le_of_ble_eq_true rfl⟩ ⟨(by show cs + 1 + 0 ≤ 601024; omega), (by show sl + 6 + 0 ≤ 7293034; omega)⟩ (cs' := cs + 1) (sl' := sl + 6) rfl rfl (fun rr h2 hp => ?_)
  obtain ⟨U2, M2, f3, hcd, R2, v, hv, he⟩ := hp
  have I2 := lw_I.mo (h := h) (V := V) D1 O1 f3 M2 R2
  have O2 := f3 457 _ (Or.inr (by decide)) O1
  rw [hv]
  show am_Z X 413 [.float 0, .ref 0, .ref 422, .ref 457, am_n i, am_n (o_at V (xs (i + 1).toNat).toInt).1, am_u, am_u] [am_n v] h2 (cs + 1) (sl + 6)
  refine am_istore hB d_LW_law_413 (by rw [hR.r0.nL]; decide) rfl ?_
  refine am_aload_n hB d_LW_law_415 rfl rfl rfl ?_
  refine am_callV0 hB hR (as := []) M2.1 (m_MO_thrown M2) c_LW_66 rfl rfl d_LW_law_416 ⟨by decide, Nat.le_of_ble_eq_true rfl⟩ ⟨(by show cs + 1 + 0 ≤ 601024; omega), (by show sl + 6 + 0 ≤ 7293034; omega)⟩ (cs' := cs + 1) (sl' := sl + 6) rfl rfl (fun rr h3 hp => ?_)
  obtain ⟨hr3, hh3⟩ := hp
  rw [hr3, ← hh3, hcd]
  show am_Z X 419 [.float 0, .ref 0, .ref 422, .ref 457, am_n i, am_n (o_at V (xs (i + 1).toNat).toInt).1, am_n v, am_u] [am_n (o_at V (xs (i + 1).toNat).toInt).1] h2 (cs + 1) (sl + 6)
  refine am_iload hB d_LW_law_419 rfl ?_
  refine am_icmp_eq (tgt := 426) hB d_LW_law_421 (by decide) (fun _ => ?_) (fun z => absurd rfl z)
  have fin : am_Z X 443 [.float 0, .ref 0, .ref 422, .ref 457, am_n i, am_n (o_at V (xs (i + 1).toNat).toInt).1, am_n v, am_u] [] h2 (cs + 1) (sl + 6) := by
    refine am_goto (tgt := 651) hB d_LW_law_443 (by decide) ?_
    exact am_fgt (L' := lw_L i) ⟨Or.inr rfl, Or.inr rfl, Or.inr rfl, Or.inr rfl, Or.inr rfl, Or.inl rfl, Or.inl rfl, Or.inl rfl, trivial⟩ (am_wide (k := cs + 4) (n := sl + 24) (by omega) (by omega) (kk h2 _ I2))
  refine am_iload hB d_LW_law_426 rfl ?_
  refine ai_zne (tgt := 443) hB d_LW_law_428 (by decide) (fun hz => ?_) (fun hz => ?_)
  · exact fin
  have O := O2
  refine am_aload_n hB d_LW_law_431 rfl rfl rfl ?_
  refine ai_const hB d_LW_law_432 ?_
  refine ai_lald hB d_LW_law_433 ty_2 O ?_
  refine am_iload hB d_LW_law_434 rfl ?_
  refine am_i2l hB d_LW_law_436 ?_
  refine am_lcmp hB d_LW_law_437 ?_
  refine am_if_eq (tgt := 443) hB d_LW_law_438 (by decide) (fun _ => fin) (fun z => absurd ((lg_cmp_eq _ _).mpr ?_) z)
  rw [he hz]
  exact hx hz
theorem lw_case_10 {X : am_C} {l : Launch} {G : am_G} (htr : l.stackTraces = false) (hB : am_B X "RetraceDeskLaw" code) (hR : am_R0 X l G M_LW_law) {n : Nat} {xs : Nat → Int32} (hs : am_Sc X n xs) (hn : n ≤ 2048) {i : Int} (h0 : 0 ≤ i) (h4 : i + 4 ≤ n) {h : am_H} {V : dv} {cs sl : Nat} (I : lw_I h V) (hcs : cs + 8 ≤ 601024) (hsl : sl + 48 ≤ 7293034) (kk : ∀ h2 V2, lw_I h2 V2 → am_Z X 651 (lw_L i) [] h2 (cs + 4) (sl + 24)) : am_Z X 459 (lw_L i) [] h cs sl := by
  obtain ⟨D, U, M, R, g, O⟩ := I
  obtain ⟨fs, hk⟩ := D.at
  show am_Z X 459 [.float 0, .ref 0, .ref 422, .ref 457, am_n i, am_u, am_u, am_u] [] h cs sl
  have r1 := s_rng (xs (i + 1).toNat)
  refine am_aload_n hB d_LW_law_459 rfl rfl rfl ?_
  refine am_aload_n hB d_LW_law_460 rfl rfl rfl ?_
  refine am_iload hB d_LW_law_461 rfl ?_
  refine ai_const hB d_LW_law_463 ?_
  refine ai_add hB d_LW_law_464 ?_
  refine lw_sld hB d_LW_law_465 hs ?_
  refine am_aload_n hB d_LW_law_466 rfl rfl rfl ?_
  refine am_callW0 hB hR (as := [.ref 0, am_n (xs (i + 1).toNat).toInt, .ref 457]) (q_LW_groups htr D O r1 R.2.2.2.2.1.2.1) cW_groups rfl rfl d_LW_law_467 ⟨by decide, Nat.le_of_ble_eq_true rfl⟩ ⟨(by show cs + 1 ≤ 601024; omega), (by show sl + 6 ≤ 7293034; omega)⟩ (cs' := cs + 1) (sl' := sl + 6) rfl rfl (fun rr h1 hp => ?_)
  obtain ⟨hr, c3, D1, ⟨g1, O1, hx⟩, hm, f1, f2⟩ := hp
  have M1 := (M.ko f1 (Or.inl (by decide))).ko f2 (Or.inr (by decide))
  rw [hr]
  show am_Z X 470 [.float 0, .ref 0, .ref 422, .ref 457, am_n i, am_u, am_u, am_u] [am_n (o_groups V (xs (i + 1).toNat).toInt).1] h1 (cs + 1) (sl + 6)
  refine am_istore hB d_LW_law_470 (by rw [hR.r0.nL]; decide) rfl ?_
  refine am_aload_n hB d_LW_law_472 rfl rfl rfl ?_
  refine am_aload_n hB d_LW_law_473 rfl rfl rfl ?_
  refine am_iload hB d_LW_law_474 rfl ?_
  refine ai_const hB d_LW_law_476 ?_
  refine ai_add hB d_LW_law_477 ?_
  refine lw_sld hB d_LW_law_478 hs ?_
  refine am_callV0 hB hR (as := [am_n (xs (i + 1).toNat).toInt]) M1.1 (k_MO_groups M1 R r1) c_LW_96 rfl rfl d_LW_law_479 ⟨by decide, Nat.le_of_ble_eq_true rfl⟩ ⟨(by show cs + 1 + 0 ≤ 601024; omega), (by show sl + 6 + 0 ≤ 7293034; omega)⟩ (cs' := cs + 1) (sl' := sl + 6) rfl rfl (fun rr h2 hp => ?_)
  obtain ⟨U2, M2, f3, hcd, R2, v, hv, he⟩ := hp
  have I2 := lw_I.mo (h := h) (V := V) D1 O1 f3 M2 R2
  have O2 := f3 457 _ (Or.inr (by decide)) O1
  rw [hv]
  show am_Z X 482 [.float 0, .ref 0, .ref 422, .ref 457, am_n i, am_n (o_groups V (xs (i + 1).toNat).toInt).1, am_u, am_u] [am_n v] h2 (cs + 1) (sl + 6)
  refine am_istore hB d_LW_law_482 (by rw [hR.r0.nL]; decide) rfl ?_
  refine am_aload_n hB d_LW_law_484 rfl rfl rfl ?_
  refine am_callV0 hB hR (as := []) M2.1 (m_MO_thrown M2) c_LW_66 rfl rfl d_LW_law_485 ⟨by decide, Nat.le_of_ble_eq_true rfl⟩ ⟨(by show cs + 1 + 0 ≤ 601024; omega), (by show sl + 6 + 0 ≤ 7293034; omega)⟩ (cs' := cs + 1) (sl' := sl + 6) rfl rfl (fun rr h3 hp => ?_)
  obtain ⟨hr3, hh3⟩ := hp
  rw [hr3, ← hh3, hcd]
  show am_Z X 488 [.float 0, .ref 0, .ref 422, .ref 457, am_n i, am_n (o_groups V (xs (i + 1).toNat).toInt).1, am_n v, am_u] [am_n (o_groups V (xs (i + 1).toNat).toInt).1] h2 (cs + 1) (sl + 6)
  refine am_iload hB d_LW_law_488 rfl ?_
  refine am_icmp_eq (tgt := 495) hB d_LW_law_490 (by decide) (fun _ => ?_) (fun z => absurd rfl z)
  have fin : am_Z X 512 [.float 0, .ref 0, .ref 422, .ref 457, am_n i, am_n (o_groups V (xs (i + 1).toNat).toInt).1, am_n v, am_u] [] h2 (cs + 1) (sl + 6) := by
    refine am_goto (tgt := 651) hB d_LW_law_512 (by decide) ?_
    exact am_fgt (L' := lw_L i) ⟨Or.inr rfl, Or.inr rfl, Or.inr rfl, Or.inr rfl, Or.inr rfl, Or.inl rfl, Or.inl rfl, Or.inl rfl, trivial⟩ (am_wide (k := cs + 4) (n := sl + 24) (by omega) (by omega) (kk h2 _ I2))
  refine am_iload hB d_LW_law_495 rfl ?_
  refine ai_zne (tgt := 512) hB d_LW_law_497 (by decide) (fun hz => ?_) (fun hz => ?_)
  · exact fin
  have O := O2
  refine am_aload_n hB d_LW_law_500 rfl rfl rfl ?_
  refine ai_const hB d_LW_law_501 ?_
  refine ai_lald hB d_LW_law_502 ty_2 O ?_
  refine am_iload hB d_LW_law_503 rfl ?_
  refine am_i2l hB d_LW_law_505 ?_
  refine am_lcmp hB d_LW_law_506 ?_
  refine am_if_eq (tgt := 512) hB d_LW_law_507 (by decide) (fun _ => fin) (fun z => absurd ((lg_cmp_eq _ _).mpr ?_) z)
  rw [he hz]
  exact hx hz
theorem lw_case_12 {X : am_C} {l : Launch} {G : am_G} (htr : l.stackTraces = false) (hB : am_B X "RetraceDeskLaw" code) (hR : am_R0 X l G M_LW_law) {n : Nat} {xs : Nat → Int32} (hs : am_Sc X n xs) (hn : n ≤ 2048) {i : Int} (h0 : 0 ≤ i) (h4 : i + 4 ≤ n) {h : am_H} {V : dv} {cs sl : Nat} (I : lw_I h V) (hcs : cs + 8 ≤ 601024) (hsl : sl + 48 ≤ 7293034) (kk : ∀ h2 V2, lw_I h2 V2 → am_Z X 651 (lw_L i) [] h2 (cs + 4) (sl + 24)) : am_Z X 528 (lw_L i) [] h cs sl := by
  obtain ⟨D, U, M, R, g, O⟩ := I
  obtain ⟨fs, hk⟩ := D.at
  show am_Z X 528 [.float 0, .ref 0, .ref 422, .ref 457, am_n i, am_u, am_u, am_u] [] h cs sl
  have r1 := s_rng (xs (i + 1).toNat)
  refine am_aload_n hB d_LW_law_528 rfl rfl rfl ?_
  refine am_aload_n hB d_LW_law_529 rfl rfl rfl ?_
  refine am_iload hB d_LW_law_530 rfl ?_
  refine ai_const hB d_LW_law_532 ?_
  refine ai_add hB d_LW_law_533 ?_
  refine lw_sld hB d_LW_law_534 hs ?_
  refine am_aload_n hB d_LW_law_535 rfl rfl rfl ?_
  refine am_callW0 hB hR (as := [.ref 0, am_n (xs (i + 1).toNat).toInt, .ref 457]) (q_LW_key htr D O r1) cW_key rfl rfl d_LW_law_536 ⟨by decide, Nat.le_of_ble_eq_true rfl⟩ ⟨(by show cs + 1 ≤ 601024; omega), (by show sl + 6 ≤ 7293034; omega)⟩ (cs' := cs + 1) (sl' := sl + 6) rfl rfl (fun rr h1 hp => ?_)
  obtain ⟨hr, c3, D1, ⟨g1, O1, hx⟩, hm, f1, f2⟩ := hp
  have M1 := (M.ko f1 (Or.inl (by decide))).ko f2 (Or.inr (by decide))
  rw [hr]
  show am_Z X 539 [.float 0, .ref 0, .ref 422, .ref 457, am_n i, am_u, am_u, am_u] [am_n (o_key V (xs (i + 1).toNat).toInt).1] h1 (cs + 1) (sl + 6)
  refine am_istore hB d_LW_law_539 (by rw [hR.r0.nL]; decide) rfl ?_
  refine am_aload_n hB d_LW_law_541 rfl rfl rfl ?_
  refine am_aload_n hB d_LW_law_542 rfl rfl rfl ?_
  refine am_iload hB d_LW_law_543 rfl ?_
  refine ai_const hB d_LW_law_545 ?_
  refine ai_add hB d_LW_law_546 ?_
  refine lw_sld hB d_LW_law_547 hs ?_
  refine am_callV0 hB hR (as := [am_n (xs (i + 1).toNat).toInt]) M1.1 (k_MO_key M1 R D.1 r1) c_LW_103 rfl rfl d_LW_law_548 ⟨by decide, Nat.le_of_ble_eq_true rfl⟩ ⟨(by show cs + 1 + 0 ≤ 601024; omega), (by show sl + 6 + 0 ≤ 7293034; omega)⟩ (cs' := cs + 1) (sl' := sl + 6) rfl rfl (fun rr h2 hp => ?_)
  obtain ⟨U2, M2, f3, hcd, R2, v, hv, he⟩ := hp
  have I2 := lw_I.mo (h := h) (V := V) D1 O1 f3 M2 R2
  have O2 := f3 457 _ (Or.inr (by decide)) O1
  rw [hv]
  show am_Z X 551 [.float 0, .ref 0, .ref 422, .ref 457, am_n i, am_n (o_key V (xs (i + 1).toNat).toInt).1, am_u, am_u] [.long v] h2 (cs + 1) (sl + 6)
  refine am_lstore hB d_LW_law_551 (by rw [hR.r0.nL]; decide) rfl ?_
  refine am_aload_n hB d_LW_law_553 rfl rfl rfl ?_
  refine am_callV0 hB hR (as := []) M2.1 (m_MO_thrown M2) c_LW_66 rfl rfl d_LW_law_554 ⟨by decide, Nat.le_of_ble_eq_true rfl⟩ ⟨(by show cs + 1 + 0 ≤ 601024; omega), (by show sl + 6 + 0 ≤ 7293034; omega)⟩ (cs' := cs + 1) (sl' := sl + 6) rfl rfl (fun rr h3 hp => ?_)
  obtain ⟨hr3, hh3⟩ := hp
  rw [hr3, ← hh3, hcd]
  show am_Z X 557 [.float 0, .ref 0, .ref 422, .ref 457, am_n i, am_n (o_key V (xs (i + 1).toNat).toInt).1, .long v, am_u] [am_n (o_key V (xs (i + 1).toNat).toInt).1] h2 (cs + 1) (sl + 6)
  refine am_iload hB d_LW_law_557 rfl ?_
  refine am_icmp_eq (tgt := 564) hB d_LW_law_559 (by decide) (fun _ => ?_) (fun z => absurd rfl z)
  have fin : am_Z X 580 [.float 0, .ref 0, .ref 422, .ref 457, am_n i, am_n (o_key V (xs (i + 1).toNat).toInt).1, .long v, am_u] [] h2 (cs + 1) (sl + 6) := by
    refine am_goto (tgt := 651) hB d_LW_law_580 (by decide) ?_
    exact am_fgt (L' := lw_L i) ⟨Or.inr rfl, Or.inr rfl, Or.inr rfl, Or.inr rfl, Or.inr rfl, Or.inl rfl, Or.inl rfl, Or.inl rfl, trivial⟩ (am_wide (k := cs + 4) (n := sl + 24) (by omega) (by omega) (kk h2 _ I2))
  refine am_iload hB d_LW_law_564 rfl ?_
  refine ai_zne (tgt := 580) hB d_LW_law_566 (by decide) (fun hz => ?_) (fun hz => ?_)
  · exact fin
  have O := O2
  refine am_aload_n hB d_LW_law_569 rfl rfl rfl ?_
  refine ai_const hB d_LW_law_570 ?_
  refine ai_lald hB d_LW_law_571 ty_2 O ?_
  refine am_lload hB d_LW_law_572 rfl ?_
  refine am_lcmp hB d_LW_law_574 ?_
  refine am_if_eq (tgt := 580) hB d_LW_law_575 (by decide) (fun _ => fin) (fun z => absurd ((lg_cmp_eq _ _).mpr ?_) z)
  rw [he hz]
  exact hx hz
theorem lw_case_13 {X : am_C} {l : Launch} {G : am_G} (htr : l.stackTraces = false) (hB : am_B X "RetraceDeskLaw" code) (hR : am_R0 X l G M_LW_law) {n : Nat} {xs : Nat → Int32} (hs : am_Sc X n xs) (hn : n ≤ 2048) {i : Int} (h0 : 0 ≤ i) (h4 : i + 4 ≤ n) {h : am_H} {V : dv} {cs sl : Nat} (I : lw_I h V) (hcs : cs + 8 ≤ 601024) (hsl : sl + 48 ≤ 7293034) (kk : ∀ h2 V2, lw_I h2 V2 → am_Z X 651 (lw_L i) [] h2 (cs + 4) (sl + 24)) : am_Z X 583 (lw_L i) [] h cs sl := by
  obtain ⟨D, U, M, R, g, O⟩ := I
  obtain ⟨fs, hk⟩ := D.at
  show am_Z X 583 [.float 0, .ref 0, .ref 422, .ref 457, am_n i, am_u, am_u, am_u] [] h cs sl
  have r1 := s_rng (xs (i + 1).toNat)
  have r2 := s_rng (xs (i + 2).toNat)
  refine am_aload_n hB d_LW_law_583 rfl rfl rfl ?_
  refine am_aload_n hB d_LW_law_584 rfl rfl rfl ?_
  refine am_iload hB d_LW_law_585 rfl ?_
  refine ai_const hB d_LW_law_587 ?_
  refine ai_add hB d_LW_law_588 ?_
  refine lw_sld hB d_LW_law_589 hs ?_
  refine am_aload_n hB d_LW_law_590 rfl rfl rfl ?_
  refine am_iload hB d_LW_law_591 rfl ?_
  refine ai_const hB d_LW_law_593 ?_
  refine ai_add hB d_LW_law_594 ?_
  refine lw_sld hB d_LW_law_595 hs ?_
  refine am_aload_n hB d_LW_law_596 rfl rfl rfl ?_
  refine am_callW0 hB hR (as := [.ref 0, am_n (xs (i + 1).toNat).toInt, am_n (xs (i + 2).toNat).toInt, .ref 457]) (q_LW_reports htr D O r1 r2) cW_reports rfl rfl d_LW_law_597 ⟨by decide, Nat.le_of_ble_eq_true rfl⟩ ⟨(by show cs + 2 ≤ 601024; omega), (by show sl + 12 ≤ 7293034; omega)⟩ (cs' := cs + 2) (sl' := sl + 12) rfl rfl (fun rr h1 hp => ?_)
  obtain ⟨hr, c3, D1, ⟨g1, O1, hx⟩, hm, f1, f2⟩ := hp
  have M1 := (M.ko f1 (Or.inl (by decide))).ko f2 (Or.inr (by decide))
  rw [hr]
  show am_Z X 600 [.float 0, .ref 0, .ref 422, .ref 457, am_n i, am_u, am_u, am_u] [am_n (o_reports V (xs (i + 1).toNat).toInt (xs (i + 2).toNat).toInt).1] h1 (cs + 2) (sl + 12)
  refine am_istore hB d_LW_law_600 (by rw [hR.r0.nL]; decide) rfl ?_
  refine am_aload_n hB d_LW_law_602 rfl rfl rfl ?_
  refine am_aload_n hB d_LW_law_603 rfl rfl rfl ?_
  refine am_iload hB d_LW_law_604 rfl ?_
  refine ai_const hB d_LW_law_606 ?_
  refine ai_add hB d_LW_law_607 ?_
  refine lw_sld hB d_LW_law_608 hs ?_
  refine am_aload_n hB d_LW_law_609 rfl rfl rfl ?_
  refine am_iload hB d_LW_law_610 rfl ?_
  refine ai_const hB d_LW_law_612 ?_
  refine ai_add hB d_LW_law_613 ?_
  refine lw_sld hB d_LW_law_614 hs ?_
  refine am_callV0 hB hR (as := [am_n (xs (i + 1).toNat).toInt, am_n (xs (i + 2).toNat).toInt]) M1.1 (k_MO_reports M1 R D.1 r1 r2) c_LW_107 rfl rfl d_LW_law_615 ⟨by decide, Nat.le_of_ble_eq_true rfl⟩ ⟨(by show cs + 2 + 0 ≤ 601024; omega), (by show sl + 12 + 0 ≤ 7293034; omega)⟩ (cs' := cs + 2) (sl' := sl + 12) rfl rfl (fun rr h2 hp => ?_)
  obtain ⟨U2, M2, f3, hcd, R2, v, hv, he⟩ := hp
  have I2 := lw_I.mo (h := h) (V := V) D1 O1 f3 M2 R2
  have O2 := f3 457 _ (Or.inr (by decide)) O1
  rw [hv]
  show am_Z X 618 [.float 0, .ref 0, .ref 422, .ref 457, am_n i, am_n (o_reports V (xs (i + 1).toNat).toInt (xs (i + 2).toNat).toInt).1, am_u, am_u] [am_n v] h2 (cs + 2) (sl + 12)
  refine am_istore hB d_LW_law_618 (by rw [hR.r0.nL]; decide) rfl ?_
  refine am_aload_n hB d_LW_law_620 rfl rfl rfl ?_
  refine am_callV0 hB hR (as := []) M2.1 (m_MO_thrown M2) c_LW_66 rfl rfl d_LW_law_621 ⟨by decide, Nat.le_of_ble_eq_true rfl⟩ ⟨(by show cs + 2 + 0 ≤ 601024; omega), (by show sl + 12 + 0 ≤ 7293034; omega)⟩ (cs' := cs + 2) (sl' := sl + 12) rfl rfl (fun rr h3 hp => ?_)
  obtain ⟨hr3, hh3⟩ := hp
  rw [hr3, ← hh3, hcd]
  show am_Z X 624 [.float 0, .ref 0, .ref 422, .ref 457, am_n i, am_n (o_reports V (xs (i + 1).toNat).toInt (xs (i + 2).toNat).toInt).1, am_n v, am_u] [am_n (o_reports V (xs (i + 1).toNat).toInt (xs (i + 2).toNat).toInt).1] h2 (cs + 2) (sl + 12)
  refine am_iload hB d_LW_law_624 rfl ?_
  refine am_icmp_eq (tgt := 631) hB d_LW_law_626 (by decide) (fun _ => ?_) (fun z => absurd rfl z)
  have fin : am_Z X 648 [.float 0, .ref 0, .ref 422, .ref 457, am_n i, am_n (o_reports V (xs (i + 1).toNat).toInt (xs (i + 2).toNat).toInt).1, am_n v, am_u] [] h2 (cs + 2) (sl + 12) := by
    refine am_goto (tgt := 651) hB d_LW_law_648 (by decide) ?_
    exact am_fgt (L' := lw_L i) ⟨Or.inr rfl, Or.inr rfl, Or.inr rfl, Or.inr rfl, Or.inr rfl, Or.inl rfl, Or.inl rfl, Or.inl rfl, trivial⟩ (am_wide (k := cs + 4) (n := sl + 24) (by omega) (by omega) (kk h2 _ I2))
  refine am_iload hB d_LW_law_631 rfl ?_
  refine ai_zne (tgt := 648) hB d_LW_law_633 (by decide) (fun hz => ?_) (fun hz => ?_)
  · exact fin
  have O := O2
  refine am_aload_n hB d_LW_law_636 rfl rfl rfl ?_
  refine ai_const hB d_LW_law_637 ?_
  refine ai_lald hB d_LW_law_638 ty_2 O ?_
  refine am_iload hB d_LW_law_639 rfl ?_
  refine am_i2l hB d_LW_law_641 ?_
  refine am_lcmp hB d_LW_law_642 ?_
  refine am_if_eq (tgt := 648) hB d_LW_law_643 (by decide) (fun _ => fin) (fun z => absurd ((lg_cmp_eq _ _).mpr ?_) z)
  rw [he hz]
  exact hx hz
theorem lw_case_6 {X : am_C} {l : Launch} {G : am_G} (htr : l.stackTraces = false) (hB : am_B X "RetraceDeskLaw" code) (hR : am_R0 X l G M_LW_law) {n : Nat} {xs : Nat → Int32} (hs : am_Sc X n xs) (hn : n ≤ 2048) {i : Int} (h0 : 0 ≤ i) (h4 : i + 4 ≤ n) {h : am_H} {V : dv} {cs sl : Nat} (I : lw_I h V) (hcs : cs + 8 ≤ 601024) (hsl : sl + 48 ≤ 7293034) (kk : ∀ h2 V2, lw_I h2 V2 → am_Z X 651 (lw_L i) [] h2 (cs + 4) (sl + 24)) : am_Z X 364 (lw_L i) [] h cs sl := by
  obtain ⟨D, U, M, R, g, O⟩ := I
  obtain ⟨fs, hk⟩ := D.at
  show am_Z X 364 [.float 0, .ref 0, .ref 422, .ref 457, am_n i, am_u, am_u, am_u] [] h cs sl
  refine am_aload_n hB d_LW_law_364 rfl rfl rfl ?_
  refine am_callV0 hB hR (as := []) hk (m_RD_wrong D) c_LW_78 rfl rfl d_LW_law_365 ⟨by decide, Nat.le_of_ble_eq_true rfl⟩ ⟨(by show cs + 0 ≤ 601024; omega), (by show sl + 0 ≤ 7293034; omega)⟩ (cs' := cs) (sl' := sl) rfl rfl (fun rr h1 hp => ?_)
  obtain ⟨hr, hh⟩ := hp
  rw [hr, ← hh]
  show am_Z X 368 [.float 0, .ref 0, .ref 422, .ref 457, am_n i, am_u, am_u, am_u] [am_n V.wr] h cs sl
  refine am_aload_n hB d_LW_law_368 rfl rfl rfl ?_
  refine am_callV0 hB hR (as := []) M.1 (m_MO_wrong M) c_LW_81 rfl rfl d_LW_law_369 ⟨by decide, Nat.le_of_ble_eq_true rfl⟩ ⟨(by show cs + 0 ≤ 601024; omega), (by show sl + 0 ≤ 7293034; omega)⟩ (cs' := cs) (sl' := sl) rfl rfl (fun rr h2 hp => ?_)
  obtain ⟨hr2, M2, f⟩ := hp
  rw [hr2, R.2.2.2.2.2.2.1.2]
  show am_Z X 372 [.float 0, .ref 0, .ref 422, .ref 457, am_n i, am_u, am_u, am_u] [am_n V.wr, am_n V.wr] h2 cs sl
  refine am_icmp_eq (tgt := 651) hB d_LW_law_372 (by decide) (fun _ => ?_) (fun z => absurd rfl z)
  exact am_wide (k := cs + 4) (n := sl + 24) (by omega) (by omega) (kk h2 _ (lw_I.mo (h := h) (V := V) D O f M2 R.cd))
theorem lw_case_7 {X : am_C} {l : Launch} {G : am_G} (htr : l.stackTraces = false) (hB : am_B X "RetraceDeskLaw" code) (hR : am_R0 X l G M_LW_law) {n : Nat} {xs : Nat → Int32} (hs : am_Sc X n xs) (hn : n ≤ 2048) {i : Int} (h0 : 0 ≤ i) (h4 : i + 4 ≤ n) {h : am_H} {V : dv} {cs sl : Nat} (I : lw_I h V) (hcs : cs + 8 ≤ 601024) (hsl : sl + 48 ≤ 7293034) (kk : ∀ h2 V2, lw_I h2 V2 → am_Z X 651 (lw_L i) [] h2 (cs + 4) (sl + 24)) : am_Z X 377 (lw_L i) [] h cs sl := by
  obtain ⟨D, U, M, R, g, O⟩ := I
  obtain ⟨fs, hk⟩ := D.at
  show am_Z X 377 [.float 0, .ref 0, .ref 422, .ref 457, am_n i, am_u, am_u, am_u] [] h cs sl
  refine am_aload_n hB d_LW_law_377 rfl rfl rfl ?_
  refine am_callV0 hB hR (as := []) hk (m_RD_length D) c_LW_82 rfl rfl d_LW_law_378 ⟨by decide, Nat.le_of_ble_eq_true rfl⟩ ⟨(by show cs + 0 ≤ 601024; omega), (by show sl + 0 ≤ 7293034; omega)⟩ (cs' := cs) (sl' := sl) rfl rfl (fun rr h1 hp => ?_)
  obtain ⟨hr, hh⟩ := hp
  rw [hr, ← hh]
  show am_Z X 381 [.float 0, .ref 0, .ref 422, .ref 457, am_n i, am_u, am_u, am_u] [am_n (V.pr.length : Nat)] h cs sl
  refine am_aload_n hB d_LW_law_381 rfl rfl rfl ?_
  refine am_callV0 hB hR (as := []) M.1 (m_MO_length M) c_LW_85 rfl rfl d_LW_law_382 ⟨by decide, Nat.le_of_ble_eq_true rfl⟩ ⟨(by show cs + 0 ≤ 601024; omega), (by show sl + 0 ≤ 7293034; omega)⟩ (cs' := cs) (sl' := sl) rfl rfl (fun rr h2 hp => ?_)
  obtain ⟨hr2, M2, f⟩ := hp
  rw [hr2, R.2.2.2.2.2.1.1]
  show am_Z X 385 [.float 0, .ref 0, .ref 422, .ref 457, am_n i, am_u, am_u, am_u] [am_n (V.pr.length : Nat), am_n (V.pr.length : Nat)] h2 cs sl
  refine am_icmp_eq (tgt := 651) hB d_LW_law_385 (by decide) (fun _ => ?_) (fun z => absurd rfl z)
  exact am_wide (k := cs + 4) (n := sl + 24) (by omega) (by omega) (kk h2 _ (lw_I.mo (h := h) (V := V) D O f M2 R.cd))
theorem lw_case_9 {X : am_C} {l : Launch} {G : am_G} (htr : l.stackTraces = false) (hB : am_B X "RetraceDeskLaw" code) (hR : am_R0 X l G M_LW_law) {n : Nat} {xs : Nat → Int32} (hs : am_Sc X n xs) (hn : n ≤ 2048) {i : Int} (h0 : 0 ≤ i) (h4 : i + 4 ≤ n) {h : am_H} {V : dv} {cs sl : Nat} (I : lw_I h V) (hcs : cs + 8 ≤ 601024) (hsl : sl + 48 ≤ 7293034) (kk : ∀ h2 V2, lw_I h2 V2 → am_Z X 651 (lw_L i) [] h2 (cs + 4) (sl + 24)) : am_Z X 446 (lw_L i) [] h cs sl := by
  obtain ⟨D, U, M, R, g, O⟩ := I
  obtain ⟨fs, hk⟩ := D.at
  show am_Z X 446 [.float 0, .ref 0, .ref 422, .ref 457, am_n i, am_u, am_u, am_u] [] h cs sl
  refine am_aload_n hB d_LW_law_446 rfl rfl rfl ?_
  refine am_callV0 hB hR (as := []) hk (m_RD_doubtful D) c_LW_90 rfl rfl d_LW_law_447 ⟨by decide, Nat.le_of_ble_eq_true rfl⟩ ⟨(by show cs + 0 ≤ 601024; omega), (by show sl + 0 ≤ 7293034; omega)⟩ (cs' := cs) (sl' := sl) rfl rfl (fun rr h1 hp => ?_)
  obtain ⟨hr, hh⟩ := hp
  rw [hr, ← hh]
  show am_Z X 450 [.float 0, .ref 0, .ref 422, .ref 457, am_n i, am_u, am_u, am_u] [am_n V.db] h cs sl
  refine am_aload_n hB d_LW_law_450 rfl rfl rfl ?_
  refine am_callV0 hB hR (as := []) M.1 (m_MO_doubtful M) c_LW_93 rfl rfl d_LW_law_451 ⟨by decide, Nat.le_of_ble_eq_true rfl⟩ ⟨(by show cs + 0 ≤ 601024; omega), (by show sl + 0 ≤ 7293034; omega)⟩ (cs' := cs) (sl' := sl) rfl rfl (fun rr h2 hp => ?_)
  obtain ⟨hr2, M2, f⟩ := hp
  rw [hr2, R.2.2.2.2.2.2.1.1]
  show am_Z X 454 [.float 0, .ref 0, .ref 422, .ref 457, am_n i, am_u, am_u, am_u] [am_n V.db, am_n V.db] h2 cs sl
  refine am_icmp_eq (tgt := 651) hB d_LW_law_454 (by decide) (fun _ => ?_) (fun z => absurd rfl z)
  exact am_wide (k := cs + 4) (n := sl + 24) (by omega) (by omega) (kk h2 _ (lw_I.mo (h := h) (V := V) D O f M2 R.cd))
theorem lw_case_11 {X : am_C} {l : Launch} {G : am_G} (htr : l.stackTraces = false) (hB : am_B X "RetraceDeskLaw" code) (hR : am_R0 X l G M_LW_law) {n : Nat} {xs : Nat → Int32} (hs : am_Sc X n xs) (hn : n ≤ 2048) {i : Int} (h0 : 0 ≤ i) (h4 : i + 4 ≤ n) {h : am_H} {V : dv} {cs sl : Nat} (I : lw_I h V) (hcs : cs + 8 ≤ 601024) (hsl : sl + 48 ≤ 7293034) (kk : ∀ h2 V2, lw_I h2 V2 → am_Z X 651 (lw_L i) [] h2 (cs + 4) (sl + 24)) : am_Z X 515 (lw_L i) [] h cs sl := by
  obtain ⟨D, U, M, R, g, O⟩ := I
  obtain ⟨fs, hk⟩ := D.at
  show am_Z X 515 [.float 0, .ref 0, .ref 422, .ref 457, am_n i, am_u, am_u, am_u] [] h cs sl
  refine am_aload_n hB d_LW_law_515 rfl rfl rfl ?_
  refine am_callV0 hB hR (as := []) hk (m_RD_crashes D) c_LW_97 rfl rfl d_LW_law_516 ⟨by decide, Nat.le_of_ble_eq_true rfl⟩ ⟨(by show cs + 0 ≤ 601024; omega), (by show sl + 0 ≤ 7293034; omega)⟩ (cs' := cs) (sl' := sl) rfl rfl (fun rr h1 hp => ?_)
  obtain ⟨hr, hh⟩ := hp
  rw [hr, ← hh]
  show am_Z X 519 [.float 0, .ref 0, .ref 422, .ref 457, am_n i, am_u, am_u, am_u] [am_n V.n] h cs sl
  refine am_aload_n hB d_LW_law_519 rfl rfl rfl ?_
  refine am_callV0 hB hR (as := []) M.1 (m_MO_crashes M) c_LW_100 rfl rfl d_LW_law_520 ⟨by decide, Nat.le_of_ble_eq_true rfl⟩ ⟨(by show cs + 0 ≤ 601024; omega), (by show sl + 0 ≤ 7293034; omega)⟩ (cs' := cs) (sl' := sl) rfl rfl (fun rr h2 hp => ?_)
  obtain ⟨hr2, M2, f⟩ := hp
  rw [hr2, R.2.2.2.2.2.2.2.1.1]
  show am_Z X 523 [.float 0, .ref 0, .ref 422, .ref 457, am_n i, am_u, am_u, am_u] [am_n V.n, am_n V.n] h2 cs sl
  refine am_icmp_eq (tgt := 651) hB d_LW_law_523 (by decide) (fun _ => ?_) (fun z => absurd rfl z)
  exact am_wide (k := cs + 4) (n := sl + 24) (by omega) (by omega) (kk h2 _ (lw_I.mo (h := h) (V := V) D O f M2 R.cd))
theorem mo_rel.sc {U : mv} {V : dv} (R : mo_rel U V) : mo_rel (mv.s_size (mv.s_code U (0)) (0)) (dv.s_dr V ([])) := ⟨⟨rfl, fun j hj => absurd hj (Nat.not_lt_zero j), R.1.2.2⟩, R.2⟩
theorem lw_case_1 {X : am_C} {l : Launch} {G : am_G} (htr : l.stackTraces = false) (hB : am_B X "RetraceDeskLaw" code) (hR : am_R0 X l G M_LW_law) {n : Nat} {xs : Nat → Int32} (hs : am_Sc X n xs) (hn : n ≤ 2048) {i : Int} (h0 : 0 ≤ i) (h4 : i + 4 ≤ n) {h : am_H} {V : dv} {cs sl : Nat} (I : lw_I h V) (hcs : cs + 8 ≤ 601024) (hsl : sl + 48 ≤ 7293034) (kk : ∀ h2 V2, lw_I h2 V2 → am_Z X 651 (lw_L i) [] h2 (cs + 4) (sl + 24)) : am_Z X 177 (lw_L i) [] h cs sl := by
  obtain ⟨D, U, M, R, g, O⟩ := I
  obtain ⟨fs, hk⟩ := D.at
  show am_Z X 177 [.float 0, .ref 0, .ref 422, .ref 457, am_n i, am_u, am_u, am_u] [] h cs sl
  refine am_aload_n hB d_LW_law_177 rfl rfl rfl ?_
  refine am_callV0 hB hR (as := []) hk (m_RD_scrap D) c_LW_56 rfl rfl d_LW_law_178 ⟨by decide, Nat.le_of_ble_eq_true rfl⟩ ⟨(by show cs + 0 ≤ 601024; omega), (by show sl + 0 ≤ 7293034; omega)⟩ (cs' := cs) (sl' := sl) rfl rfl (fun rr h1 hp => ?_)
  obtain ⟨hr, D1, f1⟩ := hp
  rw [hr]
  have M1 := M.ko f1 (Or.inl (by decide))
  have O1 := f1 457 _ (Or.inr (by decide)) O
  show am_Z X 181 [.float 0, .ref 0, .ref 422, .ref 457, am_n i, am_u, am_u, am_u] [] h1 cs sl
  refine am_aload_n hB d_LW_law_181 rfl rfl rfl ?_
  refine am_callV0 hB hR (as := []) M1.1 (m_MO_scrap M1) c_LW_59 rfl rfl d_LW_law_182 ⟨by decide, Nat.le_of_ble_eq_true rfl⟩ ⟨(by show cs + 0 ≤ 601024; omega), (by show sl + 0 ≤ 7293034; omega)⟩ (cs' := cs) (sl' := sl) rfl rfl (fun rr h2 hp => ?_)
  obtain ⟨hr2, M2, f⟩ := hp
  rw [hr2]
  show am_Z X 185 [.float 0, .ref 0, .ref 422, .ref 457, am_n i, am_u, am_u, am_u] [] h2 cs sl
  refine am_goto (tgt := 651) hB d_LW_law_185 (by decide) ?_
  exact am_wide (k := cs + 4) (n := sl + 24) (by omega) (by omega) (kk h2 _ (lw_I.mo (h := h) (V := V) D1 O1 f M2 R.sc))
theorem mo_rel.pt {U : mv} {V : dv} {g : Int → Int} {xs : List Int} (R : mo_rel U V) (h1 : rl g xs) (h2 : am_cok g) : mo_rel (mv.s_size (mv.s_draft (mv.s_code U (0)) (g)) (xs.length)) (dv.s_dr V (xs)) := ⟨⟨rfl, h1, h2⟩, R.2⟩
theorem mo_rel.put {U : mv} {V : dv} {g : Int → Int} {xs : List Int} {c : Bool} {ys : List Int} (R : mo_rel U V) (e : xs = (if c = true then ys else V.dr)) (h1 : rl g xs) (h2 : am_cok g) : mo_rel (mv.s_size (mv.s_draft (mv.s_code U (0)) (g)) (xs.length)) (if c = true then (dv.s_dr V (ys)) else V) := by
  cases c with
  | true =>
    rw [if_pos rfl] at e ⊢
    subst e
    exact R.pt h1 h2
  | false =>
    rw [if_neg (fun z => by cases z)] at e ⊢
    subst e
    exact ⟨⟨rfl, h1, h2⟩, R.2⟩
theorem lw_case_0 {X : am_C} {l : Launch} {G : am_G} (htr : l.stackTraces = false) (hB : am_B X "RetraceDeskLaw" code) (hR : am_R0 X l G M_LW_law) {n : Nat} {xs : Nat → Int32} (hs : am_Sc X n xs) (hn : n ≤ 2048) {i : Int} (h0 : 0 ≤ i) (h4 : i + 4 ≤ n) {h : am_H} {V : dv} {cs sl : Nat} (I : lw_I h V) (hcs : cs + 8 ≤ 601024) (hsl : sl + 48 ≤ 7293034) (kk : ∀ h2 V2, lw_I h2 V2 → am_Z X 651 (lw_L i) [] h2 (cs + 4) (sl + 24)) : am_Z X 108 (lw_L i) [] h cs sl := by
  obtain ⟨D, U, M, R, g, O⟩ := I
  obtain ⟨fs, hk⟩ := D.at
  show am_Z X 108 [.float 0, .ref 0, .ref 422, .ref 457, am_n i, am_u, am_u, am_u] [] h cs sl
  have r1 := s_rng (xs (i + 1).toNat)
  have hl := D.1.1
  refine am_aload_n hB d_LW_law_108 rfl rfl rfl ?_
  refine am_aload_n hB d_LW_law_109 rfl rfl rfl ?_
  refine am_iload hB d_LW_law_110 rfl ?_
  refine ai_const hB d_LW_law_112 ?_
  refine ai_add hB d_LW_law_113 ?_
  refine lw_sld hB d_LW_law_114 hs ?_
  refine am_aload_n hB d_LW_law_115 rfl rfl rfl ?_
  refine am_iload hB d_LW_law_116 rfl ?_
  refine ai_const hB d_LW_law_118 ?_
  refine ai_add hB d_LW_law_119 ?_
  refine lw_sld hB d_LW_law_120 hs ?_
  refine am_i2l hB d_LW_law_121 ?_
  refine ai_bipush hB d_LW_law_122 (by decide) ?_
  refine am_lshl hB d_LW_law_124 ?_
  refine am_aload_n hB d_LW_law_125 rfl rfl rfl ?_
  refine am_iload hB d_LW_law_126 rfl ?_
  refine ai_const hB d_LW_law_128 ?_
  refine ai_add hB d_LW_law_129 ?_
  refine lw_sld hB d_LW_law_130 hs ?_
  refine am_i2l hB d_LW_law_131 ?_
  refine am_ldc2 hB d_LW_law_132 J_LW_49 ?_
  refine am_land hB d_LW_law_135 ?_
  refine am_lor hB d_LW_law_136 ?_
  refine am_callV0 hB hR (as := [am_n (xs (i + 1).toNat).toInt, .long _]) hk (m_RD_put D r1) c_LW_51 rfl rfl d_LW_law_137 ⟨by decide, Nat.le_of_ble_eq_true rfl⟩ ⟨(by show cs + 0 ≤ 601024; omega), (by show sl + 0 ≤ 7293034; omega)⟩ (cs' := cs) (sl' := sl) rfl rfl (fun rr h1 hp => ?_)
  obtain ⟨hr, D1, f1⟩ := hp
  rw [hr]
  have M1 := M.ko f1 (Or.inl (by decide))
  have O1 := f1 457 _ (Or.inr (by decide)) O
  show am_Z X 140 [.float 0, .ref 0, .ref 422, .ref 457, am_n i, am_u, am_u, am_u] [am_n (sp_i (dv_put V (xs (i + 1).toNat).toInt _))] h1 cs sl
  refine am_aload_n hB d_LW_law_140 rfl rfl rfl ?_
  refine am_aload_n hB d_LW_law_141 rfl rfl rfl ?_
  refine am_iload hB d_LW_law_142 rfl ?_
  refine ai_const hB d_LW_law_144 ?_
  refine ai_add hB d_LW_law_145 ?_
  refine lw_sld hB d_LW_law_146 hs ?_
  refine am_aload_n hB d_LW_law_147 rfl rfl rfl ?_
  refine am_iload hB d_LW_law_148 rfl ?_
  refine ai_const hB d_LW_law_150 ?_
  refine ai_add hB d_LW_law_151 ?_
  refine lw_sld hB d_LW_law_152 hs ?_
  refine am_i2l hB d_LW_law_153 ?_
  refine ai_bipush hB d_LW_law_154 (by decide) ?_
  refine am_lshl hB d_LW_law_156 ?_
  refine am_aload_n hB d_LW_law_157 rfl rfl rfl ?_
  refine am_iload hB d_LW_law_158 rfl ?_
  refine ai_const hB d_LW_law_160 ?_
  refine ai_add hB d_LW_law_161 ?_
  refine lw_sld hB d_LW_law_162 hs ?_
  refine am_i2l hB d_LW_law_163 ?_
  refine am_ldc2 hB d_LW_law_164 J_LW_49 ?_
  refine am_land hB d_LW_law_167 ?_
  refine am_lor hB d_LW_law_168 ?_
  refine am_callV0 hB hR (as := [am_n (xs (i + 1).toNat).toInt, .long _]) M1.1 (m_MO_put M1 R.1.1 hl R.1.2.1 R.1.2.2 r1) c_LW_55 rfl rfl d_LW_law_169 ⟨by decide, Nat.le_of_ble_eq_true rfl⟩ ⟨(by show cs + 0 ≤ 601024; omega), (by show sl + 0 ≤ 7293034; omega)⟩ (cs' := cs) (sl' := sl) rfl rfl (fun rr h2 hp => ?_)
  obtain ⟨hr2, g2, ys, e, M2, q1, q2, f⟩ := hp
  rw [hr2]
  refine am_icmp_eq (tgt := 651) hB d_LW_law_172 (by decide) (fun _ => ?_) (fun z => absurd rfl z)
  exact am_wide (k := cs + 4) (n := sl + 24) (by omega) (by omega) (kk h2 _ (lw_I.mo (h := h) (V := V) D1 O1 f M2 (R.put e q1 q2)))
/-! the law's loop -/
theorem lw_loop {X : am_C} {l : Launch} {G : am_G} (htr : l.stackTraces = false) (hB : am_B X "RetraceDeskLaw" code) (hR : am_R0 X l G M_LW_law) {n : Nat} {xs : Nat → Int32} (hs : am_Sc X n xs) (hn : n ≤ 2048) (hend : ∀ (L : List Value) (h : am_H) (cs sl : Nat), cs ≤ 601024 → sl ≤ 7293034 → am_Z X 657 L [] h cs sl) : ∀ (d : Nat) (i : Int) (h : am_H) (V : dv) (cs sl : Nat), 0 ≤ i → i ≤ n → n < i + 4 * d + 4 → lw_I h V → cs + 4 * d + 8 ≤ 601024 → sl + 24 * d + 48 ≤ 7293034 → am_Z X 23 (lw_L i) [] h cs sl := by
  intro d
  induction d with
  | zero =>
    intro i h V cs sl h0 hi hd I hcs hsl
    show am_Z X 23 [.float 0, .ref 0, .ref 422, .ref 457, am_n i, am_u, am_u, am_u] [] h cs sl
    refine am_iload hB d_LW_law_23 rfl ?_
    refine am_aload_n hB d_LW_law_25 rfl rfl rfl ?_
    refine lw_slen hB d_LW_law_26 hs ?_
    refine ai_const hB d_LW_law_27 ?_
    refine ai_sub hB d_LW_law_28 ?_
    refine ai_jgt (tgt := 657) hB d_LW_law_29 (by decide) (fun c => ?_) (fun c => ?_)
    · exact hend _ _ _ _ (by omega) (by omega)
    · omega
  | succ d ih =>
    intro i h V cs sl h0 hi hd I hcs hsl
    show am_Z X 23 [.float 0, .ref 0, .ref 422, .ref 457, am_n i, am_u, am_u, am_u] [] h cs sl
    refine am_iload hB d_LW_law_23 rfl ?_
    refine am_aload_n hB d_LW_law_25 rfl rfl rfl ?_
    refine lw_slen hB d_LW_law_26 hs ?_
    refine ai_const hB d_LW_law_27 ?_
    refine ai_sub hB d_LW_law_28 ?_
    refine ai_jgt (tgt := 657) hB d_LW_law_29 (by decide) (fun c => ?_) (fun c => ?_)
    · exact hend _ _ _ _ (by omega) (by omega)
    have h4 : i + 4 ≤ n := by omega
    have hcs8 : cs + 8 ≤ 601024 := by omega
    have hsl8 : sl + 48 ≤ 7293034 := by omega
    have kk : ∀ h2 V2, lw_I h2 V2 → am_Z X 651 (lw_L i) [] h2 (cs + 4) (sl + 24) := fun h2 V2 I2 => by
      show am_Z X 651 [.float 0, .ref 0, .ref 422, .ref 457, am_n i, am_u, am_u, am_u] [] h2 (cs + 4) (sl + 24)
      refine ai_inc hB d_LW_law_651 rfl (by rw [hR.r0.nL]; decide) rfl ?_
      refine am_goto (tgt := 23) hB d_LW_law_654 (by decide) ?_
      exact ih (i + 4) h2 V2 (cs + 4) (sl + 24) (by omega) (by omega) (by omega) I2 (by omega) (by omega)
    refine am_aload_n hB d_LW_law_32 rfl rfl rfl ?_
    refine am_iload hB d_LW_law_33 rfl ?_
    refine lw_sld hB d_LW_law_35 hs ?_
    refine ai_bipush hB d_LW_law_36 (by decide) ?_
    refine am_iand hB d_LW_law_38 ?_
    have hq := s_and15 (am_i (xs i.toNat).toInt)
    generalize am_i (xs i.toNat).toInt &&& am_i 15 = q at hq ⊢
    have hc : q.toInt = 0 ∨ q.toInt = 1 ∨ q.toInt = 2 ∨ q.toInt = 3 ∨ q.toInt = 4 ∨ q.toInt = 5 ∨ q.toInt = 6 ∨ q.toInt = 7 ∨ q.toInt = 8 ∨ q.toInt = 9 ∨ q.toInt = 10 ∨ q.toInt = 11 ∨ q.toInt = 12 ∨ q.toInt = 13 ∨ 13 < q.toInt := by omega
    rcases hc with hc | hc | hc | hc | hc | hc | hc | hc | hc | hc | hc | hc | hc | hc | hc
    · exact am_tableIn (tgt := 108) (off := 69) hB d_LW_law_39 (by omega) (by omega) (by rw [hc]; rfl) (by decide) (lw_case_0 htr hB hR hs hn h0 h4 I hcs8 hsl8 kk)
    · exact am_tableIn (tgt := 177) (off := 138) hB d_LW_law_39 (by omega) (by omega) (by rw [hc]; rfl) (by decide) (lw_case_1 htr hB hR hs hn h0 h4 I hcs8 hsl8 kk)
    · exact am_tableIn (tgt := 188) (off := 149) hB d_LW_law_39 (by omega) (by omega) (by rw [hc]; rfl) (by decide) (lw_case_2 htr hB hR hs hn h0 h4 I hcs8 hsl8 kk)
    · exact am_tableIn (tgt := 232) (off := 193) hB d_LW_law_39 (by omega) (by omega) (by rw [hc]; rfl) (by decide) (lw_case_3 htr hB hR hs hn h0 h4 I hcs8 hsl8 kk)
    · exact am_tableIn (tgt := 276) (off := 237) hB d_LW_law_39 (by omega) (by omega) (by rw [hc]; rfl) (by decide) (lw_case_4 htr hB hR hs hn h0 h4 I hcs8 hsl8 kk)
    · exact am_tableIn (tgt := 320) (off := 281) hB d_LW_law_39 (by omega) (by omega) (by rw [hc]; rfl) (by decide) (lw_case_5 htr hB hR hs hn h0 h4 I hcs8 hsl8 kk)
    · exact am_tableIn (tgt := 364) (off := 325) hB d_LW_law_39 (by omega) (by omega) (by rw [hc]; rfl) (by decide) (lw_case_6 htr hB hR hs hn h0 h4 I hcs8 hsl8 kk)
    · exact am_tableIn (tgt := 377) (off := 338) hB d_LW_law_39 (by omega) (by omega) (by rw [hc]; rfl) (by decide) (lw_case_7 htr hB hR hs hn h0 h4 I hcs8 hsl8 kk)
    · exact am_tableIn (tgt := 390) (off := 351) hB d_LW_law_39 (by omega) (by omega) (by rw [hc]; rfl) (by decide) (lw_case_8 htr hB hR hs hn h0 h4 I hcs8 hsl8 kk)
    · exact am_tableIn (tgt := 446) (off := 407) hB d_LW_law_39 (by omega) (by omega) (by rw [hc]; rfl) (by decide) (lw_case_9 htr hB hR hs hn h0 h4 I hcs8 hsl8 kk)
    · exact am_tableIn (tgt := 459) (off := 420) hB d_LW_law_39 (by omega) (by omega) (by rw [hc]; rfl) (by decide) (lw_case_10 htr hB hR hs hn h0 h4 I hcs8 hsl8 kk)
    · exact am_tableIn (tgt := 515) (off := 476) hB d_LW_law_39 (by omega) (by omega) (by rw [hc]; rfl) (by decide) (lw_case_11 htr hB hR hs hn h0 h4 I hcs8 hsl8 kk)
    · exact am_tableIn (tgt := 528) (off := 489) hB d_LW_law_39 (by omega) (by omega) (by rw [hc]; rfl) (by decide) (lw_case_12 htr hB hR hs hn h0 h4 I hcs8 hsl8 kk)
    · exact am_tableIn (tgt := 583) (off := 544) hB d_LW_law_39 (by omega) (by omega) (by rw [hc]; rfl) (by decide) (lw_case_13 htr hB hR hs hn h0 h4 I hcs8 hsl8 kk)
    · exact am_tableOut (tgt := 651) hB d_LW_law_39 (Or.inr hc) (by decide) (am_wide (k := cs + 4) (n := sl + 24) (by omega) (by omega) (kk h V I))
theorem lw_body {X : am_C} {l : Launch} {G : am_G} (htr : l.stackTraces = false) (hB : am_B X "RetraceDeskLaw" code) (hR : am_R0 X l G M_LW_law) {n : Nat} {xs : Nat → Int32} (hs : am_Sc X n xs) (hn : n ≤ 2048) (hend : ∀ (L : List Value) (h : am_H) (cs sl : Nat), cs ≤ 601024 → sl ≤ 7293034 → am_Z X 657 L [] h cs sl) : am_Z X 0 [.float 0, am_u, am_u, am_u, am_u, am_u, am_u, am_u] [] [] 0 0 := by
  refine am_new hB d_LW_law_0 N_LW_8 (by rw [hR.room]; decide) (by rw [hR.room]; decide) (q := 0) rfl rfl (cs' := 1) (sl' := 10) rfl rfl ?_
  refine am_dup hB d_LW_law_3 rfl ?_
  refine am_callI0 hB hR (as := []) (m_RD_init (d := 0) rfl rfl) c_LW_45 rfl rfl d_LW_law_4 ⟨by decide, Nat.le_of_ble_eq_true rfl⟩ ⟨by decide, by decide⟩ (cs' := 501) (sl' := 8010) rfl rfl (fun rr h1 hp => ?_)
  obtain ⟨hr, l1, D1, f1⟩ := hp
  rw [hr]
  show am_Z X 7 [.float 0, am_u, am_u, am_u, am_u, am_u, am_u, am_u] [.ref 0] h1 501 8010
  refine am_astore_n hB d_LW_law_7 rfl (by rw [hR.r0.nL]; decide) rfl rfl ?_
  refine am_new hB d_LW_law_8 N_LW_46 (by rw [hR.room]; decide) (by rw [hR.room]; decide) (q := 422) l1 rfl (cs' := 502) (sl' := 8064) rfl rfl ?_
  refine am_gapp (fun h2 l2 r2 f2 => ?_)
  rw [l1] at l2 r2
  have D2 := D1.ag (ko.all f2)
  refine am_dup hB d_LW_law_11 rfl ?_
  refine am_callI0 hB hR (as := []) (m_MO_init (m := 422) r2 l2) c_LW_48 rfl rfl d_LW_law_12 ⟨by decide, Nat.le_of_ble_eq_true rfl⟩ ⟨by decide, by decide⟩ (cs' := 562) (sl' := 16064) rfl rfl (fun rr h3 hp => ?_)
  obtain ⟨hr3, l3, M3, f3⟩ := hp
  rw [hr3]
  have D3 := D2.ag (f3.ag (Or.inr (by decide)))
  show am_Z X 15 [.float 0, .ref 0, am_u, am_u, am_u, am_u, am_u, am_u] [.ref 422] h3 562 16064
  refine am_astore_n hB d_LW_law_15 rfl (by rw [hR.r0.nL]; decide) rfl rfl ?_
  refine ai_const hB d_LW_law_16 ?_
  refine am_newJ hB d_LW_law_17 ty_2 tb_220 (by decide) (N := 1) (by decide) (by decide) (by rw [hR.room]; decide) (by rw [hR.room]; decide) (q := 457) l3 rfl (cs' := 563) (sl' := 16065) rfl rfl ?_
  refine am_gapp (fun h4 l4 r4 f4 => ?_)
  rw [l3] at r4
  have D4 := D3.ag (ko.all f4)
  have M4 := M3.ko (f4 0 0) (Or.inl (Nat.zero_le _))
  refine am_astore_n hB d_LW_law_19 rfl (by rw [hR.r0.nL]; decide) rfl rfl ?_
  refine ai_const hB d_LW_law_20 ?_
  refine am_istore hB d_LW_law_21 (by rw [hR.r0.nL]; decide) rfl ?_
  exact lw_loop htr hB hR hs hn hend 513 0 h4 dv_0 563 16065 (by omega) (by omega) (by omega) (lw_I.of (g := fun _ => 0) D4 M4 mo_rel_0 r4) (by omega) (by omega)
