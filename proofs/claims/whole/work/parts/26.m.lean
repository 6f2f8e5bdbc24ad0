/-! line by line -/
def pm_run {α : Type} (st : α → Int → Int → Option α) (g : Int → Int) (n : Int) : Nat → Int → Int → α → Int ⊕ α
  | 0, _, _, S => .inr S
  | f + 1, a, row, S => if a ≤ n then (match st S a (sp_ix g 10 a (n - a).toNat) with
      | none => .inl row
      | some S' => pm_run st g n f (sp_ix g 10 a (n - a).toNat + 1) (row + 1) S') else .inr S
theorem m_FO_firstWrongLine {l : Launch} {G : am_G} {h : am_H} {α : Type} {st : α → Int → Int → Option α} {I : am_H → Int → Int → α → Prop} {J : am_H → Prop} {k ci c N : Nat} {g : Int → Int} {n a0 e0 : Int} {S0 : α} {MT : am_D} (hci : ci = 4 ∨ ci = 9) (hg : am_cok g)
    (hcell : ∀ h a e S, I h a e S → ∃ tl, h[k]? = some (ce_FO ci c a e tl) ∧ h[c]? = some (am_ia 0 N g)) (hset : ∀ h a e S a' e' tl, I h a e S → h[k]? = some (ce_FO ci c a e tl) → I (h.set k (ce_FO ci c a' e' tl)) a' e' S)
    (hstep : ∀ h a e S, I h a e S → 0 ≤ a → a ≤ e → e ≤ n → am_M l G MT [.ref k] h (fun r h' => (r = some (am_n 0) ∧ st S a e = none ∧ J h') ∨ (r = some (am_n 1) ∧ ∃ S' a' e', st S a e = some S' ∧ I h' a' e' S')))
    (hc : am_cU "RetraceDesk$Form" 22 ci ({ cls := "RetraceDesk$Form", name := "takesLine", desc := "()Z" } : Jvm.MethodName) "RetraceDesk$Form" MT 0) (hrm : (MT.2.2.2.2.frames + 1 ≤ M_FO_firstWrongLine.2.2.2.2.frames ∧ 8 + (MT.2.2.1 + 11) + MT.2.2.2.2.locals ≤ M_FO_firstWrongLine.2.2.2.2.locals)) (hcl : MT.2.2.2.2.cells = 0 ∧ MT.2.2.2.2.slots = 0) (hn : 0 ≤ n ∧ n ≤ N) (hN : N < 1000000) (hI : I h a0 e0 S0) :
    am_M l G M_FO_firstWrongLine [.ref k, am_n n] h (fun r h' => match pm_run st g n (n + 1).toNat 0 1 S0 with
      | .inl row => r = some (am_n row) ∧ J h'
      | .inr S' => r = some (am_n (-1)) ∧ ∃ a e, I h' a e S') := by
  refine am_M.of (by decide) (Nat.le_of_ble_eq_true rfl) (fun X hB hR => ?_)
  show am_Z X 0 [.ref k, am_n n, am_u, am_u] [] h 0 0
  have loop : ∀ (m : Nat) (i a e row : Int) (f : Nat) (S : α) (h1 : am_H), i + m = n + 1 → 0 ≤ a → a ≤ i → (i = n + 1 → a = n + 1) → (i ≤ n → sp_ix g 10 a (n - a).toNat = sp_ix g 10 i (n - i).toNat) → n + 1 - a ≤ f → 1 ≤ row → row ≤ i + 1 → I h1 a e S → pm_run st g n (n + 1).toNat 0 1 S0 = pm_run st g n f a row S → am_Z X 9 [.ref k, am_n n, am_n row, am_n i] [] h1 0 0 := by
    intro m
    induction m with
    | zero =>
      intro i a e row f S h1 h2 h3 h4 h5 h6 h7 h8 h9 hI1 hrun
      refine am_iload_n hB d_FO_firstWrongLine_9 rfl rfl ?_
      refine am_iload_n hB d_FO_firstWrongLine_10 rfl rfl ?_
      refine ai_jgt (tgt := 60) hB d_FO_firstWrongLine_11 (by decide) (fun c1 => ?_) (fun c1 => ?_)
      · refine ai_const hB d_FO_firstWrongLine_60 ?_
        refine am_iret hB hR d_FO_firstWrongLine_61 rfl (by decide) ?_ (Nat.zero_le _) (Nat.zero_le _)
        have ha := h5 (by omega)
        have : pm_run st g n f a row S = .inr S := by
          cases f with
          | zero => rfl
          | succ f =>
            unfold pm_run
            exact if_neg (by omega)
        rw [hrun, this]
        exact ⟨rfl, a, e, hI1⟩
      · omega
    | succ m ih =>
      intro i a e row f S h1 h2 h3 h4 h5 h6 h7 h8 h9 hI1 hrun
      have hin : i ≤ n := by omega
      obtain ⟨tl, r1, q1⟩ := hcell h1 a e S hI1
      have line : sp_ix g 10 a (n - a).toNat = i → am_Z X 30 [.ref k, am_n n, am_n row, am_n i] [] h1 0 0 := by
        intro hix
        obtain ⟨f', rfl⟩ : ∃ f', f = f' + 1 := ⟨f - 1, by omega⟩
        have hr2 : pm_run st g n (f' + 1) a row S = (match st S a i with
            | none => .inl row
            | some S' => pm_run st g n f' (i + 1) (row + 1) S') := by
          rw [pm_run, if_pos (by omega), hix]
        have I2 := hset h1 a e S a i tl hI1 r1
        refine am_aload_n hB d_FO_firstWrongLine_30 rfl rfl rfl ?_
        refine am_iload_n hB d_FO_firstWrongLine_31 rfl rfl ?_
        refine am_putf hB d_FO_firstWrongLine_32 (P_FO_19 hci) r1 (by simp) am_fit.i rfl ?_
        refine am_aload_n hB d_FO_firstWrongLine_35 rfl rfl rfl ?_
        obtain ⟨tl2, r2, q2⟩ := hcell _ a i S I2
        refine am_callU hB hR (as := []) r2 (hstep _ a i S I2 h3 h4 hin) hc rfl rfl d_FO_firstWrongLine_36 ⟨hrm, by decide⟩ ⟨by rw [hcl.1]; decide, by rw [hcl.2]; decide⟩ rfl rfl (fun rr hh hp => ?_)
        rw [hcl.1, hcl.2]
        rcases hp with ⟨rfl, hs, hJ⟩ | ⟨rfl, S', a', e', hs, hI3⟩
        · show am_Z X 39 [.ref k, am_n n, am_n row, am_n i] [am_n 0] hh 0 0
          refine ai_zne (tgt := 44) hB d_FO_firstWrongLine_39 (by decide) (fun c3 => ?_) (fun c3 => ?_)
          · omega
          refine am_iload_n hB d_FO_firstWrongLine_42 rfl rfl ?_
          refine am_iret hB hR d_FO_firstWrongLine_43 rfl rfl ?_ (Nat.zero_le _) (Nat.zero_le _)
          rw [hrun, hr2, hs]
          exact ⟨rfl, hJ⟩
        · show am_Z X 39 [.ref k, am_n n, am_n row, am_n i] [am_n 1] hh 0 0
          obtain ⟨tl3, r3, q3⟩ := hcell hh a' e' S' hI3
          refine ai_zne (tgt := 44) hB d_FO_firstWrongLine_39 (by decide) (fun c3 => ?_) (fun c3 => ?_)
          · refine ai_inc hB d_FO_firstWrongLine_44 rfl (by rw [hR.nL]; decide) rfl ?_
            refine am_aload_n hB d_FO_firstWrongLine_47 rfl rfl rfl ?_
            refine am_iload_n hB d_FO_firstWrongLine_48 rfl rfl ?_
            refine ai_const hB d_FO_firstWrongLine_49 ?_
            refine ai_add hB d_FO_firstWrongLine_50 ?_
            refine am_putf hB d_FO_firstWrongLine_51 (P_FO_15 hci) r3 (by simp) am_fit.i rfl ?_
            refine ai_inc hB d_FO_firstWrongLine_54 rfl (by rw [hR.nL]; decide) rfl ?_
            refine am_goto (tgt := 9) hB d_FO_firstWrongLine_57 (by decide) (ih (i + 1) (i + 1) e' (row + 1) f' S' _ (by omega) (by omega) (by omega) (fun z => z) (fun _ => rfl) (by omega) (by omega) (by omega) (hset hh a' e' S' (i + 1) e' tl3 hI3 r3) ?_)
            rw [hrun, hr2, hs]
          · omega
      refine am_iload_n hB d_FO_firstWrongLine_9 rfl rfl ?_
      refine am_iload_n hB d_FO_firstWrongLine_10 rfl rfl ?_
      refine ai_jgt (tgt := 60) hB d_FO_firstWrongLine_11 (by decide) (fun c1 => ?_) (fun c1 => ?_)
      · omega
      refine am_iload_n hB d_FO_firstWrongLine_14 rfl rfl ?_
      refine am_iload_n hB d_FO_firstWrongLine_15 rfl rfl ?_
      refine ai_jeq (tgt := 30) hB d_FO_firstWrongLine_16 (by decide) (fun c2 => ?_) (fun c2 => ?_)
      · refine line ?_
        rw [h6 hin, show (n - i).toNat = 0 by omega]
        rfl
      refine am_aload_n hB d_FO_firstWrongLine_19 rfl rfl rfl ?_
      refine am_getf hB d_FO_firstWrongLine_20 (F_FO_9 hci) r1 rfl ?_
      refine am_iload_n hB d_FO_firstWrongLine_23 rfl rfl ?_
      refine ai_cald hB d_FO_firstWrongLine_24 ty_0 q1 ?_
      have hgi := hg i
      obtain ⟨w, hw⟩ : ∃ w : Nat, (n - i).toNat = w + 1 := ⟨(n - i).toNat - 1, by omega⟩
      refine ai_bipush hB d_FO_firstWrongLine_25 (by decide) ?_
      refine ai_jne (tgt := 54) hB d_FO_firstWrongLine_27 (by decide) (fun c3 => ?_) (fun c3 => ?_)
      · refine ai_inc hB d_FO_firstWrongLine_54 rfl (by rw [hR.nL]; decide) rfl ?_
        refine am_goto (tgt := 9) hB d_FO_firstWrongLine_57 (by decide) (ih (i + 1) a e row f S h1 (by omega) h3 (by omega) (fun z => by omega) (fun z => ?_) h7 h8 (by omega) hI1 hrun)
        rw [h6 hin, hw, sp_ix, if_neg c3, show (n - (i + 1)).toNat = w by omega]
      · refine line ?_
        rw [h6 hin, hw, sp_ix, if_pos (by omega)]
  obtain ⟨tl, r1, q1⟩ := hcell h a0 e0 S0 hI
  refine ai_const hB d_FO_firstWrongLine_0 ?_
  refine am_istore_n hB d_FO_firstWrongLine_1 rfl (by rw [hR.nL]; decide) rfl ?_
  refine am_aload_n hB d_FO_firstWrongLine_2 rfl rfl rfl ?_
  refine ai_const hB d_FO_firstWrongLine_3 ?_
  refine am_putf hB d_FO_firstWrongLine_4 (P_FO_15 hci) r1 (by simp) am_fit.i rfl ?_
  refine ai_const hB d_FO_firstWrongLine_7 ?_
  refine am_istore_n hB d_FO_firstWrongLine_8 rfl (by rw [hR.nL]; decide) rfl ?_
  exact loop (n + 1).toNat 0 0 e0 1 (n + 1).toNat S0 _ (by omega) (by omega) (by omega) (fun z => by omega) (fun _ => rfl) (by omega) (by omega) (by omega) (hset h a0 e0 S0 0 e0 tl hI r1) rfl
/-- a mapping is read -/
theorem m_MA_firstWrongLine {l : Launch} {G : am_G} {h : am_H} {b : Nat} {g : Int → Int} {s : Nat → Int} {n : Int} {S0 : pm_S} (m : am_map h b g s) (hg : am_cok g) (R : mp_rep g s S0) (hn : 0 ≤ n ∧ n ≤ 600) :
    am_M l G M_FO_firstWrongLine [.ref b, am_n n] h (fun r h' => match pm_run (pm_step g) g n (n + 1).toNat 0 1 S0 with
      | .inl row => r = some (am_n row) ∧ ∃ s', mp_to h b g h' s'
      | .inr S' => r = some (am_n (-1)) ∧ ∃ s', mp_to h b g h' s' ∧ mp_rep g s' S') := by
  refine (m_FO_firstWrongLine (α := pm_S) (st := pm_step g) (I := fun h' a e S => ∃ s', mp_to h b g h' s' ∧ s' 0 = a ∧ s' 1 = e ∧ mp_rep g s' S) (J := fun h' => ∃ s', mp_to h b g h' s') (k := b) (ci := 4) (c := b + 1) (N := 600) (MT := M_MA_takesLine) (a0 := s 0) (e0 := s 1) (Or.inl rfl) hg ?_ ?_ ?_ c_FO_22_4 ⟨by decide, Nat.le_of_ble_eq_true rfl⟩ ⟨rfl, rfl⟩ hn (by omega) ⟨s, ⟨m, am_rg.rf⟩, rfl, rfl, R⟩).imp (fun r h' hp => ?_)
  · rintro h1 a e S ⟨s1, t1, rfl, rfl, R1⟩
    exact ⟨_, t1.1.1, t1.1.2.1⟩
  · rintro h1 a e S a' e' tl ⟨s1, t1, rfl, rfl, R1⟩ r1
    have e1 := t1.1.1.symm.trans r1
    simp only [Option.some.injEq, Sum.inr.injEq, Prod.mk.injEq, List.cons.injEq, true_and] at e1
    subst e1
    refine ⟨am_w (am_w s1 0 a') 1 e', ⟨?_, ?_⟩, rfl, rfl, R1.cg (fun r r0 r1 _ _ => by rw [am_w_ne _ _ r1, am_w_ne _ _ r0])⟩
    · have := t1.1.w0 (s' := am_w (am_w s1 0 a') 1 e') (fun r hr => by rw [am_w_ne _ _ (by omega), am_w_ne _ _ (by omega)])
      exact this
    · exact t1.2.tr (am_rg.set _ _ (by omega) (by omega))
  · rintro h1 a e S ⟨s1, t1, rfl, rfl, R1⟩ h0 h2 h3
    refine (m_MA_takesLine t1.1 ⟨hg, h0, h2, by omega⟩ R1).imp (fun r h' hp => ?_)
    obtain ⟨s2, t2, ⟨rfl, hz⟩ | ⟨rfl, S', hz, R2⟩⟩ := hp
    · exact Or.inl ⟨rfl, hz, s2, t1.tr t2⟩
    · exact Or.inr ⟨rfl, S', s2 0, s2 1, hz, s2, t1.tr t2, rfl, rfl, R2⟩
  · cases e1 : pm_run (pm_step g) g n (n + 1).toNat 0 1 S0 with
    | inl row =>
      rw [e1] at hp
      exact hp
    | inr S' =>
      rw [e1] at hp
      obtain ⟨rfl, a, e, s', t', -, -, R'⟩ := hp
      exact ⟨rfl, s', t', R'⟩
