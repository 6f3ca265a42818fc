/-! apply. -/
theorem e_after {j q : Nat} {σ0 σ : x_T} {τ1 τ : m_T} (hA : r_A j σ0 τ1) (hF : r_F σ0 τ1) (hS : r_S σ0) (hr : 0 ≤ (x_S σ0 20).toInt ∧ (x_S σ0 20).toInt < 64) (hap : 0 < (m_S τ1 27).toInt) (hap1 : (m_S τ1 27).toInt ≤ (j + 1 : Nat)) (h : r_I j σ0 τ1 q σ τ) (u : Int32) : ∃ v σ' τ', ((f_T_tabletOf 1000 σ (x_S σ 20)).bind fun r6 => (f_T_entriesIn 1000 σ r6 (-1)).bind fun r8 => (if (r8 : Int32) < (16 : Int32) then some ((x_S σ 4) - u, σ) else (f_T_flushTablet 1000 σ r6).bind fun q10 => some ((x_S σ 4) - u, q10.2))) = some (v, σ') ∧ ((f_M_tabletWith 1000 τ (x_S σ0 20)).bind fun r18 => (f_M_inTable 1000 τ r18 (-1)).bind fun r20 => (if (r20 : Int32) < (16 : Int32) then some ((m_S τ 0) - u, τ) else (f_M_flushed 1000 τ r18).bind fun q22 => some ((m_S τ 0) - u, q22.2))) = some (v, τ') ∧ r_A j σ' τ' ∧ r_F σ' τ' ∧ r_S σ' ∧ r_E (j + 1) σ' τ' ∧ m_S τ' 15 = m_S τ1 15 ∧ m_S τ' 21 = m_S τ1 21 := by
  obtain ⟨L, R, s, T, tc, B, ⟨hL, hT, hcov, h6, hbat, _⟩, hn, _, _, hx, hm, _⟩ := h
  have hC : r_C σ τ L R B := ⟨hcov, by rw [hx.I 2, hx.I 1, hx.2.2 2 (by decide) (by decide)]; exact hn, h6, hbat⟩
  have hS20 := hx.2.2 20 (by decide) (by decide)
  obtain ⟨t, ht, t1, t2⟩ := p_fr_ex hT.2.2.1 hr.1 hr.2
  obtain ⟨r, c1, c2, _⟩ := e_count hL hT ht (-1)
  have ap := hm.1 27 (by decide)
  have ap1 : 0 ≤ (m_S τ 27).toInt := by rw [ap]; omega
  have ap2 : (m_S τ 27).toInt ≤ (j + 1 : Nat) := by rw [ap]; exact hap1
  rw [hS20, e_tabletOf hT.1 hT.2.2.1 (N := 1000) (by omega) ht t1 t2, e_tabletWith hT.2.1 hT.2.2.1 hT.2.2.2.1 (N := 1000) (by omega) ht t1 t2, Option.bind_some, Option.bind_some, c1, c2, Option.bind_some, Option.bind_some, hL.1.1, hT.2.2.2.2.1.1, ← hL.2.1.length_eq]
  by_cases z : r < 16
  · rw [if_pos z, if_pos z]
    exact ⟨_, σ, τ, rfl, rfl, hA.fr hx hm, hF.fr hx hm, hS.fr hx, ⟨L, R, s, T, tc, B, hL, hT, hC, ap1, ap2⟩, hm.1 15 (by decide), hm.1 21 (by decide)⟩
  · rw [if_neg z, if_neg z]
    obtain ⟨m, f, v, tc', q1, q2, q3, q4, q5, _⟩ := r_flush hL hT hC ht
    rw [q1, q2, Option.bind_some, Option.bind_some]
    have hA2 := hA.fr hx hm
    have hF2 := hF.fr hx hm
    exact ⟨_, _, _, rfl, rfl, hA2, hF2, hS.fr hx, ⟨L, R, s, T, tc', B, q3, q4, q5, ap1, ap2⟩, hm.1 15 (by decide), hm.1 21 (by decide)⟩
theorem r_I0 {j s T : Nat} {σ : x_T} {τ τ1 : m_T} {L R : List Nat} {tc : Nat → Nat} {B : Nat → Int32} (hj : j < 512) (hL : r_L j σ L R s) (hT : r_T σ τ L R T tc) (hC : r_C σ τ L R B) (h4 : 0 ≤ (m_S τ 27).toInt) (h5 : (m_S τ 27).toInt ≤ j) (hl : L.length < 240) (hτ : m_sS (m_sS (m_sS τ 15 0) 21 0) 27 (m_S τ 27 + 1) = τ1) : r_I j σ τ1 0 σ τ1 ∧ (m_S τ1 27).toInt = (m_S τ 27).toInt + 1 := by
  have e27 : (m_S τ1 27).toInt = (m_S τ 27).toInt + 1 := by
    subst hτ
    show (m_S τ 27 + 1).toInt = _
    obtain ⟨a, ha, ea⟩ : ∃ a : Nat, a ≤ j ∧ m_S τ 27 = nI a := ⟨(m_S τ 27).toInt.toNat, by omega, by rw [i_eq, nI_toInt (by omega)]; omega⟩
    rw [ea, ← nI_succ, nI_toInt (by omega), nI_toInt (by omega)]
    omega
  have hno : ∀ a ∈ L, ¬ B a = m_S τ1 27 := fun a ha q => by
    have := (hC.2.2.2.1 a ha).2
    rw [q] at this
    omega
  refine ⟨⟨L, R, s, T, tc, B, ⟨hL.mono, ?_, hC.1, ?_, ⟨fun k hk => ?_, hC.2.2.2.2.1, hC.2.2.2.2.2⟩, fun a ha q => absurd q (hno a ha)⟩, hC.2.1, by omega, by have := hL.2.2.2.2.2.1; omega, x_fr_id σ, m_fr_id τ1, fun _ ⟨b, hb, q⟩ => hno b hb q, fun _ => rfl⟩, e27⟩
  · subst hτ
    exact hT
  · subst hτ
    exact hC.2.2.1
  · have := hC.2.2.2.1 k hk
    omega
theorem sim_apply : s_apply r_R := fun j σ τ hj h => by
  have hm := sim_mono j σ τ h
  obtain ⟨hA, ⟨q, hB⟩, hX, hF, hS, L, R, s, T, tc, B, hL, hT, hC, h4, h5⟩ := h
  obtain ⟨hq, h21, h15, hrow, hchg⟩ := hB
  unfold f_T_apply f_M_apply
  by_cases q0 : q = 0
  · rw [h21, h15, q0, nI_0, if01, if01]
    exact ⟨-1, σ, τ, rfl, rfl, hm⟩
  have hq0 : ¬ nI q = 0 := by rw [i_eq, nI_toInt (by omega), i_0]; omega
  rw [if_neg (show ¬ x_S σ 21 = 0 by rw [h21]; exact hq0), if_neg (show ¬ m_S τ 15 = 0 by rw [h15]; exact hq0)]
  have hl := hL.1.2.1
  have hu : m_S τ 0 = x_S σ 4 := by rw [hT.2.2.2.2.1.1, ← hL.2.1.length_eq, hL.1.1]
  rw [hu]
  by_cases q1 : x_S σ 4 < 240
  · rw [if_pos q1, if_pos q1]
    have hl2 : L.length < 240 := by
      rw [hL.1.1, i_lt, nI_toInt (by omega)] at q1
      have : (240 : Int32).toInt = 240 := rfl
      omega
    obtain ⟨b, b1, b2⟩ := e_met hA hX hL hT hC
    rw [b2, Option.bind_some, show f_M_drop 1000 τ = some (m_sS (m_sS τ 15 0) 21 0) from rfl, Option.bind_some]
    by_cases q2 : x_S σ 9 = 0
    · rw [if_pos q2, if_pos (show m_S (m_sS (m_sS τ 15 0) 21 0) 26 = 0 from hA.2.2.2.1.trans q2), b1, Option.bind_some]
      by_cases q3 : b = 0
      · rw [if_pos q3, if_pos q3]
        exact ⟨0, x_sS (x_sS σ 21 0) 26 0, m_sS (m_sS τ 15 0) 21 0, rfl, rfl, hA.mono, r_empty, r_noexp, hF, hS, r_E.mono ⟨L, R, s, T, tc, B, hL, hT, hC, h4, h5⟩⟩
      · rw [if_neg q3, if_neg q3]
        obtain ⟨h17, hr⟩ := hrow (by omega)
        unfold f_T_applyChanges
        rw [h17, h15, show m_S (m_sS (m_sS τ 15 0) 21 0) 0 = x_S σ 4 from hu, show m_S (m_sS (m_sS τ 15 0) 21 0) 27 = m_S τ 27 from rfl]
        rw [q_let]
        generalize hτ : m_sS (m_sS (m_sS τ 15 0) 21 0) 27 (m_S τ 27 + 1) = τ1
        obtain ⟨hI, e27⟩ := r_I0 hj hL hT hC h4 h5 hl2 hτ
        have hA1 : r_A j σ τ1 := by subst hτ; exact hA
        have hF1 : r_F σ τ1 := by subst hτ; exact hF
        have hc1 : ∀ i : Nat, i < q → r_cg σ τ1 i := by subst hτ; exact hchg
        have e15 : m_S τ1 15 = 0 := by subst hτ; rfl
        have e21 : m_S τ1 21 = 0 := by subst hτ; rfl
        obtain ⟨σ', τ', l1, l2, hI'⟩ := r_loop hj hA1 hr (by omega) hq h21 hc1 (x_S σ 4) (x_S σ 4) (fun t4 => (f_T_tabletOf 1000 t4 (x_S t4 20)).bind fun r6 => (f_T_entriesIn 1000 t4 r6 (-1)).bind fun r8 => (if (r8 : Int32) < (16 : Int32) then some ((x_S t4 4) - (x_S σ 4), t4) else (f_T_flushTablet 1000 t4 r6).bind fun q10 => some ((x_S t4 4) - (x_S σ 4), q10.2))) (fun t16 => (f_M_tabletWith 1000 t16 (x_S σ 20)).bind fun r18 => (f_M_inTable 1000 t16 r18 (-1)).bind fun r20 => (if (r20 : Int32) < (16 : Int32) then some ((m_S t16 0) - (x_S σ 4), t16) else (f_M_flushed 1000 t16 r18).bind fun q22 => some ((m_S t16 0) - (x_S σ 4), q22.2))) q 0 1000 σ τ1 (by omega) (by omega) hI
        rw [nI_0] at l1 l2
        obtain ⟨v, σ'', τ'', k1, k2, g1, g2, g3, g4, g5, g6⟩ := e_after hA1 hF1 hS hr (by omega) (by omega) hI' (x_S σ 4)
        rw [l1, l2]
        rw [k1, k2, Option.bind_some]
        refine ⟨v, x_sS (x_sS σ'' 21 0) 26 0, τ'', rfl, rfl, g1.mono, ⟨0, by omega, rfl, by rw [g5, e15, nI_0], fun z => absurd z (by omega), fun i hi => absurd hi (by omega)⟩, ⟨by rw [g6, e21]; rfl, Or.inl rfl, fun z => absurd (show (0 : Int32) = 1 from z) (by decide)⟩, g2, g3, g4⟩
    · rw [if_neg q2, if_neg (show ¬ m_S (m_sS (m_sS τ 15 0) 21 0) 26 = 0 from fun z => q2 (hA.2.2.2.1.symm.trans z))]
      refine ⟨-3, x_sS (x_sS (x_sS σ 9 0) 21 0) 26 0, m_sS (m_sS (m_sS τ 15 0) 21 0) 26 0, rfl, rfl, ?_, ⟨0, by omega, rfl, rfl, fun z => absurd z (by omega), fun i hi => absurd hi (by omega)⟩, ⟨rfl, Or.inl rfl, fun z => absurd (show (0 : Int32) = 1 from z) (by decide)⟩, hF, hS, r_E.mono ⟨L, R, s, T, tc, B, hL, hT, hC, h4, h5⟩⟩
      obtain ⟨a1, a2, a3, a4, a5, a6⟩ := hA.mono
      exact ⟨a1, a2, a3, rfl, Or.inl rfl, a6⟩
  · rw [if_neg q1, if_neg q1]
    exact ⟨-2, σ, τ, rfl, rfl, hm⟩
