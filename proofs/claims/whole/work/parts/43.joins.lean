/-! join: both sides. -/
theorem p_fr.join {fr : Nat → Int32} {t T : Nat} (h : p_fr fr T) (ht : t + 1 < T) : p_fr (p_frj fr t T) (T - 1) := by
  obtain ⟨h1, h2, h3, h4, h5⟩ := h
  refine ⟨by omega, by omega, ?_, ?_, fun i hi => ?_⟩
  · rw [p_frj_lo (by omega)]; exact h3
  · rw [p_frj_hi (by omega) (by omega), show T - 1 + 1 = T by omega]; exact h4
  · by_cases c1 : i + 1 < t + 1
    · rw [p_frj_lo (by omega), p_frj_lo (by omega)]
      exact h5 i (by omega)
    · by_cases c2 : i < t + 1
      · rw [p_frj_lo c2, p_frj_hi (by omega) (by omega)]
        have a1 := h5 i (by omega)
        have a2 := h5 (i + 1) (by omega)
        rw [i_lt] at *
        omega
      · rw [p_frj_hi (by omega) (by omega), p_frj_hi (by omega) (by omega)]
        exact h5 (i + 1) (by omega)
theorem p_jn_m1 {c : Nat} {x : Int32} (hc : c < 2 ^ 30) (h0 : -1 ≤ x.toInt) (h1 : x.toInt < 2 ^ 30) : p_jn c x = -1 ↔ x = -1 := by
  unfold p_jn
  by_cases q : x = -1
  · rw [if_pos q]
  · rw [if_neg q]
    refine ⟨fun z => ?_, fun z => absurd z q⟩
    rw [i_eq, i_m1] at q
    obtain ⟨y, hy, rfl⟩ : ∃ y : Nat, y < 2 ^ 30 ∧ x = nI y := ⟨x.toInt.toNat, by omega, by rw [i_eq, nI_toInt (by omega)]; omega⟩
    rw [nI_add] at z
    exact absurd z (nI_m1 (by omega))
theorem sim_join : s_join r_R := fun j σ τ hj h a1 => by
  have hm := sim_mono j σ τ h
  obtain ⟨hA, hB, hX, hF, hS, L, R, s, T, tc, B, hL, hT, hC, h4, h5⟩ := h
  have hf := hT.2.2.1
  have hT8 := hf.2.1
  have hT1 := hf.1
  have hp := hL.2.1
  have hLM := hT.2.2.2.2.1
  have e7 : nI T - 1 = nI (T - 1) := by conv => lhs; rw [show T = (T - 1) + 1 by omega]; rw [nI_pred]
  unfold f_T_join f_M_join
  rcases e_isTablet hT8 hT.1 hT.2.1 1000 a1 with ⟨t, ht, rfl, e1, e2⟩ | ⟨e1, e2⟩
  · rw [e2, Option.bind_some, if11, if_neg (nI_pos (by omega)), hT.1, e7, ← nI_succ]
    by_cases ht1 : t + 1 < T
    · have e3 : f_M_isTablet 1000 τ (nI (t + 1)) = some 1 := by
        unfold f_M_isTablet
        rw [if_neg (nI_pos (by omega)), hT.2.1, if_neg (nI_ge (by omega) (by omega))]
      rw [e3, Option.bind_some, if11, if_pos (nI_lt (by omega) (by omega))]
      have htc := hT.tc hL.1 ht
      have htc1 := hT.tc hL.1 ht1
      obtain ⟨d1, d2⟩ := hT.2.2.2.2.2 t ht
      obtain ⟨d3, d4⟩ := hT.2.2.2.2.2 (t + 1) ht1
      have x1 := e_tableCount hL.1 hL.rows (N := 1000) (by omega) (show t < 8 by omega) (hf.le ht) (show tc t < 2 ^ 30 by omega) d2
      have x2 := e_endOf hL.1 hL.rows (N := 1000) (by omega) (show t + 1 < 8 by omega)
      have x3 := e_startOf hL.1 hL.rows (N := 1000) (by omega) (show t + 1 < 9 by omega)
      have hmem : ∀ k, k ∈ p_seg (x_P σ) R (x_I σ 4 (t + 1)) (x_I σ 4 (t + 2)) ↔ k ∈ x_sg σ L (t + 1) := fun k => (List.Perm.mem_iff (seg_perm hp _ _)).symm
      -- every entry's table
      have hb8 : ∀ k ∈ L, -1 ≤ (x_P σ k 8).toInt ∧ (x_P σ k 8).toInt < 2 ^ 30 := fun k hk => by
        obtain ⟨u, hu, hku⟩ := x_sg_ex hf hk (hL.2.2.2.2.2.2.1 k hk).1
        have := (hT.2.2.2.2.2 u hu).2.1 k hku
        have := hT.tc hL.1 hu
        omega
      obtain ⟨g, y1, y2⟩ := e_joinR (σ := x_sS (x_wP σ (p_map (x_P σ) (x_sg σ L (t + 1)) (p_jn (tc t)))) 7 (nI (T - 1))) hT8 ht1 rfl (N := 1000) (by omega) (fun t21 => some (1, t21))
      obtain ⟨g7, g8, y3, y4⟩ := e_joinM hLM hf (N := 1000) (by omega) ht1 d1 (fun k hk => (hb8 k (hp.mem_iff.mpr hk)).1) (fun t23 => q_gd (q_in (nI t) 9) <| q_gd (q_in (nI (t + 1)) 9) <| q_gd (q_in (nI t) 9) <| q_let (m_sI t23 10 ((nI t : Int32).toNatClampNeg) ((m_I t23 10 ((nI t : Int32).toNatClampNeg)) + (m_I t23 10 ((nI (t + 1) : Int32).toNatClampNeg)))) fun s27 => q_let (m_sS s27 9 ((m_S s27 9) - 1)) fun s28 => f_M_join_L123 1000 (fun t35 => some (1, t35)) 1000 (nI (t + 1)) s28)
      obtain ⟨g9, g10, y5, y6⟩ := e_joinRM (τ := m_sS (m_sI (m_e7 τ g7 g8) 10 t (nI (tc t) + nI (tc (t + 1)))) 9 (nI (T - 1))) hT8 ht1 rfl (N := 1000) (by omega) (fun t35 => some (1, t35))
      have z1 : (f_T_tableCount 1000 σ (nI t)).bind (fun r2 => (f_T_endOf 1000 σ (nI (t + 1))).bind fun r4 => (f_T_startOf 1000 σ (nI (t + 1))).bind fun r6 => f_T_join_L39 1000 (nI t) r2 r4 (fun t16 => q_let (x_sS t16 7 ((x_S t16 7) - 1)) fun s17 => f_T_join_L96 1000 (fun t21 => some (1, t21)) 1000 (nI (t + 1)) s17) 1000 r6 σ) = some (1, x_eI (x_sS (x_wP σ (p_map (x_P σ) (x_sg σ L (t + 1)) (p_jn (tc t)))) 7 (nI (T - 1))) 4 g) := by
        rw [x1, Option.bind_some, x2, Option.bind_some, x3, Option.bind_some, e_joinX hL.1 hL.2.2.1 hL.rows (by omega) (hf.le ht1)]
        show f_T_join_L96 1000 (fun t21 => some (1, t21)) 1000 (nI (t + 1)) (x_sS (x_wP σ (p_map (x_P σ) (x_sg σ L (t + 1)) (p_jn (tc t)))) 7 (x_S σ 7 - 1)) = _
        rw [hT.1, e7]
        exact y1
      have z2 := y3
      simp only [q_gd_t (q_in_of (show t < 9 by omega) (show 9 < 2 ^ 31 by omega)), q_gd_t (q_in_of (show t + 1 < 9 by omega) (show 9 < 2 ^ 31 by omega)), nI_cl (show t < 2 ^ 31 by omega), nI_cl (show t + 1 < 2 ^ 31 by omega), q_let, show m_I (m_e7 τ g7 g8) 10 t = nI (tc t) from d1, show m_I (m_e7 τ g7 g8) 10 (t + 1) = nI (tc (t + 1)) from d3, show m_S (m_sI (m_e7 τ g7 g8) 10 t (nI (tc t) + nI (tc (t + 1)))) 9 = nI T from hT.2.1, e7, y5] at z2
      rw [z1]
      simp only [q_gd_t (q_in_of (show t < 9 by omega) (show 9 < 2 ^ 31 by omega)), q_gd_t (q_in_of (show t + 1 < 9 by omega) (show 9 < 2 ^ 31 by omega)), nI_cl (show t < 2 ^ 31 by omega), nI_cl (show t + 1 < 2 ^ 31 by omega), q_let]
      rw [z2]
      have hg : g = p_frj (x_I σ 4) t T := funext y2
      subst hg
      have hP8 : ∀ k ∈ L, p_map (x_P σ) (x_sg σ L (t + 1)) (p_jn (tc t)) k 8 = -1 ↔ x_P σ k 8 = -1 := fun k hk => by
        by_cases q : k ∈ x_sg σ L (t + 1)
        · rw [p_map_in q]
          exact p_jn_m1 (by omega) (hb8 k hk).1 (hb8 k hk).2
        · rw [p_map_out q]
      -- the tablets' entries
      have hsgm : ∀ i k, k ∈ x_sg (x_eI (x_sS (x_wP σ (p_map (x_P σ) (x_sg σ L (t + 1)) (p_jn (tc t)))) 7 (nI (T - 1))) 4 (p_frj (x_I σ 4) t T)) L i ↔ k ∈ L ∧ x_P σ k 0 < p_frj (x_I σ 4) t T (i + 1) ∧ p_frj (x_I σ 4) t T i ≤ x_P σ k 0 := fun i k => x_sg_mem
      refine ⟨1, _, _, rfl, rfl, hA.mono, hB, hX, hF, hS, L, R, s, T - 1, (fun i => if i < t then tc i else if i = t then tc t + tc (t + 1) else tc (i + 1)), B, hL.mono, ⟨rfl, rfl, hf.join ht1, fun i hi => ?_, ⟨hLM.1, hLM.2.1, fun i k hk => ?_⟩, fun i hi => ?_⟩, ⟨hC.1, hC.2.1, hC.2.2.1, hC.2.2.2.map (fun _ => rfl) (fun _ => rfl) (fun _ => rfl) hP8⟩, h4, by show (m_S τ 27).toInt ≤ _; omega⟩
      · show g9 i = p_frj (x_I σ 4) t T i
        rw [(y6 i).1]
        by_cases q : t + 1 ≤ i
        · rw [if_pos ⟨q, hi⟩, p_frj_hi q (by omega)]
          exact hT.2.2.2.1 (i + 1) (by omega)
        · rw [if_neg (by omega), p_frj_lo (by omega)]
          exact hT.2.2.2.1 i (by omega)
      · obtain ⟨w1, w2, w3, w4, w5, w6, w7⟩ := hLM.2.2 i k hk
        obtain ⟨v8, t', ht', f1, f2, v7⟩ := y4 i k hk
        refine ⟨w1, w2, w3, w4, w5, ?_, (if t' ≤ t then t' else t' - 1), ?_, v7, ?_⟩
        · show g8 i = p_map (x_P σ) (x_sg σ L (t + 1)) (p_jn (tc t)) k 8
          rw [v8]
          by_cases q : k ∈ x_sg σ L (t + 1)
          · rw [if_pos ((hmem k).mpr q), p_map_in q]
          · rw [if_neg (fun z => q ((hmem k).mp z)), p_map_out q]
        · split <;> omega
        · show p_frj (x_I σ 4) t T _ ≤ x_P σ k 0 ∧ x_P σ k 0 < p_frj (x_I σ 4) t T _
          by_cases c1 : t' ≤ t
          · rw [if_pos c1, p_frj_lo (by omega)]
            refine ⟨f1, ?_⟩
            by_cases c2 : t' = t
            · subst c2
              rw [p_frj_hi (by omega) (by omega)]
              have := hf.2.2.2.2 (t' + 1) ht1
              rw [i_lt] at f2 this ⊢
              omega
            · rw [p_frj_lo (by omega)]
              exact f2
          · rw [if_neg c1]
            by_cases c2 : t' = t + 1
            · subst c2
              rw [show t + 1 - 1 = t by omega, p_frj_lo (by omega), p_frj_hi (by omega) (by omega)]
              have := hf.2.2.2.2 t ht
              refine ⟨?_, f2⟩
              rw [i_le] at f1 ⊢
              rw [i_lt] at this
              omega
            · rw [show t' - 1 + 1 = t' by omega, p_frj_hi (by omega) (by omega), p_frj_hi (by omega) (by omega), show t' - 1 + 1 = t' by omega]
              exact ⟨f1, f2⟩
      · show g10 i = nI (if i < t then tc i else if i = t then tc t + tc (t + 1) else tc (i + 1)) ∧ p_tc (p_map (x_P σ) (x_sg σ L (t + 1)) (p_jn (tc t))) _ (if i < t then tc i else if i = t then tc t + tc (t + 1) else tc (i + 1))
        have hg10 : g10 i = if t + 1 ≤ i ∧ i < T - 1 then upd (m_I τ 10) t (nI (tc t) + nI (tc (t + 1))) (i + 1) else upd (m_I τ 10) t (nI (tc t) + nI (tc (t + 1))) i := (y6 i).2
        by_cases c1 : i < t
        · rw [if_pos c1, hg10, if_neg (by omega), pk_un (by omega)]
          obtain ⟨b1, b2⟩ := hT.2.2.2.2.2 i (by omega)
          have hs : ∀ k, k ∈ x_sg (x_eI (x_sS (x_wP σ (p_map (x_P σ) (x_sg σ L (t + 1)) (p_jn (tc t)))) 7 (nI (T - 1))) 4 (p_frj (x_I σ 4) t T)) L i ↔ k ∈ x_sg σ L i := fun k => by
            rw [hsgm, p_frj_lo (by omega), p_frj_lo (by omega)]
            exact x_sg_mem.symm
          have ho : ∀ k, k ∈ x_sg σ L i → k ∉ x_sg σ L (t + 1) := fun k q z => absurd (x_sg_one hf (by omega) ht1 q z) (by omega)
          refine ⟨b1, fun k hk => ?_, fun n hn => ?_⟩
          · rw [p_map_out (ho k ((hs k).mp hk))]
            exact b2.1 k ((hs k).mp hk)
          · obtain ⟨k, hk, q⟩ := b2.2 n hn
            exact ⟨k, (hs k).mpr hk, by rw [p_map_out (ho k hk)]; exact q⟩
        · rw [if_neg c1]
          by_cases c2 : i = t
          · subst c2
            rw [if_pos rfl, hg10, if_neg (by omega), upd_s, nI_add]
            have hs : ∀ k, k ∈ x_sg (x_eI (x_sS (x_wP σ (p_map (x_P σ) (x_sg σ L (i + 1)) (p_jn (tc i)))) 7 (nI (T - 1))) 4 (p_frj (x_I σ 4) i T)) L i ↔ k ∈ x_sg σ L i ∨ k ∈ x_sg σ L (i + 1) := fun k => by
              rw [hsgm, p_frj_lo (show i < i + 1 by omega), p_frj_hi (show i + 1 ≤ i + 1 by omega) (show i + 1 < T by omega), x_sg_mem, x_sg_mem]
              have k1 := hf.2.2.2.2 i ht
              have k2 := hf.2.2.2.2 (i + 1) ht1
              rw [i_lt] at k1 k2
              simp only [i_lt, i_le]
              constructor
              · intro ⟨q1, q2, q3⟩
                by_cases z : (x_P σ k 0).toInt < (x_I σ 4 (i + 1)).toInt
                · exact Or.inl ⟨q1, z, q3⟩
                · exact Or.inr ⟨q1, q2, by omega⟩
              · intro q
                rcases q with ⟨q1, q2, q3⟩ | ⟨q1, q2, q3⟩
                · exact ⟨q1, by omega, q3⟩
                · exact ⟨q1, q2, by omega⟩
            have ho : ∀ k, k ∈ x_sg σ L i → k ∉ x_sg σ L (i + 1) := fun k q z => absurd (x_sg_one hf (by omega) ht1 q z) (by omega)
            have hv : ∀ k, k ∈ x_sg σ L (i + 1) → ¬ x_P σ k 8 = -1 → ∃ y : Nat, y < tc (i + 1) ∧ x_P σ k 8 = nI y := fun k q z => by
              have b := d4.1 k q
              rw [i_eq, i_m1] at z
              exact ⟨(x_P σ k 8).toInt.toNat, by omega, by rw [i_eq, nI_toInt (by omega)]; omega⟩
            refine ⟨rfl, fun k hk => ?_, fun n hn => ?_⟩
            · rcases (hs k).mp hk with q | q
              · rw [p_map_out (ho k q)]
                have := d2.1 k q
                omega
              · rw [p_map_in q]
                unfold p_jn
                by_cases z : x_P σ k 8 = -1
                · rw [if_pos z, z, i_m1]
                  have := d4.1 k q
                  rw [z, i_m1] at this
                  omega
                · obtain ⟨y, hy, e⟩ := hv k q z
                  rw [if_neg z, e, nI_add, nI_toInt (by omega)]
                  omega
            · by_cases c : n < tc i
              · obtain ⟨k, hk, q⟩ := d2.2 n c
                exact ⟨k, (hs k).mpr (Or.inl hk), by rw [p_map_out (ho k hk)]; exact q⟩
              · obtain ⟨k, hk, q⟩ := d4.2 (n - tc i) (by omega)
                refine ⟨k, (hs k).mpr (Or.inr hk), ?_⟩
                rw [p_map_in hk]
                unfold p_jn
                rw [q, if_neg (nI_m1 (by omega)), nI_add]
                congr 1
                omega
          · rw [if_neg c2, hg10, if_pos ⟨by omega, hi⟩, pk_un (by omega)]
            obtain ⟨b1, b2⟩ := hT.2.2.2.2.2 (i + 1) (by omega)
            have hs : ∀ k, k ∈ x_sg (x_eI (x_sS (x_wP σ (p_map (x_P σ) (x_sg σ L (t + 1)) (p_jn (tc t)))) 7 (nI (T - 1))) 4 (p_frj (x_I σ 4) t T)) L i ↔ k ∈ x_sg σ L (i + 1) := fun k => by
              rw [hsgm, p_frj_hi (by omega) (by omega), p_frj_hi (by omega) (by omega)]
              exact x_sg_mem.symm
            have ho : ∀ k, k ∈ x_sg σ L (i + 1) → k ∉ x_sg σ L (t + 1) := fun k q z => absurd (x_sg_one hf (by omega) ht1 q z) (by omega)
            refine ⟨b1, fun k hk => ?_, fun n hn => ?_⟩
            · rw [p_map_out (ho k ((hs k).mp hk))]
              exact b2.1 k ((hs k).mp hk)
            · obtain ⟨k, hk, q⟩ := b2.2 n hn
              exact ⟨k, (hs k).mpr hk, by rw [p_map_out (ho k hk)]; exact q⟩
    · have e3 : f_M_isTablet 1000 τ (nI (t + 1)) = some 0 := by
        unfold f_M_isTablet
        rw [if_neg (nI_pos (by omega)), hT.2.1, if_pos (nI_le (by omega) (by omega))]
      rw [e3, Option.bind_some, if01, if_neg (nI_nlt (by omega) (by omega))]
      exact ⟨0, σ, τ, rfl, rfl, hm⟩
  · rw [e2, Option.bind_some, if01]
    refine ⟨0, σ, τ, ?_, rfl, hm⟩
    unfold f_T_isTablet at e1
    by_cases c0 : a1 < 0
    · rw [if_pos c0]
    · rw [if_neg c0] at e1 ⊢
      by_cases c1 : x_S σ 7 ≤ a1
      · rw [if_neg]
        rw [hT.1, e7, i_lt, nI_toInt (by omega)]
        rw [hT.1, i_le, nI_toInt (by omega)] at c1
        omega
      · rw [if_neg c1] at e1
        exact absurd e1 (by decide)
