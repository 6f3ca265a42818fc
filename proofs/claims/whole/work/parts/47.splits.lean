/-! split: both sides. -/
theorem p_tc.mem {P : Nat → Nat → Int32} {l l' : List Nat} {c : Nat} (h : p_tc P l c) (e : ∀ k, k ∈ l' ↔ k ∈ l) : p_tc P l' c := ⟨fun k hk => h.1 k ((e k).mp hk), fun i hi => by
  obtain ⟨k, hk, q⟩ := h.2 i hi
  exact ⟨k, (e k).mpr hk, q⟩⟩
theorem p_frs_T {fr : Nat → Int32} {T : Nat} : p_frs fr T T = fr := by
  funext i
  exact if_neg (fun q => by omega)
theorem p_ms_T {f : Nat → Int32} {T : Nat} : p_ms f T T = f := by
  funext i
  exact if_neg (fun q => by omega)
def p_frx (fr : Nat → Int32) (t T : Nat) (a : Int32) : Nat → Int32 := upd (p_frs fr t T) (t + 1) a
theorem p_frx_lo {fr : Nat → Int32} {t T i : Nat} {a : Int32} (h : i ≤ t) : p_frx fr t T a i = fr i := (pk_un (by omega)).trans (if_neg (fun q => by omega))
theorem p_frx_at {fr : Nat → Int32} {t T : Nat} {a : Int32} : p_frx fr t T a (t + 1) = a := pk_us
theorem p_frx_hi {fr : Nat → Int32} {t T i : Nat} {a : Int32} (h : t < i) (h2 : i ≤ T) : p_frx fr t T a (i + 1) = fr i := (pk_un (by omega)).trans (if_pos ⟨by omega, by omega⟩)
theorem p_fr.split {fr : Nat → Int32} {t T : Nat} {a : Int32} (h : p_fr fr T) (hT : T < 8) (ht : t < T) (h1 : fr t < a) (h2 : a < fr (t + 1)) : p_fr (p_frx fr t T a) (T + 1) := by
  obtain ⟨q1, q2, q3, q4, q5⟩ := h
  refine ⟨by omega, by omega, ?_, ?_, fun i hi => ?_⟩
  · rw [p_frx_lo (by omega)]; exact q3
  · rw [p_frx_hi ht (Nat.le_refl _)]; exact q4
  · by_cases c1 : i < t
    · rw [p_frx_lo (by omega), p_frx_lo (by omega)]
      exact q5 i (by omega)
    · by_cases c2 : i = t
      · rw [c2, p_frx_at, p_frx_lo (by omega)]
        exact h1
      · obtain ⟨i, rfl⟩ : ∃ a, i = a + 1 := ⟨i - 1, by omega⟩
        by_cases c3 : i = t
        · rw [c3, p_frx_at, p_frx_hi (by omega) (by omega)]
          exact h2
        · rw [p_frx_hi (by omega) (by omega), p_frx_hi (by omega) (by omega)]
          exact q5 i (by omega)
theorem sim_split : s_split r_R := fun j σ τ hj h a1 a2 => by
  have hm := sim_mono j σ τ h
  obtain ⟨hA, hB, hX, hF, hS, L, R, s, T, tc, B, hL, hT, hC, h4, h5⟩ := h
  have hf := hT.2.2.1
  have hT8 := hf.2.1
  have hT1 := hf.1
  have hp := hL.2.1
  have hLM := hT.2.2.2.2.1
  have e7 : nI T - 1 = nI (T - 1) := by conv => lhs; rw [show T = (T - 1) + 1 by omega]; rw [nI_pred]
  unfold f_T_split f_M_split
  rcases e_isTablet hT8 hT.1 hT.2.1 1000 a1 with ⟨t, ht, rfl, e1, e2⟩ | ⟨e1, e2⟩
  · rw [e1, e2, Option.bind_some, Option.bind_some, if11, if11]
    by_cases cT : T = 8
    · rw [hT.1, hT.2.1, cT, if_neg (by decide), if_pos (by decide)]
      exact ⟨0, σ, τ, rfl, rfl, hm⟩
    · rw [if_pos (show x_S σ 7 < 8 by rw [hT.1, i_lt, i_8, nI_toInt (by omega)]; omega), if_neg (show ¬ m_S τ 9 = 8 by rw [hT.2.1, show (8 : Int32) = nI 8 from rfl, nI_eq (by omega) (by omega)]; exact cT), q_gd_t (q_in_of (show t < 9 by omega) (by omega)), q_gd_t (q_in_of (show t < 9 by omega) (by omega)), nI_cl (by omega), hT.2.2.2.1 t ht]
      by_cases c1 : a2 ≤ x_I σ 4 t
      · rw [if_pos c1, if_pos c1]
        exact ⟨0, σ, τ, rfl, rfl, hm⟩
      · rw [if_neg c1, if_neg c1, ← nI_succ, q_gd_t (q_in_of (show t + 1 < 9 by omega) (by omega)), nI_cl (by omega)]
        have b0 : 0 ≤ (x_I σ 4 (t + 1)).toInt ∧ (x_I σ 4 (t + 1)).toInt ≤ 64 := by
          have q1 := p_fr_mono hf (Nat.zero_le (t + 1)) (by omega)
          have q2 := p_fr_mono hf (show t + 1 ≤ T by omega) (Nat.le_refl _)
          rw [hf.2.2.1, i_le, i_0] at q1
          rw [hf.2.2.2.1, i_le, i_64] at q2
          exact ⟨q1, q2⟩
        have b1 : 0 ≤ (x_I σ 4 t).toInt := by
          have q1 := p_fr_mono hf (Nat.zero_le t) (by omega)
          rw [hf.2.2.1, i_le, i_0] at q1
          exact q1
        have hlast : ∃ r, f_M_lastRow 1000 τ (nI t) = some r ∧ (a2 ≤ r ↔ a2 < x_I σ 4 (t + 1)) := by
          unfold f_M_lastRow
          rw [hT.2.1, e7]
          by_cases cl : t + 1 = T
          · refine ⟨63, by rw [if_pos (by congr 1; omega)], ?_⟩
            rw [cl, hf.2.2.2.1, i_le, i_lt, i_63, i_64]
            omega
          · refine ⟨x_I σ 4 (t + 1) - 1, ?_, ?_⟩
            · rw [if_neg (by rw [nI_eq (by omega) (by omega)]; omega), ← nI_succ, q_gd_t (q_in_of (show t + 1 < 9 by omega) (by omega)), nI_cl (by omega), hT.2.2.2.1 (t + 1) (by omega)]
            · have q := hf.2.2.2.2 t ht
              rw [i_lt] at q
              obtain ⟨y, hy, e⟩ : ∃ y : Nat, y < 64 ∧ x_I σ 4 (t + 1) = nI (y + 1) := ⟨(x_I σ 4 (t + 1)).toInt.toNat - 1, by omega, by rw [i_eq, nI_toInt (by omega)]; omega⟩
              rw [e, nI_pred, i_le, i_lt, nI_toInt (by omega), nI_toInt (by omega)]
              omega
        obtain ⟨r, er, hr⟩ := hlast
        rw [er, Option.bind_some]
        by_cases c2 : a2 < x_I σ 4 (t + 1)
        · rw [if_pos c2, if_pos (hr.mpr c2), hT.1]
          have c1' : x_I σ 4 t < a2 := by rw [i_lt]; rw [i_le] at c1; omega
          -- the states after the rows have moved
          obtain ⟨g7, y3, y4⟩ := e_splitM hLM hf (N := 1000) (by omega) ht a2 (fun t15 => f_M_split_L101 1000 (nI t) a2 (fun t22 => q_gd (q_in (nI (t + 1)) 9) <| q_let (m_sI t22 9 (t + 1) a2) fun s24 => q_gd (q_in (nI t) 9) <| q_gd (q_in (nI (t + 1)) 9) <| q_let (m_sI s24 10 (t + 1) (m_I s24 10 t)) fun s27 => q_let (m_sS s27 9 ((m_S s27 9) + 1)) fun s28 => (f_M_close 1000 s28 (nI t)).bind fun s30 => (f_M_close 1000 s30 (nI (t + 1))).bind fun s32 => some (1, s32)) 1000 (m_S t15 9) t15)
          have hU : r_U (x_sS (x_eI σ 4 (p_frx (x_I σ 4) t T a2)) 7 (nI (T + 1))) (m_sS (m_e9 (m_wI τ 7 g7) (upd (p_ms (m_I τ 9) (t + 1) T) (t + 1) a2) (upd (p_ms (m_I τ 10) (t + 1) T) (t + 1) (nI (tc t)))) 9 (nI (T + 1))) L R (T + 1) (fun i => if i ≤ t then tc i else tc (i - 1)) (fun i => i ≠ t ∧ i ≠ t + 1) := by
            have hsgm : ∀ i k, k ∈ x_sg (x_sS (x_eI σ 4 (p_frx (x_I σ 4) t T a2)) 7 (nI (T + 1))) L i ↔ k ∈ L ∧ x_P σ k 0 < p_frx (x_I σ 4) t T a2 (i + 1) ∧ p_frx (x_I σ 4) t T a2 i ≤ x_P σ k 0 := fun i k => x_sg_mem
            refine ⟨rfl, rfl, hf.split (by omega) ht c1' c2, fun i hi => ?_, ⟨hLM.1, hLM.2.1, fun i k hk => ?_⟩, fun i hi => ?_⟩
            · show upd (p_ms (m_I τ 9) (t + 1) T) (t + 1) a2 i = p_frx (x_I σ 4) t T a2 i
              by_cases q : i = t + 1
              · rw [q, upd_s, p_frx_at]
              · rw [pk_un q]
                unfold p_ms
                by_cases q2 : i ≤ t
                · rw [if_neg (by omega), p_frx_lo q2]
                  exact hT.2.2.2.1 i (by omega)
                · obtain ⟨i, rfl⟩ : ∃ a, i = a + 1 := ⟨i - 1, by omega⟩
                  rw [if_pos (by omega), p_frx_hi (by omega) (by omega)]
                  exact hT.2.2.2.1 i (by omega)
            · obtain ⟨w1, w2, w3, w4, w5, w6, w7⟩ := hLM.2.2 i k hk
              obtain ⟨t', ht', f1, f2, v7⟩ := y4 i k hk
              refine ⟨w1, w2, w3, w4, w5, w6, (if t < t' ∨ (t' = t ∧ ¬ x_P σ k 0 < a2) then t' + 1 else t'), ?_, v7, ?_⟩
              · split <;> omega
              · show p_frx (x_I σ 4) t T a2 _ ≤ x_P σ k 0 ∧ x_P σ k 0 < p_frx (x_I σ 4) t T a2 _
                by_cases d1 : t < t'
                · rw [if_pos (Or.inl d1), p_frx_hi d1 (by omega), p_frx_hi (by omega) (by omega)]
                  exact ⟨f1, f2⟩
                · by_cases d2 : t' = t
                  · subst d2
                    by_cases d3 : x_P σ k 0 < a2
                    · rw [if_neg (fun q => q.elim d1 (fun z => z.2 d3)), p_frx_lo (by omega), p_frx_at]
                      exact ⟨f1, d3⟩
                    · rw [if_pos (Or.inr ⟨rfl, d3⟩), p_frx_at, p_frx_hi (by omega) (by omega)]
                      exact ⟨by rw [i_le]; rw [i_lt] at d3; omega, f2⟩
                  · rw [if_neg (fun q => q.elim d1 (fun z => d2 z.1)), p_frx_lo (by omega), p_frx_lo (by omega)]
                    exact ⟨f1, f2⟩
            · show upd (p_ms (m_I τ 10) (t + 1) T) (t + 1) (nI (tc t)) i = nI (if i ≤ t then tc i else tc (i - 1)) ∧ (if i ≤ t then tc i else tc (i - 1)) ≤ 247 ∧ (∀ k ∈ x_sg (x_sS (x_eI σ 4 (p_frx (x_I σ 4) t T a2)) 7 (nI (T + 1))) L i, -1 ≤ (x_P σ k 8).toInt ∧ (x_P σ k 8).toInt < ((if i ≤ t then tc i else tc (i - 1) : Nat) : Int)) ∧ (i ≠ t ∧ i ≠ t + 1 → p_tc (x_P σ) (x_sg (x_sS (x_eI σ 4 (p_frx (x_I σ 4) t T a2)) 7 (nI (T + 1))) L i) (if i ≤ t then tc i else tc (i - 1)))
              by_cases q : i ≤ t
              · rw [if_pos q, pk_un (by omega)]
                obtain ⟨d1, d2⟩ := hT.2.2.2.2.2 i (by omega)
                have htc := hT.tc hL.1 (show i < T by omega)
                refine ⟨?_, htc, fun k hk => ?_, fun z => ?_⟩
                · unfold p_ms
                  rw [if_neg (by omega)]
                  exact d1
                · refine d2.1 k ?_
                  rw [hsgm, p_frx_lo q] at hk
                  refine x_sg_mem.mpr ⟨hk.1, ?_, hk.2.2⟩
                  by_cases qt : i = t
                  · rw [qt, p_frx_at] at hk
                    have z := hk.2.1
                    rw [qt]
                    rw [i_lt] at z c2 ⊢
                    omega
                  · rw [p_frx_lo (by omega)] at hk
                    exact hk.2.1
                · refine d2.mem (fun k => ?_)
                  rw [hsgm, p_frx_lo q, p_frx_lo (by omega)]
                  exact x_sg_mem.symm
              · obtain ⟨i, rfl⟩ : ∃ a, i = a + 1 := ⟨i - 1, by omega⟩
                rw [if_neg q, Nat.add_sub_cancel]
                obtain ⟨d1, d2⟩ := hT.2.2.2.2.2 i (by omega)
                have htc := hT.tc hL.1 (show i < T by omega)
                refine ⟨?_, htc, fun k hk => ?_, fun z => ?_⟩
                · by_cases qt : i = t
                  · rw [qt, upd_s]
                  · rw [pk_un (by omega)]
                    unfold p_ms
                    rw [if_pos (by omega)]
                    exact d1
                · refine d2.1 k ?_
                  rw [hsgm, p_frx_hi (by omega) (by omega)] at hk
                  refine x_sg_mem.mpr ⟨hk.1, hk.2.1, ?_⟩
                  by_cases qt : i = t
                  · rw [qt, p_frx_at] at hk
                    have z := hk.2.2
                    rw [qt, i_le]
                    rw [i_le] at z
                    rw [i_lt] at c1'
                    omega
                  · rw [p_frx_hi (by omega) (by omega)] at hk
                    exact hk.2.2
                · refine d2.mem (fun k => ?_)
                  rw [hsgm, p_frx_hi (by omega) (by omega), p_frx_hi (by omega) (by omega)]
                  exact x_sg_mem.symm
          have hL1 : r_L j (x_sS (x_eI σ 4 (p_frx (x_I σ 4) t T a2)) 7 (nI (T + 1))) L R s := hL
          have hC1 : r_C (x_sS (x_eI σ 4 (p_frx (x_I σ 4) t T a2)) 7 (nI (T + 1))) (m_sS (m_e9 (m_wI τ 7 g7) (upd (p_ms (m_I τ 9) (t + 1) T) (t + 1) a2) (upd (p_ms (m_I τ 10) (t + 1) T) (t + 1) (nI (tc t)))) 9 (nI (T + 1))) L R B := hC
          obtain ⟨φ1, g1, v1, tc1, q1, q2, hL2, hU2, hC2⟩ := r_close hL1 hU hC1 (show t < T + 1 by omega)
          obtain ⟨φ2, g2, v2, tc2, q3, q4, hL3, hU3, hC3⟩ := r_close hL2 hU2 hC2 (show t + 1 < T + 1 by omega)
          have x1 := e_splitR (σ := σ) (T := T) (t := t) (by omega) 1000 a2 (fun t8 => q_gd (q_in (nI (t + 1)) 9) <| q_let (x_sI t8 4 (t + 1) a2) fun s10 => q_let (x_sS s10 7 ((x_S s10 7) + 1)) fun s11 => (f_T_closeGaps 1000 s11 (nI t)).bind fun s13 => (f_T_closeGaps 1000 s13 (nI (t + 1))).bind fun s15 => some (1, s15)) (T - t) T 1000 (by omega) (by omega) (by omega)
          rw [p_frs_T, x_eI_id] at x1
          have x2 : ∀ w z, f_T_closeGaps 1000 (x_sS (x_eI σ 4 (p_frx (x_I σ 4) t T a2)) 7 (nI (T + 1))) (nI t) = some w → f_T_closeGaps 1000 w (nI (t + 1)) = some z → f_T_split_L48 1000 (nI t) a2 (fun t8 => q_gd (q_in (nI (t + 1)) 9) <| q_let (x_sI t8 4 (t + 1) a2) fun s10 => q_let (x_sS s10 7 ((x_S s10 7) + 1)) fun s11 => (f_T_closeGaps 1000 s11 (nI t)).bind fun s13 => (f_T_closeGaps 1000 s13 (nI (t + 1))).bind fun s15 => some (1, s15)) 1000 (nI T) σ = some (1, z) := fun w z q1 q3 => by
            rw [x1, q_gd_t (q_in_of (show t + 1 < 9 by omega) (by omega)), x_eI_s]
            show (f_T_closeGaps 1000 (x_sS (x_eI σ 4 (p_frx (x_I σ 4) t T a2)) 7 (x_S σ 7 + 1)) (nI t)).bind _ = _
            rw [hT.1, ← nI_succ, q1, Option.bind_some, q3, Option.bind_some]
          have m1 := e_splitRM (τ := m_wI τ 7 g7) (T := T) (t := t) (by omega) 1000 a2 (fun t22 => q_gd (q_in (nI (t + 1)) 9) <| q_let (m_sI t22 9 (t + 1) a2) fun s24 => q_gd (q_in (nI t) 9) <| q_gd (q_in (nI (t + 1)) 9) <| q_let (m_sI s24 10 (t + 1) (m_I s24 10 t)) fun s27 => q_let (m_sS s27 9 ((m_S s27 9) + 1)) fun s28 => (f_M_close 1000 s28 (nI t)).bind fun s30 => (f_M_close 1000 s30 (nI (t + 1))).bind fun s32 => some (1, s32)) (T - (t + 1)) T 1000 (by omega) (by omega) (by omega)
          rw [p_ms_T, p_ms_T, m_e9_id] at m1
          have et : p_ms (m_I τ 10) (t + 1) T t = nI (tc t) := by
            unfold p_ms
            rw [if_neg (by omega)]
            exact (hT.2.2.2.2.2 t ht).1
          have m2 : ∀ w z, f_M_close 1000 (m_sS (m_e9 (m_wI τ 7 g7) (upd (p_ms (m_I τ 9) (t + 1) T) (t + 1) a2) (upd (p_ms (m_I τ 10) (t + 1) T) (t + 1) (nI (tc t)))) 9 (nI (T + 1))) (nI t) = some w → f_M_close 1000 w (nI (t + 1)) = some z → f_M_split_L101 1000 (nI t) a2 (fun t22 => q_gd (q_in (nI (t + 1)) 9) <| q_let (m_sI t22 9 (t + 1) a2) fun s24 => q_gd (q_in (nI t) 9) <| q_gd (q_in (nI (t + 1)) 9) <| q_let (m_sI s24 10 (t + 1) (m_I s24 10 t)) fun s27 => q_let (m_sS s27 9 ((m_S s27 9) + 1)) fun s28 => (f_M_close 1000 s28 (nI t)).bind fun s30 => (f_M_close 1000 s30 (nI (t + 1))).bind fun s32 => some (1, s32)) 1000 (nI T) (m_wI τ 7 g7) = some (1, z) := fun w z q2 q4 => by
            rw [m1]
            simp only [q_gd_t (q_in_of (show t < 9 by omega) (show 9 < 2 ^ 31 by omega)), q_gd_t (q_in_of (show t + 1 < 9 by omega) (show 9 < 2 ^ 31 by omega)), q_let]
            rw [show m_I (m_sI (m_e9 (m_wI τ 7 g7) (p_ms (m_I (m_wI τ 7 g7) 9) (t + 1) T) (p_ms (m_I (m_wI τ 7 g7) 10) (t + 1) T)) 9 (t + 1) a2) 10 t = nI (tc t) from et, m_e9_s]
            show (f_M_close 1000 (m_sS (m_e9 (m_wI τ 7 g7) (upd (p_ms (m_I τ 9) (t + 1) T) (t + 1) a2) (upd (p_ms (m_I τ 10) (t + 1) T) (t + 1) (nI (tc t)))) 9 (m_S τ 9 + 1)) (nI t)).bind _ = _
            rw [hT.2.1, ← nI_succ, q2, Option.bind_some, q4, Option.bind_some]
          have m4 := m2 _ _ q2 q4
          rw [← hT.2.1] at m4
          have m3 := y3.trans m4
          rw [x2 _ _ q1 q3, m3]
          obtain ⟨u1, u2, u3, u4, u5, u6⟩ := hU3
          refine ⟨1, _, _, rfl, rfl, hA.mono, hB, hX, hF, hS, L, R, s, T + 1, tc2, B, hL3.mono, ⟨u1, u2, u3, u4, u5, fun i hi => ⟨(u6 i hi).1, (u6 i hi).2.2.2 ?_⟩⟩, hC3, h4, by show (m_S τ 27).toInt ≤ _; omega⟩
          show i = t + 1 ∨ (i = t ∨ (i ≠ t ∧ i ≠ t + 1))
          omega
        · rw [if_neg c2, if_neg (fun q => c2 (hr.mp q))]
          exact ⟨0, σ, τ, rfl, rfl, hm⟩
  · rw [e1, e2, Option.bind_some, Option.bind_some, if01, if01]
    exact ⟨0, σ, τ, rfl, rfl, hm⟩
