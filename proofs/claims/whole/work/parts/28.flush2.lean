/-! What a flush leaves of the relation. -/
theorem p_tc.congr {P Q : Nat → Nat → Int32} {l : List Nat} {c : Nat} (h : p_tc P l c) (e : ∀ k ∈ l, Q k 8 = P k 8) : p_tc Q l c := ⟨fun k hk => by rw [e k hk]; exact h.1 k hk, fun i hi => by
  obtain ⟨k, hk, q⟩ := h.2 i hi
  exact ⟨k, hk, by rw [e k hk]; exact q⟩⟩
theorem x_sg_mem {σ : x_T} {L : List Nat} {t k : Nat} : k ∈ x_sg σ L t ↔ k ∈ L ∧ x_P σ k 0 < x_I σ 4 (t + 1) ∧ x_I σ 4 t ≤ x_P σ k 0 := by
  unfold x_sg p_seg
  rw [List.mem_filter, Bool.and_eq_true, Bool.not_eq_true', decide_eq_true_eq, decide_eq_false_iff_not]
  constructor
  · intro ⟨h1, h2, h3⟩
    exact ⟨h1, h2, by rw [i_le]; rw [i_lt] at h3; omega⟩
  · intro ⟨h1, h2, h3⟩
    exact ⟨h1, h2, by rw [i_lt]; rw [i_le] at h3; omega⟩
theorem x_sg_one {σ : x_T} {L : List Nat} {T : Nat} (hf : p_fr (x_I σ 4) T) {a b k : Nat} (ha : a < T) (hb : b < T) (h1 : k ∈ x_sg σ L a) (h2 : k ∈ x_sg σ L b) : a = b := by
  obtain ⟨_, p1, p2⟩ := x_sg_mem.mp h1
  obtain ⟨_, q1, q2⟩ := x_sg_mem.mp h2
  exact p_fr_one hf ha hb p2 p1 q2 q1
theorem x_sg_ex {σ : x_T} {L : List Nat} {T : Nat} (hf : p_fr (x_I σ 4) T) {k : Nat} (hk : k ∈ L) (h : p_ok (x_P σ) k) : ∃ t, t < T ∧ k ∈ x_sg σ L t := by
  obtain ⟨t, ht, h1, h2⟩ := p_fr_ex hf h.1 h.2.1
  exact ⟨t, ht, x_sg_mem.mpr ⟨hk, h2, h1⟩⟩
theorem p_fl_m1 {c : Nat} (hc : c < 2 ^ 31) {x : Int32} : ¬ p_fl c x = -1 := by
  unfold p_fl
  by_cases h : x = -1
  · rw [if_pos h]; exact nI_m1 hc
  · rw [if_neg h]; exact h
theorem r_flush {j s T t : Nat} {σ : x_T} {τ : m_T} {L R : List Nat} {tc : Nat → Nat} {B : Nat → Int32} (hL : r_L j σ L R s) (hT : r_T σ τ L R T tc) (hC : r_C σ τ L R B) (ht : t < T) : ∃ (m : Nat) (f : Nat → Int32) (v : Int32) (tc' : Nat → Nat), f_T_flushTablet 1000 σ (nI t) = some (nI m, x_wP σ (p_map (x_P σ) (x_sg σ L t) (p_fl (tc t)))) ∧ f_M_flushed 1000 τ (nI t) = some (nI m, m_sI (m_wI τ 8 f) 10 t v) ∧ r_L j (x_wP σ (p_map (x_P σ) (x_sg σ L t) (p_fl (tc t)))) L R s ∧ r_T (x_wP σ (p_map (x_P σ) (x_sg σ L t) (p_fl (tc t)))) (m_sI (m_wI τ 8 f) 10 t v) L R T tc' ∧ r_C (x_wP σ (p_map (x_P σ) (x_sg σ L t) (p_fl (tc t)))) (m_sI (m_wI τ 8 f) 10 t v) L R B ∧ m ≤ 247 := by
  have hf := hT.2.2.1
  have hT8 := hf.2.1
  have hX := hL.1
  have hp := hL.2.1
  have htc := hT.tc hX ht
  obtain ⟨hc1, hc2⟩ := hT.2.2.2.2.2 t ht
  have hLM := hT.2.2.2.2.1
  obtain ⟨f, ef, hfi⟩ := e_flushM hLM hf (N := 1000) (by omega) ht hc1
  have ecnt : (p_seg (x_P σ) R (x_I σ 4 t) (x_I σ 4 (t + 1))).countP (fun k => decide (x_P σ k 8 = -1)) = (x_sg σ L t).countP (fun k => decide (x_P σ k 8 = -1)) := (List.Perm.countP_eq _ (seg_perm hp _ _)).symm
  rw [ecnt] at ef
  have hmem : ∀ k, k ∈ p_seg (x_P σ) R (x_I σ 4 t) (x_I σ 4 (t + 1)) ↔ k ∈ x_sg σ L t := fun k => (List.Perm.mem_iff (seg_perm hp _ _)).symm
  have hP8 : ∀ i k : Nat, R[i]? = some k → f i = p_map (x_P σ) (x_sg σ L t) (p_fl (tc t)) k 8 := fun i k hk => by
    rw [hfi i k hk]
    by_cases q : k ∈ x_sg σ L t
    · rw [if_pos ((hmem k).mpr q), p_map_in q]
    · rw [if_neg (fun z => q ((hmem k).mp z)), p_map_out q]
  refine ⟨(x_sg σ L t).countP (fun k => decide (x_P σ k 8 = -1)), f, _, fun t' => if t' = t then (if (x_sg σ L t).countP (fun k => decide (x_P σ k 8 = -1)) = 0 then tc t else tc t + 1) else tc t', e_flushX hX hL.2.2.1 hL.rows (by omega) (by omega) (hf.le ht) (by omega) hc2, ef, hL, ⟨hT.1, hT.2.1, hf, hT.2.2.2.1, ⟨hLM.1, hLM.2.1, fun i k hk => ?_⟩, fun t' ht' => ?_⟩, ⟨hC.1, hC.2.1, hC.2.2.1, hC.2.2.2.1, hC.2.2.2.2.1, fun k hk h8 => ?_⟩, Nat.le_trans List.countP_le_length (x_sg_len hX t)⟩
  · obtain ⟨g1, g2, g3, g4, g5, g6, g7⟩ := hLM.2.2 i k hk
    exact ⟨g1, g2, g3, g4, g5, hP8 i k hk, g7⟩
  · show upd (m_I τ 10) t _ t' = nI (if t' = t then _ else tc t') ∧ p_tc (p_map (x_P σ) (x_sg σ L t) (p_fl (tc t))) (x_sg σ L t') (if t' = t then _ else tc t')
    by_cases e : t' = t
    · subst e
      rw [upd_s, if_pos rfl]
      refine ⟨rfl, ?_⟩
      by_cases h0 : (x_sg σ L t').countP (fun k => decide (x_P σ k 8 = -1)) = 0
      · rw [if_pos h0]
        refine hc2.congr (fun k hk => ?_)
        rw [p_map_in hk]
        have := List.countP_eq_zero.mp h0 k hk
        rw [decide_eq_true_eq] at this
        unfold p_fl
        rw [if_neg this]
      · rw [if_neg h0]
        refine ⟨fun k hk => ?_, fun i hi => ?_⟩
        · rw [p_map_in hk]
          have := hc2.1 k hk
          unfold p_fl
          by_cases q : x_P σ k 8 = -1
          · rw [if_pos q, nI_toInt (by omega)]
            omega
          · rw [if_neg q]
            omega
        · by_cases hi2 : i = tc t'
          · obtain ⟨k, hk, q⟩ := List.countP_pos_iff.mp (Nat.pos_of_ne_zero h0)
            rw [decide_eq_true_eq] at q
            refine ⟨k, hk, ?_⟩
            rw [p_map_in hk]
            unfold p_fl
            rw [if_pos q, hi2]
          · obtain ⟨k, hk, q⟩ := hc2.2 i (by omega)
            refine ⟨k, hk, ?_⟩
            rw [p_map_in hk, q]
            unfold p_fl
            rw [if_neg (nI_m1 (by omega))]
    · rw [pk_un e, if_neg e]
      obtain ⟨d1, d2⟩ := hT.2.2.2.2.2 t' ht'
      refine ⟨d1, d2.congr (fun k hk => p_map_out (fun q => e (x_sg_one hf ht' ht hk q)))⟩
  · show x_P σ k 9 = 0 ↔ ∃ a ∈ L, (x_P σ a 6).toInt < (x_P σ k 6).toInt ∧ p_map (x_P σ) (x_sg σ L t) (p_fl (tc t)) a 8 = -1 ∧ B a = B k
    have hk2 : k ∉ x_sg σ L t := fun q => by
      have h9 : p_map (x_P σ) (x_sg σ L t) (p_fl (tc t)) k 8 = -1 := h8
      rw [p_map_in q] at h9
      exact p_fl_m1 (by omega) h9
    have h8' : x_P σ k 8 = -1 := (p_map_out hk2).symm.trans h8
    rw [hC.2.2.2.2.2 k hk h8']
    constructor
    · intro ⟨a, ha, q1, q2, q3⟩
      refine ⟨a, ha, q1, ?_, q3⟩
      have hrow := hC.2.2.2.2.1 a ha k hk q3
      rw [p_map_out]
      · exact q2
      · intro q
        obtain ⟨_, p1, p2⟩ := x_sg_mem.mp q
        rw [hrow] at p1 p2
        exact hk2 (x_sg_mem.mpr ⟨hk, p1, p2⟩)
    · intro ⟨a, ha, q1, q2, q3⟩
      refine ⟨a, ha, q1, ?_, q3⟩
      by_cases q : a ∈ x_sg σ L t
      · rw [p_map_in q] at q2
        exact absurd q2 (p_fl_m1 (by omega))
      · rw [p_map_out q] at q2
        exact q2
theorem sim_flush : s_flush r_R := fun j σ τ hj h a => by
  have hm := sim_mono j σ τ h
  obtain ⟨hA, hB, hX, hF, hS, hE⟩ := h
  obtain ⟨L, R, s, T, tc, B, hL, hT, hC, h4, h5⟩ := hE
  unfold f_T_flush f_M_flush
  rcases e_isTablet hT.2.2.1.2.1 hT.1 hT.2.1 1000 a with ⟨t, ht, rfl, e1, e2⟩ | ⟨e1, e2⟩
  · rw [e1, e2, Option.bind_some, Option.bind_some, if11, if11]
    obtain ⟨m, f, v, tc', q1, q2, q3, q4, q5, _⟩ := r_flush hL hT hC ht
    rw [q1, q2]
    exact ⟨nI m, _, _, rfl, rfl, hA.mono, hB, hX, hF, hS, L, R, s, T, tc', B, q3.mono, q4, q5, h4, by show (m_S τ 27).toInt ≤ _; omega⟩
  · rw [e1, e2, Option.bind_some, Option.bind_some, if01, if01]
    exact ⟨-1, σ, τ, rfl, rfl, hm⟩
