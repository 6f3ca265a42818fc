/-! log. -/
theorem e_logX {σ : x_T} {L : List Nat} (hX : LX σ L) {N : Nat} (hN : 247 < N) : f_T_log N σ = some (nI (L.countP (fun k => decide (x_P σ k 8 = -1) && !decide (x_P σ k 9 = 0)))) := by
  unfold f_T_log
  have hL := hX.2.1
  have h := q_loop0 L (fun n (s : Int32) i => f_T_log_L4 N σ (fun v1 => some v1) n s i) (fun s => some s) (fun s k => if (decide (x_P σ k 8 = -1) && !decide (x_P σ k 9 = 0)) = true then s + 1 else s) (fun _ => True)
    (fun n s _ => by show f_T_log_L4 N σ _ (n + 1) s _ = _; rw [f_T_log_L4, if_pos hX.end])
    (fun n s j k _ hj hje => by
      obtain ⟨h1, h2, h3, h4⟩ := hX.at hj
      refine ⟨?_, trivial⟩
      show f_T_log_L4 N σ _ (n + 1) s _ = f_T_log_L4 N σ _ n _ _
      rw [f_T_log_L4, if_neg h4, q_gd_t h1, q_om_s h2, q_gd_t h3, ← nI_succ]
      by_cases hc : x_P σ k 8 = -1
      · rw [if_pos hc, q_gd_t h1, q_om_s h2, q_gd_t h3]
        by_cases hd : x_P σ k 9 = 0
        · rw [if_pos hd, if_neg (by simp [hd])]
        · rw [if_neg hd, if_pos (by simp [hc, hd])]
      · rw [if_neg hc, if_neg (by simp [hc])])
    N (nI 0) (by omega) trivial
  rw [q_count, Nat.zero_add] at h
  exact h.1
theorem seq_take {P : Nat → Nat → Int32} {R : List Nat} (h : R.Pairwise (fun a b => (P a 6).toInt < (P b 6).toInt)) {j k : Nat} (hj : R[j]? = some k) (a : Nat) : a ∈ R.take j ↔ a ∈ R ∧ (P a 6).toInt < (P k 6).toInt := by
  obtain ⟨hl, e⟩ := List.getElem?_eq_some_iff.mp hj
  have hs : R = R.take j ++ k :: R.drop (j + 1) := by
    rw [← e, List.getElem_cons_drop, List.take_append_drop]
  rw [hs] at h
  obtain ⟨h1, h2, h3⟩ := List.pairwise_append.mp h
  constructor
  · intro ha
    exact ⟨List.mem_of_mem_take ha, h3 a ha k List.mem_cons_self⟩
  · intro ⟨ha, hlt⟩
    rw [hs] at ha
    rcases List.mem_append.mp ha with q | q
    · exact q
    · exfalso
      rcases List.mem_cons.mp q with rfl | q
      · omega
      · have := (List.pairwise_cons.mp h2).1 a q
        omega
theorem q_flag (m : Nat → Bool) (l : List Nat) (s : Int32) : l.foldl (fun (s : Int32) k => if s = 0 then 0 else if m k = true then 0 else 1) s = if s = 0 then 0 else if l = [] then s else if l.any m = true then 0 else 1 := by
  induction l generalizing s with
  | nil =>
    rw [List.foldl_nil]
    by_cases h : s = 0
    · rw [if_pos h, h]
    · rw [if_neg h, if_pos rfl]
  | cons k l ih =>
    rw [List.foldl_cons, ih]
    by_cases h : s = 0
    · rw [if_pos h, if_pos rfl, if_pos h]
    · rw [if_neg h, if_neg h, if_neg (List.cons_ne_nil _ _)]
      by_cases hm : m k = true
      · rw [if_pos hm, if_pos rfl, if_pos (by simp [hm])]
      · rw [if_neg hm, if_neg (by decide)]
        by_cases hl : l = []
        · rw [if_pos hl, hl, if_neg (by simp [hm])]
        · rw [if_neg hl]
          by_cases ha : l.any m = true
          · rw [if_pos ha, if_pos (by rw [List.any_cons, ha, Bool.or_true])]
          · rw [if_neg ha, if_neg (by rw [List.any_cons, Bool.or_eq_true]; exact fun q => q.elim hm ha)]
theorem e_log31 {τ : m_T} {P : Nat → Nat → Int32} {L : List Nat} {fr : Nat → Int32} {T : Nat} (h : LM τ P L fr T) {B : Nat → Int32} (hB : ∀ i k : Nat, L[i]? = some k → m_I τ 6 i = B k) {N : Nat} (hN : 247 < N) {i k : Nat} (hi : L[i]? = some k) (u s : Int32) (K : Int32 → Option Int32) (hs : s = 0 ∨ s = 1) : f_M_log_L31 N τ u (nI i) K N s 0 = K (if s = 0 then 0 else if (L.take i).any (fun a => decide (P a 8 = -1) && decide (B a = B k)) = true then 0 else 1) := by
  have hil : i < L.length := (List.getElem?_eq_some_iff.mp hi).1
  have hL := h.2.1
  obtain ⟨g1, g2, g3, g4⟩ := h.at hi
  have h0 := q_loop L (fun n (s : Int32) v => f_M_log_L31 N τ u (nI i) K n s v) K (fun s a => if s = 0 then 0 else if (decide (P a 8 = -1) && decide (B a = B k)) = true then 0 else 1) (fun _ => True) i (by omega)
    (fun n s _ => by show f_M_log_L31 N τ u _ K (n + 1) s _ = _; rw [f_M_log_L31, if_pos (nI_le (Nat.le_refl _) (by omega))])
    (fun n s j a _ hj hje => by
      obtain ⟨h1, h2, h3, h4⟩ := h.at hj
      refine ⟨?_, trivial⟩
      show f_M_log_L31 N τ u _ K (n + 1) s _ = f_M_log_L31 N τ u _ K n _ _
      rw [f_M_log_L31, if_neg (nI_ge hje (by omega)), ← nI_succ]
      by_cases hc : s = 0
      · rw [if_pos hc, if_pos hc]
      · rw [if_neg hc, if_neg hc, q_gd_t h1, h2, (h.2.2 j a hj).2.2.2.2.2.1, q_gd_t h1, q_gd_t g1, g2, hB j a hj, hB i k hi]
        by_cases hd : P a 8 = -1
        · rw [if_pos hd]
          by_cases he : B a = B k
          · rw [if_pos he, if_pos (by simp [hd, he])]
          · rw [if_neg he, if_neg (by simp [he])]
        · rw [if_neg hd, if_neg (by simp [hd])])
    (L.take i) [] N s (by simp) (by simp; omega) trivial
  rw [q_flag] at h0
  refine Eq.trans h0.1 ?_
  by_cases hc : s = 0
  · rw [if_pos hc, if_pos hc]
  · rw [if_neg hc, if_neg hc]
    by_cases hl : L.take i = []
    · rw [if_pos hl, hl, if_neg (by simp)]
      rw [hs.resolve_left hc]
    · rw [if_neg hl]
theorem e_logM {τ : m_T} {P : Nat → Nat → Int32} {L : List Nat} {fr : Nat → Int32} {T : Nat} (h : LM τ P L fr T) {B : Nat → Int32} (hB : ∀ i k : Nat, L[i]? = some k → m_I τ 6 i = B k) (hs : L.Pairwise (fun a b => (P a 6).toInt < (P b 6).toInt)) (hb : ∀ k ∈ L, P k 8 = -1 → (P k 9 = 0 ↔ ∃ a ∈ L, (P a 6).toInt < (P k 6).toInt ∧ P a 8 = -1 ∧ B a = B k)) {N : Nat} (hN : 247 < N) : f_M_log N τ = some (nI (L.countP (fun k => decide (P k 8 = -1) && !decide (P k 9 = 0)))) := by
  unfold f_M_log
  have hL := h.2.1
  have h0 := q_loop0 L (fun n (s : Int32) i => f_M_log_L4 N τ (fun v1 => some v1) n s i) (fun s => some s) (fun s k => if (decide (P k 8 = -1) && !decide (P k 9 = 0)) = true then s + 1 else s) (fun _ => True)
    (fun n s _ => by show f_M_log_L4 N τ _ (n + 1) s _ = _; rw [f_M_log_L4, if_pos h.end])
    (fun n s j k _ hj hje => by
      obtain ⟨h1, h2, h3, h4⟩ := h.at hj
      refine ⟨?_, trivial⟩
      show f_M_log_L4 N τ _ (n + 1) s _ = f_M_log_L4 N τ _ n _ _
      rw [f_M_log_L4, if_neg h3, q_gd_t h1, h2, (h.2.2 j k hj).2.2.2.2.2.1]
      by_cases hc : P k 8 = -1
      · rw [if_pos hc, e_log31 h hB hN hj _ 1 _ (Or.inr rfl), if_neg (show ¬ (1 : Int32) = 0 by decide), ← nI_succ]
        have hkm := List.mem_of_getElem? hj
        have hbk := hb k hkm hc
        have hany : (L.take j).any (fun a => decide (P a 8 = -1) && decide (B a = B k)) = true ↔ P k 9 = 0 := by
          rw [hbk, List.any_eq_true]
          constructor
          · intro ⟨a, ha, q⟩
            rw [Bool.and_eq_true, decide_eq_true_eq, decide_eq_true_eq] at q
            have := (seq_take hs hj a).mp ha
            exact ⟨a, this.1, this.2, q⟩
          · intro ⟨a, ha, q1, q2⟩
            exact ⟨a, (seq_take hs hj a).mpr ⟨ha, q1⟩, by simp [q2]⟩
        by_cases hd : P k 9 = 0
        · rw [if_pos (hany.mpr hd), if_pos rfl, if_neg (by simp [hd]), Int32.add_zero]
        · rw [if_neg (fun q => hd (hany.mp q)), if_neg (by decide), if_pos (by simp [hc, hd])]
      · rw [if_neg hc, e_log31 h hB hN hj _ 0 _ (Or.inl rfl), if_pos rfl, if_pos rfl, if_neg (by simp [hc]), Int32.add_zero, ← nI_succ])
    N (nI 0) (by omega) trivial
  rw [q_count, Nat.zero_add] at h0
  exact h0.1
theorem sim_log : s_log r_R := fun j σ τ hj h => by
  obtain ⟨L, R, s, T, tc, B, hL, hT, hC, _, _⟩ := h.2.2.2.2.2
  refine ⟨_, e_logX hL.1 (by omega), ?_⟩
  have hp := hL.2.1
  rw [e_logM hT.2.2.2.2.1 hC.2.2.1 hL.2.2.2.2.2.2.2.2 (fun k hk h8 => ?_) (by omega), List.Perm.countP_eq _ hp]
  rw [hC.2.2.2.2.2 k (hp.mem_iff.mpr hk) h8]
  constructor
  · intro ⟨a, ha, q⟩
    exact ⟨a, hp.mem_iff.mp ha, q⟩
  · intro ⟨a, ha, q⟩
    exact ⟨a, hp.mem_iff.mpr ha, q⟩
