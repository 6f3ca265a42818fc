/-! The class's reads, over its list L of pool indices. -/
theorem nI_cl {j : Nat} (h : j < 2 ^ 31) : (nI j).toNatClampNeg = j := nI_clamp h
theorem e_index_L {σ : x_T} {L : List Nat} (hX : LX σ L) (N : Nat) (r : Int32) (K : Int32 → Option Int32) : ∀ (suf pre : List Nat) (n : Nat), L = pre ++ suf → suf.length < n → f_T_indexOfRow_L2 N σ r K n (nI pre.length) = K (nI (pre.length + (suf.takeWhile (fun k => decide (x_P σ k 0 < r))).length)) := by
  intro suf
  induction suf with
  | nil =>
    intro pre n hL hn
    obtain ⟨n, rfl⟩ : ∃ m, n = m + 1 := ⟨n - 1, by simp at hn; omega⟩
    have hl : pre.length = L.length := by rw [hL]; simp
    rw [f_T_indexOfRow_L2, if_pos (by rw [hl]; exact hX.end)]
    rfl
  | cons k suf ih =>
    intro pre n hL hn
    obtain ⟨n, rfl⟩ : ∃ m, n = m + 1 := ⟨n - 1, by simp at hn; omega⟩
    have hk : L[pre.length]? = some k := by rw [hL]; simp
    obtain ⟨h1, h2, h3, h4⟩ := hX.at hk
    rw [f_T_indexOfRow_L2, if_neg h4, q_gd_t h1, q_om_s h2, q_gd_t h3]
    by_cases hc : x_P σ k 0 < r
    · rw [if_neg (by rw [i_le]; rw [i_lt] at hc; omega), ← nI_succ]
      have h5 := ih (pre ++ [k]) n (by rw [hL]; simp) (by simp at hn; omega)
      rw [List.length_append, List.length_singleton] at h5
      rw [h5, List.takeWhile_cons_of_pos (by simpa using hc), List.length_cons]
      congr 2
      omega
    · rw [if_pos (by rw [i_le]; rw [i_lt] at hc; omega), List.takeWhile_cons_of_neg (by simpa using hc)]
      rfl
theorem e_indexOfRow {σ : x_T} {L : List Nat} (hX : LX σ L) (hr : p_rows (x_P σ) L) {N : Nat} (hN : 247 < N) (r : Int32) : f_T_indexOfRow N σ r = some (nI (p_pre (x_P σ) L r).length) := by
  unfold f_T_indexOfRow
  have h := e_index_L hX N r (fun v2 => some v2) L [] N rfl (by have := hX.2.1; omega)
  rw [tw_filter hr] at h
  rw [List.length_nil, Nat.zero_add] at h
  exact h
theorem e_startOf {σ : x_T} {L : List Nat} (hX : LX σ L) (hr : p_rows (x_P σ) L) {N : Nat} (hN : 247 < N) {t : Nat} (ht : t < 9) : f_T_startOf N σ (nI t) = some (nI (p_pre (x_P σ) L (x_I σ 4 t)).length) := by
  unfold f_T_startOf
  rw [q_gd_t (q_in_of ht (by omega)), nI_cl (by omega), e_indexOfRow hX hr hN]
  rfl
theorem e_endOf {σ : x_T} {L : List Nat} (hX : LX σ L) (hr : p_rows (x_P σ) L) {N : Nat} (hN : 247 < N) {t : Nat} (ht : t < 8) : f_T_endOf N σ (nI t) = some (nI (p_pre (x_P σ) L (x_I σ 4 (t + 1))).length) := by
  unfold f_T_endOf
  rw [← nI_succ, q_gd_t (q_in_of (by omega) (by omega)), nI_cl (by omega), e_indexOfRow hX hr hN]
  rfl
/-- a tablet's entries in the class's list -/
def x_sg (σ : x_T) (L : List Nat) (t : Nat) : List Nat := p_seg (x_P σ) L (x_I σ 4 t) (x_I σ 4 (t + 1))
theorem x_sg_len {σ : x_T} {L : List Nat} (hX : LX σ L) (t : Nat) : (x_sg σ L t).length ≤ 247 := Nat.le_trans (List.length_filter_le _ _) hX.2.1
theorem e_entriesIn {σ : x_T} {L : List Nat} (hX : LX σ L) (hr : p_rows (x_P σ) L) {N : Nat} (hN : 247 < N) {t : Nat} (ht : t < 8) (hf : x_I σ 4 t ≤ x_I σ 4 (t + 1)) (u : Int32) : f_T_entriesIn N σ (nI t) u = some (nI ((x_sg σ L t).countP (fun k => decide (x_P σ k 8 = u)))) := by
  unfold f_T_entriesIn
  rw [e_endOf hX hr hN ht, Option.bind_some, e_startOf hX hr hN (by omega), Option.bind_some]
  have hl := p_pre_le (x_P σ) L (x_I σ 4 (t + 1))
  have hL := hX.2.1
  have h := q_loop L (fun n (s : Int32) i => f_T_entriesIn_L16 N σ u (nI (p_pre (x_P σ) L (x_I σ 4 (t + 1))).length) (fun v3 => some v3) n s i) (fun s => some s) (fun s k => if decide (x_P σ k 8 = u) = true then s + 1 else s) (fun _ => True) _ hl
    (fun n s _ => by show f_T_entriesIn_L16 N σ u _ _ (n + 1) s _ = _; rw [f_T_entriesIn_L16, if_pos (nI_le (Nat.le_refl _) (by omega))])
    (fun n s j k _ hj hje => by
      obtain ⟨h1, h2, h3, h4⟩ := hX.at hj
      refine ⟨?_, trivial⟩
      show f_T_entriesIn_L16 N σ u _ _ (n + 1) s _ = f_T_entriesIn_L16 N σ u _ _ n _ _
      rw [f_T_entriesIn_L16, if_neg (nI_ge hje (by omega)), q_gd_t h1, q_om_s h2, q_gd_t h3, ← nI_succ]
      by_cases hc : x_P σ k 8 = u
      · rw [if_pos hc, if_pos (by simpa using hc)]
      · rw [if_neg hc, if_neg (by simpa using hc)])
    (x_sg σ L t) (p_pre (x_P σ) L (x_I σ 4 t)) N (nI 0) (p_split hr hf) (by have := x_sg_len hX t; omega) trivial
  rw [q_count, Nat.zero_add] at h
  exact h.1
theorem e_erasuresIn {σ : x_T} {L : List Nat} (hX : LX σ L) (hr : p_rows (x_P σ) L) {N : Nat} (hN : 247 < N) {t : Nat} (ht : t < 8) (hf : x_I σ 4 t ≤ x_I σ 4 (t + 1)) (u : Int32) : f_T_erasuresIn N σ (nI t) u = some (nI ((x_sg σ L t).countP (fun k => decide (x_P σ k 8 = u) && !decide (x_P σ k 4 = 0)))) := by
  unfold f_T_erasuresIn
  rw [e_endOf hX hr hN ht, Option.bind_some, e_startOf hX hr hN (by omega), Option.bind_some]
  have hl := p_pre_le (x_P σ) L (x_I σ 4 (t + 1))
  have hL := hX.2.1
  have h := q_loop L (fun n (s : Int32) i => f_T_erasuresIn_L16 N σ u (nI (p_pre (x_P σ) L (x_I σ 4 (t + 1))).length) (fun v3 => some v3) n s i) (fun s => some s) (fun s k => if (decide (x_P σ k 8 = u) && !decide (x_P σ k 4 = 0)) = true then s + 1 else s) (fun _ => True) _ hl
    (fun n s _ => by show f_T_erasuresIn_L16 N σ u _ _ (n + 1) s _ = _; rw [f_T_erasuresIn_L16, if_pos (nI_le (Nat.le_refl _) (by omega))])
    (fun n s j k _ hj hje => by
      obtain ⟨h1, h2, h3, h4⟩ := hX.at hj
      refine ⟨?_, trivial⟩
      show f_T_erasuresIn_L16 N σ u _ _ (n + 1) s _ = f_T_erasuresIn_L16 N σ u _ _ n _ _
      rw [f_T_erasuresIn_L16, if_neg (nI_ge hje (by omega)), q_gd_t h1, q_om_s h2, q_gd_t h3, ← nI_succ]
      by_cases hc : x_P σ k 8 = u
      · rw [if_pos hc, q_gd_t h1, q_om_s h2, q_gd_t h3]
        by_cases hd : x_P σ k 4 = 0
        · rw [if_pos hd, if_neg (by simp [hd])]
        · rw [if_neg hd, if_pos (by simp [hc, hd])]
      · rw [if_neg hc, if_neg (by simp [hc])])
    (x_sg σ L t) (p_pre (x_P σ) L (x_I σ 4 t)) N (nI 0) (p_split hr hf) (by have := x_sg_len hX t; omega) trivial
  rw [q_count, Nat.zero_add] at h
  exact h.1
/-- the greatest of a list's tables, as a number one higher -/
def p_tc (P : Nat → Nat → Int32) (l : List Nat) (c : Nat) : Prop := (∀ k ∈ l, -1 ≤ (P k 8).toInt ∧ (P k 8).toInt < c) ∧ ∀ i : Nat, i < c → ∃ k ∈ l, P k 8 = nI i
theorem p_mx {P : Nat → Nat → Int32} (l : List Nat) (v : Int32) : let m := l.foldl (fun (v : Int32) k => if v < P k 8 then P k 8 else v) v
    (v ≤ m ∧ ∀ k ∈ l, P k 8 ≤ m) ∧ (m = v ∨ ∃ k ∈ l, m = P k 8) := by
  induction l generalizing v with
  | nil => exact ⟨⟨by rw [i_le]; exact Int.le_refl _, fun k hk => by cases hk⟩, Or.inl rfl⟩
  | cons k l ih =>
    have h := ih (if v < P k 8 then P k 8 else v)
    simp only [List.foldl_cons] at h ⊢
    obtain ⟨⟨h1, h2⟩, h3⟩ := h
    generalize l.foldl (fun (v : Int32) k => if v < P k 8 then P k 8 else v) (if v < P k 8 then P k 8 else v) = m at h1 h2 h3 ⊢
    by_cases hc : v < P k 8
    · rw [if_pos hc] at h1 h3
      refine ⟨⟨?_, fun a ha => ?_⟩, ?_⟩
      · rw [i_le] at h1 ⊢; rw [i_lt] at hc; omega
      · rcases List.mem_cons.mp ha with rfl | ha
        · exact h1
        · exact h2 a ha
      · rcases h3 with h3 | ⟨a, ha, h3⟩
        · exact Or.inr ⟨k, List.mem_cons_self, h3⟩
        · exact Or.inr ⟨a, List.mem_cons_of_mem _ ha, h3⟩
    · rw [if_neg hc] at h1 h3
      refine ⟨⟨h1, fun a ha => ?_⟩, ?_⟩
      · rcases List.mem_cons.mp ha with rfl | ha
        · rw [i_le] at h1 ⊢; rw [i_lt] at hc; omega
        · exact h2 a ha
      · rcases h3 with h3 | ⟨a, ha, h3⟩
        · exact Or.inl h3
        · exact Or.inr ⟨a, List.mem_cons_of_mem _ ha, h3⟩
theorem p_tc_mx {P : Nat → Nat → Int32} {l : List Nat} {c : Nat} (hc : c < 2 ^ 30) (h : p_tc P l c) : l.foldl (fun (v : Int32) k => if v < P k 8 then P k 8 else v) (-1) + 1 = nI c := by
  have h0 := p_mx (P := P) l (-1)
  simp only at h0
  obtain ⟨⟨h1, h2⟩, h3⟩ := h0
  generalize l.foldl (fun (v : Int32) k => if v < P k 8 then P k 8 else v) (-1) = m at h1 h2 h3 ⊢
  rw [i_le, i_m1] at h1
  by_cases h0 : c = 0
  · subst h0
    rcases h3 with h3 | ⟨k, hk, h3⟩
    · rw [h3]; rfl
    · have h4 := h.1 k hk
      rw [← h3] at h4
      have h5 : m = -1 := by rw [i_eq, i_m1]; omega
      rw [h5]; rfl
  · obtain ⟨k, hk, e⟩ := h.2 (c - 1) (by omega)
    have h4 := h2 k hk
    rw [e, i_le, nI_toInt (by omega)] at h4
    have h5 : m.toInt < c := by
      rcases h3 with h3 | ⟨k, hk, h3⟩
      · rw [h3, i_m1]; omega
      · rw [h3]; exact (h.1 k hk).2
    have h6 : m = nI (c - 1) := by rw [i_eq, nI_toInt (by omega)]; omega
    rw [h6, ← nI_succ]
    congr 1
    omega
theorem e_tableCount {σ : x_T} {L : List Nat} (hX : LX σ L) (hr : p_rows (x_P σ) L) {N : Nat} (hN : 247 < N) {t : Nat} (ht : t < 8) (hf : x_I σ 4 t ≤ x_I σ 4 (t + 1)) {c : Nat} (hc : c < 2 ^ 30) (hT : p_tc (x_P σ) (x_sg σ L t) c) : f_T_tableCount N σ (nI t) = some (nI c) := by
  unfold f_T_tableCount
  rw [e_endOf hX hr hN ht, Option.bind_some, e_startOf hX hr hN (by omega), Option.bind_some]
  have hl := p_pre_le (x_P σ) L (x_I σ 4 (t + 1))
  have hL := hX.2.1
  have h := q_loop L (fun n (s : Int32) i => f_T_tableCount_L15 N σ (nI (p_pre (x_P σ) L (x_I σ 4 (t + 1))).length) (fun v2 => some (v2 + 1)) n s i) (fun s => some (s + 1)) (fun v k => if v < x_P σ k 8 then x_P σ k 8 else v) (fun _ => True) _ hl
    (fun n s _ => by show f_T_tableCount_L15 N σ _ _ (n + 1) s _ = _; rw [f_T_tableCount_L15, if_pos (nI_le (Nat.le_refl _) (by omega))])
    (fun n s j k _ hj hje => by
      obtain ⟨h1, h2, h3, h4⟩ := hX.at hj
      refine ⟨?_, trivial⟩
      show f_T_tableCount_L15 N σ _ _ (n + 1) s _ = f_T_tableCount_L15 N σ _ _ n _ _
      rw [f_T_tableCount_L15, if_neg (nI_ge hje (by omega)), q_gd_t h1, q_om_s h2, q_gd_t h3, ← nI_succ])
    (x_sg σ L t) (p_pre (x_P σ) L (x_I σ 4 t)) N (-1) (p_split hr hf) (by have := x_sg_len hX t; omega) trivial
  rw [p_tc_mx hc hT] at h
  exact h.1
