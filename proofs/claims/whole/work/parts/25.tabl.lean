/-! tablet, table. -/
/-- how far behind its column's first place an entry stands -/
def p_bh (P : Nat → Nat → Int32) (k : Nat) : Int := if P k 3 = -1 then 0 else 10000 - (P k 3).toInt
theorem p_ok.bh {P : Nat → Nat → Int32} {k : Nat} (h : p_ok P k) : 0 ≤ p_bh P k ∧ p_bh P k ≤ 10000 ∧ (P k 7).toInt = ((P k 0).toInt * 9 + (P k 1).toInt + 1) * 10001 + p_bh P k := by
  obtain ⟨a0, a1, a2, a3, a4, a5, _, _, _, _, a7, _⟩ := h
  refine ⟨?_, ?_, a7⟩ <;> unfold p_bh <;> by_cases e : P k 3 = -1
  · rw [if_pos e]; omega
  · rw [if_neg e]
    omega
  · rw [if_pos e]; omega
  · rw [if_neg e]
    rw [i_eq, i_m1] at e
    omega
theorem p_ok.rows {P : Nat → Nat → Int32} {a b : Nat} (ha : p_ok P a) (hb : p_ok P b) (h : p_ord P a b) : P a 0 ≤ P b 0 := by
  obtain ⟨p1, p2, p3⟩ := ha.bh
  obtain ⟨q1, q2, q3⟩ := hb.bh
  obtain ⟨a0, a1, a2, a3, _⟩ := ha
  obtain ⟨b0, b1, b2, b3, _⟩ := hb
  have h1 : (P a 7).toInt ≤ (P b 7).toInt := by
    rcases h with h | h
    · omega
    · rw [h.1]; exact Int.le_refl _
  rw [i_le]
  omega
theorem r_L.rows {j s : Nat} {σ : x_T} {L R : List Nat} (h : r_L j σ L R s) : p_rows (x_P σ) L := by
  obtain ⟨h1, h2, h3, h4, h5, h6, h7, h8, h9⟩ := h
  exact List.Pairwise.imp_of_mem (fun ha hb q => p_ok.rows (h7 _ ha).1 (h7 _ hb).1 q) h8
theorem e_isTablet {σ : x_T} {τ : m_T} {T : Nat} (hT : T ≤ 8) (h1 : x_S σ 7 = nI T) (h2 : m_S τ 9 = nI T) (N : Nat) (a : Int32) : (∃ t : Nat, t < T ∧ a = nI t ∧ f_T_isTablet N σ a = some 1 ∧ f_M_isTablet N τ a = some 1) ∨ (f_T_isTablet N σ a = some 0 ∧ f_M_isTablet N τ a = some 0) := by
  unfold f_T_isTablet f_M_isTablet
  rw [h1, h2]
  by_cases h0 : a < 0
  · rw [if_pos h0]
    exact Or.inr ⟨rfl, rfl⟩
  · rw [if_neg h0]
    by_cases h3 : nI T ≤ a
    · rw [if_pos h3]
      exact Or.inr ⟨rfl, rfl⟩
    · rw [if_neg h3]
      rw [i_lt, i_0] at h0
      rw [i_le, nI_toInt (by omega)] at h3
      exact Or.inl ⟨a.toInt.toNat, by omega, by rw [i_eq, nI_toInt (by omega)]; omega, rfl, rfl⟩
theorem p_tc_len {P : Nat → Nat → Int32} : ∀ (c : Nat) (l : List Nat), c < 2 ^ 31 → (∀ i : Nat, i < c → ∃ k ∈ l, P k 8 = nI i) → c ≤ l.length := by
  intro c
  induction c with
  | zero => intro l _ _; omega
  | succ c ih =>
    intro l hc h
    obtain ⟨k, hk, e⟩ := h c (by omega)
    have h1 := ih (l.filter (fun a => !decide (P a 8 = nI c))) (by omega) (fun i hi => by
      obtain ⟨a, ha, ea⟩ := h i (by omega)
      refine ⟨a, List.mem_filter.mpr ⟨ha, ?_⟩, ea⟩
      rw [Bool.not_eq_true', decide_eq_false_iff_not, ea, nI_eq (by omega) (by omega)]
      omega)
    have h2 : (l.filter (fun a => !decide (P a 8 = nI c))).length < l.length := by
      refine List.length_filter_lt_length_iff_exists.mpr ⟨k, hk, ?_⟩
      rw [Bool.not_eq_true, Bool.not_eq_false', decide_eq_true_eq]
      exact e
    omega
/-- a number of tables isn't greater than that of entries -/
theorem p_tc.le {P : Nat → Nat → Int32} {l : List Nat} {c : Nat} (h : p_tc P l c) (hl : l.length ≤ 247) : c ≤ l.length := by
  by_cases hc : c < 2 ^ 31
  · exact p_tc_len c l hc h.2
  · have := p_tc_len (P := P) 248 l (by omega) (fun i hi => h.2 i (by omega))
    omega
theorem r_T.tc {σ : x_T} {τ : m_T} {L R : List Nat} {T : Nat} {tc : Nat → Nat} (hX : LX σ L) (h : r_T σ τ L R T tc) {t : Nat} (ht : t < T) : tc t ≤ 247 := Nat.le_trans ((h.2.2.2.2.2 t ht).2.le (x_sg_len hX t)) (x_sg_len hX t)
theorem p_fr.le {fr : Nat → Int32} {T : Nat} (h : p_fr fr T) {t : Nat} (ht : t < T) : fr t ≤ fr (t + 1) := p_fr_mono h (by omega) (by omega)
/-- a tablet's entries: the same on both sides, in another order -/
theorem seg_perm {P : Nat → Nat → Int32} {L R : List Nat} (h : L.Perm R) (lo hi : Int32) : (p_seg P L lo hi).Perm (p_seg P R lo hi) := h.filter _
theorem e_count {j s T : Nat} {σ : x_T} {τ : m_T} {L R : List Nat} {tc : Nat → Nat} (hL : r_L j σ L R s) (hT : r_T σ τ L R T tc) {t : Nat} (ht : t < T) (u : Int32) : ∃ r, f_T_entriesIn 1000 σ (nI t) u = some r ∧ f_M_inTable 1000 τ (nI t) u = some r ∧ r = nI ((x_sg σ L t).countP (fun k => decide (x_P σ k 8 = u))) := by
  have hf := hT.2.2.1
  refine ⟨_, e_entriesIn hL.1 hL.rows (by omega) (by have := hf.2.1; omega) (hf.le ht) u, ?_, rfl⟩
  rw [e_inTable hT.2.2.2.2.1 hf (by omega) ht u]
  congr 2
  exact (List.Perm.countP_eq _ (seg_perm hL.2.1 _ _)).symm
theorem sim_tablet : s_tablet r_R := fun j σ τ hj h a1 a2 => by
  obtain ⟨L, R, s, T, tc, B, hL, hT, hC, _, _⟩ := h.2.2.2.2.2
  have hf := hT.2.2.1
  have hT8 := hf.2.1
  unfold f_T_tablet f_M_tablet
  rcases e_isTablet hT8 hT.1 hT.2.1 1000 a1 with ⟨t, ht, rfl, e1, e2⟩ | ⟨e1, e2⟩
  · rw [e1, e2, Option.bind_some, Option.bind_some, if11, if11]
    have hi : q_in (nI t) 9 = true := q_in_of (by omega) (by omega)
    by_cases k0 : a2 = 0
    · subst k0
      rw [if_pos rfl, if_neg (by decide), if_pos (by decide), if_pos rfl, q_gd_t hi, q_gd_t hi, nI_cl (by omega), hT.2.2.2.1 t ht]
      exact ⟨_, rfl, rfl⟩
    rw [if_neg k0]
    by_cases k1 : a2 = 1
    · subst k1
      rw [if_pos rfl, if_neg (by decide), if_pos (by decide), if_neg (by decide), if_pos rfl, ← nI_succ, q_gd_t (q_in_of (by omega) (by omega)), nI_cl (by omega)]
      unfold f_M_lastRow
      rw [hT.2.1, ← nI_succ, nI_cl (by omega)]
      by_cases hl : t + 1 = T
      · rw [if_pos (by rw [← hl, nI_pred]), hl, hf.2.2.2.1]
        exact ⟨_, rfl, rfl⟩
      · rw [if_neg, q_gd_t (q_in_of (by omega) (by omega)), hT.2.2.2.1 (t + 1) (by omega)]
        · exact ⟨_, rfl, rfl⟩
        · intro q
          obtain ⟨T', rfl⟩ : ∃ m, T = m + 1 := ⟨T - 1, by omega⟩
          rw [nI_pred, nI_eq (by omega) (by omega)] at q
          omega
    rw [if_neg k1]
    by_cases k2 : a2 = 2
    · subst k2
      rw [if_pos rfl, if_neg (by decide), if_pos (by decide), if_neg (by decide), if_neg (by decide), if_pos rfl, q_gd_t hi, nI_cl (by omega), e_tableCount hL.1 hL.rows (by omega) (by omega) (hf.le ht) (by have := hT.tc hL.1 ht; omega) (hT.2.2.2.2.2 t ht).2, (hT.2.2.2.2.2 t ht).1]
      exact ⟨_, rfl, rfl⟩
    rw [if_neg k2]
    by_cases k3 : a2 = 3
    · subst k3
      obtain ⟨r, q1, q2, _⟩ := e_count hL hT ht (-1)
      rw [if_pos rfl, if_neg (by decide), if_pos (by decide), if_neg (by decide), if_neg (by decide), if_neg (by decide), q1, q2]
      exact ⟨_, rfl, rfl⟩
    rw [if_neg k3]
    refine ⟨-1, rfl, ?_⟩
    by_cases k4 : a2 < 0
    · rw [if_pos k4]
    · rw [if_neg k4, if_neg]
      intro k5
      rw [i_lt, i_0] at k4
      rw [i_le] at k5
      have q0 : ¬ a2.toInt = 0 := fun q => k0 (by rw [i_eq]; exact q)
      have q1 : ¬ a2.toInt = 1 := fun q => k1 (by rw [i_eq]; exact q)
      have q2 : ¬ a2.toInt = 2 := fun q => k2 (by rw [i_eq]; exact q)
      have q3 : ¬ a2.toInt = 3 := fun q => k3 (by rw [i_eq]; exact q)
      have q4 : (3 : Int32).toInt = 3 := rfl
      omega
  · rw [e1, e2, Option.bind_some, Option.bind_some, if01, if01]
    exact ⟨_, rfl, rfl⟩
/-- a loop that ends at the first entry of a kind -/
theorem q_find {R : Type} (L : List Nat) (F : Nat → Int32 → Option R) (K : Option R) (q : Nat → Bool) (val : Nat → Option R) (e : Nat) (he : e ≤ L.length)
    (hend : ∀ n, F (n + 1) (nI e) = K) (hstep : ∀ n j k, L[j]? = some k → j < e → F (n + 1) (nI j) = if q k = true then val k else F n (nI (j + 1))) :
    ∀ (mid pre : List Nat) (n : Nat), L.take e = pre ++ mid → mid.length < n → F n (nI pre.length) = (match mid.find? q with | some k => val k | none => K) := by
  intro mid
  induction mid with
  | nil =>
    intro pre n hL hn
    obtain ⟨n, rfl⟩ : ∃ m, n = m + 1 := ⟨n - 1, by simp at hn; omega⟩
    have hl : pre.length = e := by
      have h1 := congrArg List.length hL
      simp at h1
      omega
    rw [hl]
    exact hend n
  | cons k mid ih =>
    intro pre n hL hn
    obtain ⟨n, rfl⟩ : ∃ m, n = m + 1 := ⟨n - 1, by simp at hn; omega⟩
    have hl : pre.length + (mid.length + 1) = e := by
      have h1 := congrArg List.length hL
      simp at h1
      omega
    have hk : L[pre.length]? = some k := by
      have h1 : (L.take e)[pre.length]? = some k := by rw [hL]; simp
      rw [List.getElem?_take, if_pos (by omega)] at h1
      exact h1
    rw [hstep n pre.length k hk (by omega)]
    by_cases hq : q k = true
    · rw [if_pos hq, List.find?_cons_of_pos hq]
    · rw [if_neg hq, List.find?_cons_of_neg hq]
      have h3 := ih (pre ++ [k]) n (by rw [hL]; simp) (by simp at hn; omega)
      rw [List.length_append, List.length_singleton] at h3
      exact h3
theorem e_firstRowIn {σ : x_T} {L : List Nat} (hX : LX σ L) (hr : p_rows (x_P σ) L) {N : Nat} (hN : 247 < N) {t : Nat} (ht : t < 8) (hf : x_I σ 4 t ≤ x_I σ 4 (t + 1)) (u : Int32) : f_T_firstRowIn N σ (nI t) u = (match (x_sg σ L t).find? (fun k => decide (x_P σ k 8 = u)) with | some k => some (x_P σ k 0) | none => some (-1)) := by
  unfold f_T_firstRowIn
  rw [e_endOf hX hr hN ht, Option.bind_some, e_startOf hX hr hN (by omega), Option.bind_some]
  have hl := p_pre_le (x_P σ) L (x_I σ 4 (t + 1))
  have hL := hX.2.1
  exact q_find L (fun n i => f_T_firstRowIn_L13 N σ u (nI (p_pre (x_P σ) L (x_I σ 4 (t + 1))).length) (some (-1)) n i) (some (-1)) (fun k => decide (x_P σ k 8 = u)) (fun k => some (x_P σ k 0)) _ hl
    (fun n => by show f_T_firstRowIn_L13 N σ u _ _ (n + 1) _ = _; rw [f_T_firstRowIn_L13, if_pos (nI_le (Nat.le_refl _) (by omega))])
    (fun n j k hj hje => by
      obtain ⟨h1, h2, h3, h4⟩ := hX.at hj
      show f_T_firstRowIn_L13 N σ u _ _ (n + 1) _ = if _ then _ else f_T_firstRowIn_L13 N σ u _ _ n _
      rw [f_T_firstRowIn_L13, if_neg (nI_ge hje (by omega)), q_gd_t h1, q_om_s h2, q_gd_t h3, q_gd_t h1, q_om_s h2, q_gd_t h3, ← nI_succ]
      by_cases hc : x_P σ k 8 = u
      · rw [if_pos hc, if_pos (by simpa using hc)]
      · rw [if_neg hc, if_neg (by simpa using hc)])
    (x_sg σ L t) (p_pre (x_P σ) L (x_I σ 4 t)) N (p_split hr hf) (by have := x_sg_len hX t; omega)
theorem p_mn {P : Nat → Nat → Int32} (l : List Nat) (v : Int32) : let m := l.foldl (fun (v : Int32) k => if v ≤ P k 0 then v else P k 0) v
    (m ≤ v ∧ ∀ k ∈ l, m ≤ P k 0) ∧ (m = v ∨ ∃ k ∈ l, m = P k 0) := by
  induction l generalizing v with
  | nil => exact ⟨⟨by rw [i_le]; exact Int.le_refl _, fun k hk => by cases hk⟩, Or.inl rfl⟩
  | cons k l ih =>
    have h := ih (if v ≤ P k 0 then v else P k 0)
    simp only [List.foldl_cons] at h ⊢
    obtain ⟨⟨h1, h2⟩, h3⟩ := h
    generalize l.foldl (fun (v : Int32) k => if v ≤ P k 0 then v else P k 0) (if v ≤ P k 0 then v else P k 0) = m at h1 h2 h3 ⊢
    by_cases hc : v ≤ P k 0
    · rw [if_pos hc] at h1 h3
      refine ⟨⟨h1, fun a ha => ?_⟩, ?_⟩
      · rcases List.mem_cons.mp ha with rfl | ha
        · rw [i_le] at h1 hc ⊢; omega
        · exact h2 a ha
      · rcases h3 with h3 | ⟨a, ha, h3⟩
        · exact Or.inl h3
        · exact Or.inr ⟨a, List.mem_cons_of_mem _ ha, h3⟩
    · rw [if_neg hc] at h1 h3
      refine ⟨⟨?_, fun a ha => ?_⟩, ?_⟩
      · rw [i_le] at h1 hc ⊢; omega
      · rcases List.mem_cons.mp ha with rfl | ha
        · exact h1
        · exact h2 a ha
      · rcases h3 with h3 | ⟨a, ha, h3⟩
        · exact Or.inr ⟨k, List.mem_cons_self, h3⟩
        · exact Or.inr ⟨a, List.mem_cons_of_mem _ ha, h3⟩
theorem p_kind0 {P : Nat → Nat → Int32} {k : Nat} : p_kind P k = 0 ↔ P k 4 = 0 := by
  unfold p_kind
  by_cases h : P k 4 = 0
  · rw [if_pos h]; exact ⟨fun _ => h, fun _ => rfl⟩
  · rw [if_neg h]
    refine ⟨fun q => ?_, fun q => absurd q h⟩
    by_cases h1 : P k 1 = -1
    · rw [if_pos h1] at q; exact absurd q (by decide)
    · rw [if_neg h1] at q
      by_cases h2 : P k 3 = -1
      · rw [if_pos h2] at q; exact absurd q (by decide)
      · rw [if_neg h2] at q; exact absurd q (by decide)
theorem q_pair (g1 g2 : Int32 → Nat → Int32) (c : Nat → Bool) (l : List Nat) (a b : Int32) : l.foldl (fun (s : Int32 × Int32) k => if c k = true then (g1 s.1 k, g2 s.2 k) else s) (a, b) = ((l.filter c).foldl g1 a, (l.filter c).foldl g2 b) := by
  induction l generalizing a b with
  | nil => rfl
  | cons k l ih =>
    rw [List.foldl_cons]
    by_cases h : c k = true
    · rw [if_pos h, List.filter_cons_of_pos h, List.foldl_cons, List.foldl_cons]
      exact ih _ _
    · rw [if_neg h, List.filter_cons_of_neg h]
      exact ih _ _
/-- the reference's walk over a table's entries: erasures counted, the least row -/
theorem e_tableM {τ : m_T} {P : Nat → Nat → Int32} {L : List Nat} {fr : Nat → Int32} {T : Nat} (h : LM τ P L fr T) (hf : p_fr fr T) {N : Nat} (hN : 247 < N) {t : Nat} (ht : t < T) (u w : Int32) (K : Int32 → Int32 → Option Int32) : f_M_table_L43 N τ (nI t) u w K N 0 64 0 = K (nI ((p_seg P L (fr t) (fr (t + 1))).countP (fun k => decide (P k 8 = u) && !decide (P k 4 = 0)))) (((p_seg P L (fr t) (fr (t + 1))).filter (fun k => decide (P k 8 = u))).foldl (fun (v : Int32) k => if v ≤ P k 0 then v else P k 0) 64) := by
  have hL := h.2.1
  have h0 := q_loop0 L (fun n (s : Int32 × Int32) i => f_M_table_L43 N τ (nI t) u w K n s.1 s.2 i) (fun s => K s.1 s.2) (fun s k => if (decide (P k 8 = u) && (decide (P k 0 < fr (t + 1)) && !decide (P k 0 < fr t))) = true then ((fun (s : Int32) k => if (!decide (P k 4 = 0)) = true then s + 1 else s) s.1 k, (fun (v : Int32) k => if v ≤ P k 0 then v else P k 0) s.2 k) else s) (fun _ => True)
    (fun n s _ => by show f_M_table_L43 N τ _ u w K (n + 1) s.1 s.2 _ = _; rw [f_M_table_L43, if_pos h.end])
    (fun n s j k _ hj hje => by
      obtain ⟨h1, h2, h3, h4⟩ := h.at hj
      refine ⟨?_, trivial⟩
      obtain ⟨k1, k2, k3, k4, k5, k6, _⟩ := h.2.2 j k hj
      have ht2 := h.tab hf hj ht
      show f_M_table_L43 N τ (nI t) u w K (n + 1) s.1 s.2 (nI j) = _
      rw [f_M_table_L43, if_neg h3]
      simp only [q_gd_t h1, h2, ← nI_succ, k6, k1, k2]
      by_cases hc : m_I τ 7 j = nI t
      · rw [if_pos hc]
        have hb := ht2.mp hc
        by_cases hd : P k 8 = u
        · rw [if_pos hd]
          simp only [hb, Bool.and_true, decide_eq_true hd, if_true]
          by_cases he : P k 4 = 0
          · by_cases hg : s.2 ≤ P k 0
            · simp only [if_pos (p_kind0.mpr he), decide_eq_true he, Bool.not_true, Bool.false_eq_true, if_false, Int32.add_zero, if_pos hg]
            · simp only [if_pos (p_kind0.mpr he), decide_eq_true he, Bool.not_true, Bool.false_eq_true, if_false, Int32.add_zero, if_neg hg]
          · by_cases hg : s.2 ≤ P k 0
            · simp only [if_neg (fun q => he (p_kind0.mp q)), decide_eq_false he, Bool.not_false, if_true, if_pos hg]
            · simp only [if_neg (fun q => he (p_kind0.mp q)), decide_eq_false he, Bool.not_false, if_true, if_neg hg]
        · rw [if_neg hd, if_neg (by simp [hd])]
      · rw [if_neg hc, if_neg (fun q => hc (ht2.mpr (by rw [Bool.and_eq_true] at q; exact q.2)))])
    N (nI 0, 64) (by omega) trivial
  have hp := q_pair (fun (s : Int32) k => if (!decide (P k 4 = 0)) = true then s + 1 else s) (fun (v : Int32) k => if v ≤ P k 0 then v else P k 0) (fun k => decide (P k 8 = u) && (decide (P k 0 < fr (t + 1)) && !decide (P k 0 < fr t))) L (nI 0) 64
  rw [q_count, Nat.zero_add] at hp
  have h1 := h0.1.trans (congrArg (fun q : Int32 × Int32 => K q.1 q.2) hp)
  unfold p_seg
  rw [List.countP_filter, List.filter_filter]
  rw [List.countP_filter] at h1
  refine Eq.trans ?_ (h1.trans ?_)
  · rfl
  · refine congr (congrArg K (congrArg nI (List.countP_congr (fun k _ => ?_)))) rfl
    simp only [Bool.and_eq_true]
    exact ⟨fun q => ⟨⟨q.2.1, q.1⟩, q.2.2⟩, fun q => ⟨q.1.2, q.1.1, q.2⟩⟩
theorem sim_table : s_table r_R := fun j σ τ hj h a1 a2 a3 => by
  obtain ⟨L, R, s, T, tc, B, hL, hT, hC, _, _⟩ := h.2.2.2.2.2
  have hf := hT.2.2.1
  have hT8 := hf.2.1
  unfold f_T_table f_M_table
  rcases e_isTablet hT8 hT.1 hT.2.1 1000 a1 with ⟨t, ht, rfl, e1, e2⟩ | ⟨e1, e2⟩
  · rw [e1, e2, Option.bind_some, Option.bind_some, if11, if11]
    have hi : q_in (nI t) 9 = true := q_in_of (by omega) (by omega)
    have hc := hT.tc hL.1 ht
    by_cases k0 : a2 < 0
    · rw [if_pos k0, if_pos k0]
      exact ⟨_, rfl, rfl⟩
    · rw [if_neg k0, if_neg k0, q_gd_t hi, nI_cl (by omega), e_tableCount hL.1 hL.rows (by omega) (by omega) (hf.le ht) (by omega) (hT.2.2.2.2.2 t ht).2, (hT.2.2.2.2.2 t ht).1, Option.bind_some]
      by_cases k1 : a2 < nI (tc t)
      · rw [if_pos k1, if_neg (show ¬ nI (tc t) ≤ a2 by rw [i_le]; rw [i_lt] at k1; omega), e_tableM hT.2.2.2.2.1 hf (by omega) ht]
        obtain ⟨r, q1, q2, q3⟩ := e_count hL hT ht a2
        rw [q1, q2, Option.bind_some, Option.bind_some, Option.bind_some]
        by_cases w0 : a3 = 0
        · subst w0
          rw [if_pos rfl, if_neg (by decide), if_pos (by decide), if_pos rfl]
          exact ⟨_, rfl, rfl⟩
        rw [if_neg w0]
        by_cases w1 : a3 = 1
        · subst w1
          rw [if_pos rfl, if_neg (by decide), if_pos (by decide), if_neg (by decide), if_pos rfl, e_erasuresIn hL.1 hL.rows (by omega) (by omega) (hf.le ht)]
          refine ⟨_, rfl, ?_⟩
          congr 2
          exact (List.Perm.countP_eq _ (seg_perm hL.2.1 _ _)).symm
        rw [if_neg w1]
        by_cases w2 : a3 = 2
        · subst w2
          rw [if_pos rfl, if_neg (by decide), if_pos (by decide), if_neg (by decide), if_neg (by decide), if_pos rfl]
          refine ⟨_, rfl, ?_⟩
          rw [Int32.sub_eq_add_neg, Int32.add_assoc]
          rfl
        rw [if_neg w2]
        by_cases w3 : a3 = 3
        · subst w3
          rw [if_pos rfl, if_neg (by decide), if_pos (by decide), if_neg (by decide), if_neg (by decide), if_neg (by decide), e_firstRowIn hL.1 hL.rows (by omega) (by omega) (hf.le ht)]
          rw [i_lt, i_0] at k0
          rw [i_lt, nI_toInt (by omega)] at k1
          obtain ⟨k, hk, ek⟩ := (hT.2.2.2.2.2 t ht).2.2 a2.toInt.toNat (by omega)
          have ea : nI a2.toInt.toNat = a2 := by rw [i_eq, nI_toInt (by omega)]; omega
          rw [ea] at ek
          have hrs : p_rows (x_P σ) (x_sg σ L t) := List.Pairwise.filter _ hL.rows
          cases hfd : (x_sg σ L t).find? (fun k => decide (x_P σ k 8 = a2)) with
          | none =>
            have := List.find?_eq_none.mp hfd k hk
            rw [decide_eq_true_eq] at this
            exact absurd ek this
          | some b =>
            refine ⟨x_P σ b 0, rfl, ?_⟩
            congr 1
            obtain ⟨hb1, as, bs, hb2, hb3⟩ := List.find?_eq_some_iff_append.mp hfd
            rw [decide_eq_true_eq] at hb1
            have hbm : b ∈ x_sg σ L t := by rw [hb2]; simp
            have hmin : ∀ c ∈ x_sg σ L t, x_P σ c 8 = a2 → x_P σ b 0 ≤ x_P σ c 0 := fun c hc1 hc2 => by
              rw [hb2] at hc1 hrs
              rcases List.mem_append.mp hc1 with q | q
              · have := hb3 c q
                rw [Bool.not_eq_true', decide_eq_false_iff_not] at this
                exact absurd hc2 this
              · rcases List.mem_cons.mp q with rfl | q
                · rw [i_le]; exact Int.le_refl _
                · exact (List.pairwise_cons.mp (List.pairwise_append.mp hrs).2.1).1 c q
            have hm := p_mn (P := x_P σ) ((p_seg (x_P σ) R (x_I σ 4 t) (x_I σ 4 (t + 1))).filter (fun k => decide (x_P σ k 8 = a2))) 64
            simp only at hm
            obtain ⟨⟨m1, m2⟩, m3⟩ := hm
            generalize ((p_seg (x_P σ) R (x_I σ 4 t) (x_I σ 4 (t + 1))).filter (fun k => decide (x_P σ k 8 = a2))).foldl (fun (v : Int32) k => if v ≤ x_P σ k 0 then v else x_P σ k 0) 64 = m at m1 m2 m3 ⊢
            have hbR := m2 b (List.mem_filter.mpr ⟨(seg_perm hL.2.1 _ _).mem_iff.mp hbm, by simpa using hb1⟩)
            have hb64 := (hL.2.2.2.2.2.2.1 b (List.mem_filter.mp hbm).1).1.2.1
            rw [i_eq]
            rcases m3 with m3 | ⟨c, hc1, m3⟩
            · rw [m3, i_le, i_64] at hbR
              omega
            · obtain ⟨hc2, hc3⟩ := List.mem_filter.mp hc1
              have h9 := hmin c ((seg_perm hL.2.1 _ _).mem_iff.mpr hc2) (by simpa using hc3)
              rw [m3] at hbR ⊢
              rw [i_le] at hbR h9
              omega
        rw [if_neg w3]
        refine ⟨-1, rfl, ?_⟩
        by_cases w4 : a3 < 0
        · rw [if_pos w4]
        · rw [if_neg w4, if_neg]
          intro w5
          rw [i_lt, i_0] at w4
          rw [i_le] at w5
          have q0 : ¬ a3.toInt = 0 := fun q => w0 (by rw [i_eq]; exact q)
          have q1 : ¬ a3.toInt = 1 := fun q => w1 (by rw [i_eq]; exact q)
          have q2 : ¬ a3.toInt = 2 := fun q => w2 (by rw [i_eq]; exact q)
          have q3 : ¬ a3.toInt = 3 := fun q => w3 (by rw [i_eq]; exact q)
          have q4 : (3 : Int32).toInt = 3 := rfl
          omega
      · rw [if_neg k1, if_pos (show nI (tc t) ≤ a2 by rw [i_le]; rw [i_lt] at k1; omega)]
        exact ⟨_, rfl, rfl⟩
  · rw [e1, e2, Option.bind_some, Option.bind_some, if01, if01]
    exact ⟨_, rfl, rfl⟩
