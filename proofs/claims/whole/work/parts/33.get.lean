/-! get. -/
theorem r_look {j : Nat} {σ : x_T} {τ : m_T} (h : r_R j σ τ) {w : Int32} (h0 : 0 ≤ w.toInt) (h1 : w.toInt < 64) : ∃ σ' τ', f_T_lookFor 1000 σ w = some σ' ∧ f_M_look 1000 τ w = some τ' ∧ r_R j σ' τ' := by
  obtain ⟨hA, hB, hX, hF, hS, L, R, s, T, tc, B, hL, hT, hC, h4, h5⟩ := h
  have hf := hT.2.2.1
  obtain ⟨t, ht, t1, t2⟩ := p_fr_ex hf h0 h1
  have hc := hT.tc hL.1 ht
  obtain ⟨c1, c2⟩ := hT.2.2.2.2.2 t ht
  obtain ⟨f, g, h, e1, e2⟩ := e_lookX hL.1 hL.rows hS hT.1 hf (N := 1000) (by omega) ht t1 t2 c2 hc
  have e3 := e_lookM hT.2.2.2.2.1 hT.2.1 hf hT.2.2.2.1 (N := 1000) (by omega) ht t1 t2 c1 hc
  have hsum : p_sum (fun i => p_blocks (x_P σ) w ((p_seg (x_P σ) R (x_I σ 4 t) (x_I σ 4 (t + 1))).filter (fun k => decide (x_P σ k 8 = nI i)))) (tc t) = p_sum (fun i => p_blocks (x_P σ) w ((x_sg σ L t).filter (fun k => decide (x_P σ k 8 = nI i)))) (tc t) := p_sum_congr _ (fun i hi => p_blocks_perm (List.Perm.filter _ (seg_perm hL.2.1 _ _).symm))
  rw [hsum, hA.2.2.2.2.2] at e3
  exact ⟨_, _, e1, e3, ⟨hA.1, hA.2.1, hA.2.2.1, hA.2.2.2.1, hA.2.2.2.2.1, rfl⟩, hB, hX, hF, e2, L, R, s, T, tc, B, hL, hT, hC, h4, h5⟩
/-- the cell of which n is the number, counted from s -/
def q_pick (n : Int32) : Nat → List Nat → Option Nat
  | _, [] => none
  | s, k :: l => if nI s = n then some k else q_pick n (s + 1) l
theorem q_pick_n {m : Nat} (hm : m < 2 ^ 31) : ∀ (l : List Nat) (s : Nat), s ≤ m → s + l.length < 2 ^ 31 → q_pick (nI m) s l = l[m - s]? := by
  intro l
  induction l with
  | nil => intro s _ _; rw [q_pick]; rfl
  | cons k l ih =>
    intro s hs hl
    rw [List.length_cons] at hl
    rw [q_pick]
    by_cases q : s = m
    · rw [if_pos (by rw [q]), q, Nat.sub_self]
      rfl
    · rw [if_neg (by rw [nI_eq (by omega) hm]; exact q), ih (s + 1) (by omega) (by omega)]
      rw [show m - s = (m - (s + 1)) + 1 by omega]
      rfl
theorem q_pick_neg {n : Int32} (hn : n.toInt < 0) : ∀ (l : List Nat) (s : Nat), s + l.length < 2 ^ 31 → q_pick n s l = none := by
  intro l
  induction l with
  | nil => intro s _; rw [q_pick]
  | cons k l ih =>
    intro s hl
    rw [List.length_cons] at hl
    rw [q_pick, if_neg (fun q => by rw [← q, nI_toInt (by omega)] at hn; omega), ih (s + 1) (by omega)]
theorem e_liveCell_L {σ : x_T} {L : List Nat} (hX : LX σ L) (hok : ∀ k ∈ L, p_ok (x_P σ) k) (N : Nat) (r c at_ n : Int32) (K : Option (Option Nat)) : ∀ (suf pre : List Nat) (m s : Nat), L = pre ++ suf → suf.length < m → f_T_liveCell_L10 N σ r c at_ n K m (nI s) (nI pre.length) = (match q_pick n s ((suf.takeWhile (fun k => decide (x_P σ k 0 = r))).filter (fun k => decide (x_P σ k 1 = c) && (decide (x_P σ k 3 ≤ at_) && p_live (x_P σ) (x_I σ 2) (x_S σ 2) k))) with | some k => some (some k) | none => K) := by
  intro suf
  induction suf with
  | nil =>
    intro pre m s hL hm
    obtain ⟨m, rfl⟩ : ∃ a, m = a + 1 := ⟨m - 1, by simp at hm; omega⟩
    have hl : pre.length = L.length := by rw [hL]; simp
    rw [f_T_liveCell_L10, if_pos (by rw [hl]; exact hX.end)]
    rfl
  | cons k suf ih =>
    intro pre m s hL hm
    obtain ⟨m, rfl⟩ : ∃ a, m = a + 1 := ⟨m - 1, by simp at hm; omega⟩
    have hk : L[pre.length]? = some k := by rw [hL]; simp
    obtain ⟨h1, h2, h3, h4⟩ := hX.at hk
    have hkl := (hX.2.2 _ _ hk).2
    have hlv := e_liveX hkl (hok k (List.mem_of_getElem? hk)) N
    have hnext : ∀ s' : Nat, f_T_liveCell_L10 N σ r c at_ n K m (nI s') (nI (pre.length + 1)) = (match q_pick n s' ((suf.takeWhile (fun k => decide (x_P σ k 0 = r))).filter (fun k => decide (x_P σ k 1 = c) && (decide (x_P σ k 3 ≤ at_) && p_live (x_P σ) (x_I σ 2) (x_S σ 2) k))) with | some k => some (some k) | none => K) := fun s' => by
      have h5 := ih (pre ++ [k]) m s' (by rw [hL]; simp) (by simp at hm; omega)
      rw [List.length_append, List.length_singleton] at h5
      exact h5
    rw [f_T_liveCell_L10, if_neg h4, q_gd_t h1, q_om_s h2, q_gd_t h3, q_gd_t h1, q_om_s h2, q_gd_t h3, ← nI_succ, ← nI_succ, hlv, Option.bind_some]
    by_cases c1 : x_P σ k 0 = r
    · rw [if_pos c1, List.takeWhile_cons_of_pos (by simpa using c1)]
      by_cases c2 : x_P σ k 1 = c
      · rw [if_pos c2]
        by_cases c3 : x_P σ k 3 ≤ at_
        · rw [if_neg (by rw [i_lt]; rw [i_le] at c3; omega)]
          cases c4 : p_live (x_P σ) (x_I σ 2) (x_S σ 2) k with
          | true =>
            rw [if_neg (by decide), List.filter_cons_of_pos (by rw [decide_eq_true c2, decide_eq_true c3, c4]; rfl), q_pick]
            by_cases c5 : nI s = n
            · rw [if_pos c5, if_pos c5]
            · rw [if_neg c5, if_neg c5, hnext]
          | false =>
            rw [if_pos (by decide), List.filter_cons_of_neg (by rw [c4, Bool.and_false, Bool.and_false]; decide), hnext]
        · rw [if_pos (by rw [i_lt]; rw [i_le] at c3; omega), List.filter_cons_of_neg (by rw [decide_eq_false c3, Bool.false_and, Bool.and_false]; decide), hnext]
      · rw [if_neg c2, List.filter_cons_of_neg (by rw [decide_eq_false c2, Bool.false_and]; decide), hnext]
    · rw [if_neg c1, List.takeWhile_cons_of_neg (by simpa using c1)]
      rfl
theorem tw_eq {P : Nat → Nat → Int32} {L : List Nat} (h : p_rows P L) {r : Int32} (hr : ∀ k ∈ L, ¬ P k 0 < r) : L.takeWhile (fun k => decide (P k 0 = r)) = L.filter (fun k => decide (P k 0 = r)) := by
  induction L with
  | nil => rfl
  | cons k l ih =>
    have h1 := List.pairwise_cons.mp h
    by_cases hk : P k 0 = r
    · rw [List.takeWhile_cons_of_pos (by simpa using hk), List.filter_cons_of_pos (by simpa using hk), ih h1.2 (fun a ha => hr a (List.mem_cons_of_mem _ ha))]
    · rw [List.takeWhile_cons_of_neg (by simpa using hk), List.filter_cons_of_neg (by simpa using hk)]
      symm
      rw [List.filter_eq_nil_iff]
      intro a ha
      have h2 := h1.1 a ha
      have h3 := hr k List.mem_cons_self
      simp only [decide_eq_true_eq]
      intro q
      rw [i_eq] at hk q
      rw [i_le] at h2
      rw [i_lt] at h3
      omega
theorem e_liveCell {σ : x_T} {L : List Nat} (hX : LX σ L) (hr : p_rows (x_P σ) L) (hok : ∀ k ∈ L, p_ok (x_P σ) k) {N : Nat} (hN : 247 < N) (r c at_ n : Int32) : f_T_liveCell N σ r c at_ n = some (q_pick n 0 ((p_col (x_P σ) (x_I σ 2) (x_S σ 2) L r c).filter (fun k => decide (x_P σ k 3 ≤ at_)))) := by
  unfold f_T_liveCell
  rw [e_indexOfRow hX hr hN, Option.bind_some]
  have hsp : L = p_pre (x_P σ) L r ++ L.filter (fun k => !decide (x_P σ k 0 < r)) := by
    have e := List.takeWhile_append_dropWhile (p := fun k => decide (x_P σ k 0 < r)) (l := L)
    rw [tw_filter hr, dw_filter hr] at e
    exact e.symm
  have h := e_liveCell_L hX hok N r c at_ n (some none) (L.filter (fun k => !decide (x_P σ k 0 < r))) (p_pre (x_P σ) L r) N 0 hsp (by have := List.length_filter_le (fun k => !decide (x_P σ k 0 < r)) L; have := hX.2.1; omega)
  refine Eq.trans h ?_
  rw [tw_eq (List.Pairwise.filter _ hr) (fun k hk => by have := (List.mem_filter.mp hk).2; rw [Bool.not_eq_true', decide_eq_false_iff_not] at this; exact this), List.filter_filter, List.filter_filter]
  unfold p_col
  rw [List.filter_filter]
  have e : L.filter (fun a => decide (x_P σ a 1 = c) && (decide (x_P σ a 3 ≤ at_) && p_live (x_P σ) (x_I σ 2) (x_S σ 2) a) && decide (x_P σ a 0 = r) && !decide (x_P σ a 0 < r)) = L.filter (fun a => decide (x_P σ a 3 ≤ at_) && (decide (x_P σ a 0 = r) && (decide (x_P σ a 1 = c) && p_live (x_P σ) (x_I σ 2) (x_S σ 2) a))) := by
    refine List.filter_congr (fun a _ => ?_)
    by_cases q : x_P σ a 0 = r
    · have q2 : ¬ x_P σ a 0 < r := by rw [q, i_lt]; omega
      rw [decide_eq_true q, decide_eq_false q2]
      cases decide (x_P σ a 1 = c) <;> cases decide (x_P σ a 3 ≤ at_) <;> cases p_live (x_P σ) (x_I σ 2) (x_S σ 2) a <;> rfl
    · rw [decide_eq_false q, Bool.and_false, Bool.false_and, Bool.false_and, Bool.and_false]
  rw [e]
  cases q_pick n 0 (L.filter (fun a => decide (x_P σ a 3 ≤ at_) && (decide (x_P σ a 0 = r) && (decide (x_P σ a 1 = c) && p_live (x_P σ) (x_I σ 2) (x_S σ 2) a)))) <;> rfl
/-- an entry by its place in the reference, or -1 -/
def q_ix (R : List Nat) (o : Option Nat) (v : Int32) : Prop := (o = none ∧ v = -1) ∨ ∃ k i, o = some k ∧ R[i]? = some k ∧ v = nI i
theorem p_next {P : Nat → Nat → Int32} {S : List Nat} (hd : S.Pairwise (fun a b => (P b 3).toInt < (P a 3).toInt)) {lim : Int32} {k : Nat} {rest : List Nat} (h : S.filter (fun k => decide (P k 3 < lim)) = k :: rest) : S.filter (fun a => decide (P a 3 < P k 3)) = rest := by
  have hp : (k :: rest).Pairwise (fun a b => (P b 3).toInt < (P a 3).toInt) := by rw [← h]; exact List.Pairwise.filter _ hd
  have hk : P k 3 < lim := by
    have : k ∈ S.filter (fun k => decide (P k 3 < lim)) := by rw [h]; exact List.mem_cons_self
    simpa using (List.mem_filter.mp this).2
  have e : S.filter (fun a => decide (P a 3 < P k 3)) = (S.filter (fun a => decide (P a 3 < lim))).filter (fun a => decide (P a 3 < P k 3)) := by
    rw [List.filter_filter]
    refine List.filter_congr (fun a _ => ?_)
    by_cases q : P a 3 < P k 3
    · rw [decide_eq_true q, decide_eq_true (show P a 3 < lim by rw [i_lt] at q hk ⊢; omega), Bool.and_self]
    · rw [decide_eq_false q, Bool.false_and]
  rw [e, h, List.filter_cons_of_neg (by simp only [decide_eq_true_eq]; rw [i_lt]; omega), List.filter_eq_self]
  intro a ha
  have := (List.pairwise_cons.mp hp).1 a ha
  rw [decide_eq_true_eq, i_lt]
  exact this
/-- what the reference's 'below' needs -/
def r_bl (τ : m_T) (P : Nat → Nat → Int32) (R : List Nat) (fr : Nat → Int32) (T : Nat) (ag : Nat → Int32) (cl : Int32) : Prop := LM τ P R fr T ∧ R.Pairwise (fun a b => (P a 6).toInt < (P b 6).toInt) ∧ (∀ k ∈ R, p_ok P k) ∧ (∀ i : Nat, i < 2 → m_I τ 12 i = ag i) ∧ m_S τ 14 = cl ∧ p_cov P ag cl R
theorem p_cov.perm {P : Nat → Nat → Int32} {ag : Nat → Int32} {cl : Int32} {L R : List Nat} (hp : L.Perm R) (h : p_cov P ag cl L) : p_cov P ag cl R := fun k hk h4 ho => by
  rw [h k (hp.mem_iff.mpr hk) h4 ho]
  exact ⟨fun q a ha => q a (hp.mem_iff.mpr ha), fun q a ha => q a (hp.mem_iff.mp ha)⟩
theorem r_R.bl {j s T : Nat} {σ : x_T} {τ : m_T} {L R : List Nat} {tc : Nat → Nat} {B : Nat → Int32} (hA : r_A j σ τ) (hL : r_L j σ L R s) (hT : r_T σ τ L R T tc) (hC : r_C σ τ L R B) : r_bl τ (x_P σ) R (x_I σ 4) T (x_I σ 2) (x_S σ 2) := ⟨hT.2.2.2.2.1, hL.2.2.2.2.2.2.2.2, fun k hk => (hL.2.2.2.2.2.2.1 k (hL.2.1.mem_iff.mpr hk)).1, fun i hi => (hA.2.2.1 i hi).2.1, hA.2.1, hC.1.perm hL.2.1⟩
theorem e_belowI {τ : m_T} {P : Nat → Nat → Int32} {R : List Nat} {fr : Nat → Int32} {T : Nat} {ag : Nat → Int32} {cl : Int32} (h : r_bl τ P R fr T ag cl) {N : Nat} (hN : 247 < N) (r c lim : Int32) {S : List Nat} (hS : ∀ k, k ∈ S ↔ k ∈ R ∧ P k 0 = r ∧ P k 1 = c ∧ p_live P ag cl k = true) (hd : S.Pairwise (fun a b => (P b 3).toInt < (P a 3).toInt)) : ∃ v, f_M_below N τ r c lim = some v ∧ q_ix R (S.filter (fun k => decide (P k 3 < lim))).head? v := by
  rcases e_below h.1 h.2.1 h.2.2.1 h.2.2.2.1 h.2.2.2.2.1 h.2.2.2.2.2 hN r c lim hS hd with ⟨e1, e2⟩ | ⟨k, rest, i, e1, e2, e3⟩
  · exact ⟨-1, e2, Or.inl ⟨by rw [e1]; rfl, rfl⟩⟩
  · exact ⟨nI i, e3, Or.inr ⟨k, i, by rw [e1]; rfl, e2, rfl⟩⟩
theorem e_getL {τ : m_T} {P : Nat → Nat → Int32} {R : List Nat} {fr : Nat → Int32} {T : Nat} {ag : Nat → Int32} {cl : Int32} (h : r_bl τ P R fr T ag cl) {N : Nat} (hN : 247 < N) (r c : Int32) {S : List Nat} (hS : ∀ k, k ∈ S ↔ k ∈ R ∧ P k 0 = r ∧ P k 1 = c ∧ p_live P ag cl k = true) (hd : S.Pairwise (fun a b => (P b 3).toInt < (P a 3).toInt)) {m : Nat} (hm : m < 2 ^ 31) (K : Int32 → Option (Int64 × m_T)) : ∀ (D : List Nat) (n s : Nat) (v lim : Int32), S.filter (fun k => decide (P k 3 < lim)) = D → D.length < n → s ≤ m → q_ix R D.head? v → ∃ w, f_M_get_L71 N τ r c (nI m) K n v (nI s) = K w ∧ q_ix R D[m - s]? w := by
  intro D
  induction D with
  | nil =>
    intro n s v lim hD hn hs hv
    obtain ⟨n, rfl⟩ : ∃ a, n = a + 1 := ⟨n - 1, by simp at hn; omega⟩
    refine ⟨v, ?_, by simpa using hv⟩
    rw [f_M_get_L71]
    by_cases q : nI m ≤ nI s
    · rw [if_pos q]
    · rw [if_neg q, if_pos]
      rcases hv with ⟨_, rfl⟩ | ⟨k, i, e, _⟩
      · decide
      · cases e
  | cons k D ih =>
    intro n s v lim hD hn hs hv
    obtain ⟨n, rfl⟩ : ∃ a, n = a + 1 := ⟨n - 1, by simp at hn; omega⟩
    rw [f_M_get_L71]
    by_cases q : s = m
    · subst q
      rw [if_pos (nI_le (Nat.le_refl _) hm)]
      exact ⟨v, rfl, by rw [Nat.sub_self]; exact hv⟩
    · rw [if_neg (nI_ge (by omega) hm)]
      rcases hv with ⟨e, _⟩ | ⟨k', i, e, hi, rfl⟩
      · cases e
      · cases e
        obtain ⟨a1, a2, a3, a4⟩ := h.1.at hi
        rw [if_neg (nI_pos (by omega)), q_gd_t a1, a2, (h.1.2.2 i k hi).2.2.2.1]
        have hnx := p_next hd hD
        obtain ⟨v', e1, e2⟩ := e_belowI h hN r c (P k 3) hS hd
        rw [e1, Option.bind_some, ← nI_succ]
        rw [hnx] at e2
        obtain ⟨w, e3, e4⟩ := ih n (s + 1) v' (P k 3) hnx (by simp at hn; omega) (by omega) e2
        refine ⟨w, e3, ?_⟩
        rw [show m - s = (m - (s + 1)) + 1 by omega, List.getElem?_cons_succ]
        exact e4
theorem p_col_perm {P : Nat → Nat → Int32} {ag : Nat → Int32} {cl : Int32} {L R : List Nat} (hp : L.Perm R) (r c : Int32) : ∀ k, k ∈ p_col P ag cl L r c ↔ k ∈ R ∧ P k 0 = r ∧ P k 1 = c ∧ p_live P ag cl k = true := fun k => by
  rw [p_col_mem, hp.mem_iff]
theorem sim_get : s_get r_R := fun j σ τ hj h a1 a2 a3 a4 => by
  have hm := sim_mono j σ τ h
  unfold f_T_get f_M_get
  rcases e_isRow a1 with ⟨r1, r2, er, er2⟩ | ⟨r1, er, er2⟩
  · rcases e_isColumn a2 with ⟨c1, c2, ec, ec2⟩ | ⟨c1, ec, ec2⟩
    · rw [er, ec, er2, ec2, Option.bind_some, Option.bind_some, Option.bind_some, Option.bind_some, if11, if11, if11, if11]
      obtain ⟨σ', τ', e1, e2, hR⟩ := r_look h r1 r2
      have hm' := sim_mono j σ' τ' hR
      rw [e1, e2, Option.bind_some, Option.bind_some]
      obtain ⟨hA, hB, hX, hF, hS, L, R, s, T, tc, B, hL, hT, hC, h4, h5⟩ := hR
      have hok : ∀ k ∈ L, p_ok (x_P σ') k := fun k hk => (hL.2.2.2.2.2.2.1 k hk).1
      have hbl := r_R.bl hA hL hT hC
      have hcs := p_col_perm (P := x_P σ') (ag := x_I σ' 2) (cl := x_S σ' 2) hL.2.1 a1 a2
      have hcd := p_col_sorted (ag := x_I σ' 2) (cl := x_S σ' 2) hL.2.2.2.2.2.2.2.1 hok hC.1 a1 a2
      have hlen : (p_col (x_P σ') (x_I σ' 2) (x_S σ' 2) L a1 a2).length ≤ 247 := Nat.le_trans (List.length_filter_le _ _) hL.1.2.1
      rw [e_liveCell hL.1 hL.rows hok (by omega), Option.bind_some]
      by_cases n0 : 0 ≤ a4
      · rw [if_pos n0]
        rw [i_le, i_0] at n0
        obtain ⟨m, hmm, rfl⟩ : ∃ m : Nat, m < 2 ^ 31 ∧ a4 = nI m := nI_of (by rw [i_lt, i_0]; omega)
        -- the limit, in one of three forms
        have main : ∀ lim : Int32, (∀ t : Int32, 0 ≤ t.toInt → t.toInt < 10000 → (t < lim ↔ t ≤ a3)) → ∃ r σ2 τ2, (q_om (q_pick (nI m) 0 ((p_col (x_P σ') (x_I σ' 2) (x_S σ' 2) L a1 a2).filter (fun k => decide (x_P σ' k 3 ≤ a3)))) (some (-1, σ')) (fun k9 => q_gd (q_lt k9 (x_N σ')) <| (f_T_packed (x_P σ' k9 3) (x_P σ' k9 5)).bind fun r12 => some (r12, σ'))) = some (r, σ2) ∧ (f_M_below 1000 τ' a1 a2 lim).bind (fun r8 => f_M_get_L71 1000 τ' a1 a2 (nI m) (fun v6 => (if (0 : Int32) ≤ (v6 : Int32) then q_gd (q_in v6 256) <| q_gd (q_in v6 256) <| some ((4294967296 * ((m_I τ' 4 ((v6 : Int32).toNatClampNeg) : Int32).toInt64)) + (((m_I τ' 5 ((v6 : Int32).toNatClampNeg) : Int32).toInt64) &&& 4294967295), τ') else some (-1, τ'))) 1000 r8 0) = some (r, τ2) ∧ r_R (j + 1) σ2 τ2 := fun lim hlim => by
          have hfe : (p_col (x_P σ') (x_I σ' 2) (x_S σ' 2) L a1 a2).filter (fun k => decide (x_P σ' k 3 ≤ a3)) = (p_col (x_P σ') (x_I σ' 2) (x_S σ' 2) L a1 a2).filter (fun k => decide (x_P σ' k 3 < lim)) := by
            refine List.filter_congr (fun k hk => ?_)
            obtain ⟨k1, k2, k3, k4⟩ := p_col_mem.mp hk
            obtain ⟨_, t1, t2⟩ := p_live_t (hok k k1) k4
            exact decide_eq_decide.mpr (hlim _ t1 t2).symm
          rw [hfe]
          have hlen2 : ((p_col (x_P σ') (x_I σ' 2) (x_S σ' 2) L a1 a2).filter (fun k => decide (x_P σ' k 3 < lim))).length ≤ 247 := Nat.le_trans (List.length_filter_le _ _) hlen
          rw [q_pick_n hmm _ 0 (by omega) (by omega)]
          obtain ⟨v, b1, b2⟩ := e_belowI hbl (N := 1000) (by omega) a1 a2 lim hcs hcd
          rw [b1, Option.bind_some]
          obtain ⟨w, g1, g2⟩ := e_getL hbl (N := 1000) (by omega) a1 a2 hcs hcd hmm (fun v6 => (if (0 : Int32) ≤ (v6 : Int32) then q_gd (q_in v6 256) <| q_gd (q_in v6 256) <| some ((4294967296 * ((m_I τ' 4 ((v6 : Int32).toNatClampNeg) : Int32).toInt64)) + (((m_I τ' 5 ((v6 : Int32).toNatClampNeg) : Int32).toInt64) &&& 4294967295), τ') else some (-1, τ'))) _ 1000 0 v lim rfl (by omega) (by omega) b2
          rcases g2 with ⟨q1, rfl⟩ | ⟨k, i, q1, q2, rfl⟩
          · rw [q1]
            exact ⟨-1, σ', τ', rfl, Eq.trans g1 rfl, hm'⟩
          · rw [q1]
            obtain ⟨i1, i2, i3, i4⟩ := hbl.1.at q2
            obtain ⟨x1, x2, x3, x4, x5, _⟩ := hbl.1.2.2 i k q2
            have hkL := hL.2.1.mem_iff.mpr (List.mem_of_getElem? q2)
            obtain ⟨jj, hjj⟩ := List.getElem?_of_mem hkL
            refine ⟨q_pk (x_P σ' k 3) (x_P σ' k 5), σ', τ', ?_, ?_, hm'⟩
            · rw [q_om_s rfl, q_gd_t (q_lt_of (hL.1.2.2 jj k hjj).2)]
              rfl
            · refine Eq.trans g1 ?_
              show (if (0 : Int32) ≤ nI i then _ else _) = _
              rw [if_pos (nI_pos' (by omega)), q_gd_t i1, q_gd_t i1, i2, x4, x5]
              rfl
        by_cases t0 : a3 ≤ 9999
        · rw [if_pos t0]
          by_cases t1 : 0 ≤ a3
          · rw [if_pos t1]
            rw [i_le, i_9999] at t0
            rw [i_le, i_0] at t1
            obtain ⟨b, hb, rfl⟩ : ∃ b : Nat, b ≤ 9999 ∧ a3 = nI b := ⟨a3.toInt.toNat, by omega, by rw [i_eq, nI_toInt (by omega)]; omega⟩
            exact main (nI b + 1) (fun t q1 q2 => by rw [← nI_succ, i_lt, i_le, nI_toInt (by omega), nI_toInt (by omega)]; omega)
          · rw [if_neg t1]
            rw [i_le, i_0] at t1
            exact main 0 (fun t q1 q2 => by rw [i_lt, i_le, i_0]; omega)
        · rw [if_neg t0]
          rw [i_le, i_9999] at t0
          exact main 10000 (fun t q1 q2 => by rw [i_lt, i_le, i_10000]; omega)
      · rw [if_neg n0]
        rw [i_le, i_0] at n0
        have hlen2 : ((p_col (x_P σ') (x_I σ' 2) (x_S σ' 2) L a1 a2).filter (fun k => decide (x_P σ' k 3 ≤ a3))).length ≤ 247 := Nat.le_trans (List.length_filter_le _ _) hlen
        rw [q_pick_neg (by omega) _ 0 (by omega)]
        exact ⟨-1, σ', τ', rfl, rfl, hm'⟩
    · rw [er, ec, er2, ec2, Option.bind_some, Option.bind_some, Option.bind_some, Option.bind_some, if11, if11, if01, if01]
      exact ⟨-1, σ, τ, rfl, rfl, hm⟩
  · rw [er, er2, Option.bind_some, Option.bind_some, if01, if01]
    exact ⟨-1, σ, τ, rfl, rfl, hm⟩
