/-! The reference's reads, over its list L of pool indices and their table P. -/
def p_kind (P : Nat → Nat → Int32) (k : Nat) : Int32 := if P k 4 = 0 then 0 else if P k 1 = -1 then 3 else if P k 3 = -1 then 2 else 1
/-- tablets: first rows fr 0 .. fr T -/
def p_fr (fr : Nat → Int32) (T : Nat) : Prop := 1 ≤ T ∧ T ≤ 8 ∧ fr 0 = 0 ∧ fr T = 64 ∧ ∀ t : Nat, t < T → fr t < fr (t + 1)
theorem p_fr_mono {fr : Nat → Int32} {T : Nat} (h : p_fr fr T) {a b : Nat} (hab : a ≤ b) (hb : b ≤ T) : fr a ≤ fr b := by
  induction b with
  | zero => rw [show a = 0 by omega, i_le]; exact Int.le_refl _
  | succ b ih =>
    by_cases e : a = b + 1
    · rw [e, i_le]; exact Int.le_refl _
    · have h1 := ih (by omega) (by omega)
      have h2 := h.2.2.2.2 b (by omega)
      rw [i_le] at h1 ⊢; rw [i_lt] at h2; omega
theorem p_fr_one {fr : Nat → Int32} {T : Nat} (h : p_fr fr T) {r : Int32} {a b : Nat} (ha : a < T) (hb : b < T) (a1 : fr a ≤ r) (a2 : r < fr (a + 1)) (b1 : fr b ≤ r) (b2 : r < fr (b + 1)) : a = b := by
  rcases Nat.lt_trichotomy a b with q | q | q
  · have h1 := p_fr_mono h (show a + 1 ≤ b by omega) (by omega)
    rw [i_le] at h1 b1; rw [i_lt] at a2; omega
  · exact q
  · have h1 := p_fr_mono h (show b + 1 ≤ a by omega) (by omega)
    rw [i_le] at h1 a1; rw [i_lt] at b2; omega
theorem p_fr_ex {fr : Nat → Int32} {T : Nat} (h : p_fr fr T) {r : Int32} (h0 : 0 ≤ r.toInt) (h1 : r.toInt < 64) : ∃ t : Nat, t < T ∧ fr t ≤ r ∧ r < fr (t + 1) := by
  obtain ⟨k, hk, hl⟩ := pk_least (fun t => r < fr t) ⟨T, by show r < fr T; rw [h.2.2.2.1, i_lt]; show r.toInt < 64; omega⟩
  have hk0 : k ≠ 0 := fun e => by
    rw [e, h.2.2.1, i_lt] at hk
    have : (0 : Int32).toInt = 0 := rfl
    omega
  have hkT : k ≤ T := by
    refine Nat.not_lt.mp (fun q => hl T q ?_)
    rw [h.2.2.2.1, i_lt]; show r.toInt < 64; omega
  have h2 := hl (k - 1) (by omega)
  exact ⟨k - 1, by omega, by rw [i_lt] at h2; rw [i_le]; omega, by rw [show k - 1 + 1 = k by omega]; exact hk⟩
/-- the reference's arrays hold the list L of entries of the table P -/
def LM (τ : m_T) (P : Nat → Nat → Int32) (L : List Nat) (fr : Nat → Int32) (T : Nat) : Prop := m_S τ 0 = nI L.length ∧ L.length ≤ 247 ∧ ∀ i k : Nat, L[i]? = some k → m_I τ 1 i = p_kind P k ∧ m_I τ 2 i = P k 0 ∧ m_I τ 3 i = P k 1 ∧ m_I τ 4 i = P k 3 ∧ m_I τ 5 i = P k 5 ∧ m_I τ 8 i = P k 8 ∧ ∃ t : Nat, t < T ∧ m_I τ 7 i = nI t ∧ fr t ≤ P k 0 ∧ P k 0 < fr (t + 1)
theorem LM.at {τ : m_T} {P : Nat → Nat → Int32} {L : List Nat} {fr : Nat → Int32} {T : Nat} (h : LM τ P L fr T) {j k : Nat} (hj : L[j]? = some k) : q_in (nI j) 256 = true ∧ (nI j).toNatClampNeg = j ∧ ¬ m_S τ 0 ≤ nI j ∧ j < 247 := by
  have hl : j < L.length := (List.getElem?_eq_some_iff.mp hj).1
  have h1 := h.2.1
  refine ⟨q_in_of (by omega) (by omega), nI_clamp (by omega), ?_, by omega⟩
  rw [h.1]
  exact nI_ge hl (by omega)
theorem LM.end {τ : m_T} {P : Nat → Nat → Int32} {L : List Nat} {fr : Nat → Int32} {T : Nat} (h : LM τ P L fr T) : m_S τ 0 ≤ nI L.length := by
  rw [h.1]
  exact nI_le (Nat.le_refl _) (by have := h.2.1; omega)
theorem LM.tab {τ : m_T} {P : Nat → Nat → Int32} {L : List Nat} {fr : Nat → Int32} {T : Nat} (h : LM τ P L fr T) (hf : p_fr fr T) {j k : Nat} (hj : L[j]? = some k) {t : Nat} (ht : t < T) : m_I τ 7 j = nI t ↔ (decide (P k 0 < fr (t + 1)) && !decide (P k 0 < fr t)) = true := by
  obtain ⟨s, hs, e, h1, h2⟩ := (h.2.2 j k hj).2.2.2.2.2.2
  have hT := hf.2.1
  rw [Bool.and_eq_true, Bool.not_eq_true', decide_eq_true_eq, decide_eq_false_iff_not]
  constructor
  · intro q
    rw [e, nI_eq (by omega) (by omega)] at q
    subst q
    exact ⟨h2, by rw [i_lt]; rw [i_le] at h1; omega⟩
  · intro q
    rw [e]
    congr 1
    exact p_fr_one hf hs ht h1 h2 (by rw [i_le]; have := q.2; rw [i_lt] at this; omega) q.1
theorem e_inTable {τ : m_T} {P : Nat → Nat → Int32} {L : List Nat} {fr : Nat → Int32} {T : Nat} (h : LM τ P L fr T) (hf : p_fr fr T) {N : Nat} (hN : 247 < N) {t : Nat} (ht : t < T) (u : Int32) : f_M_inTable N τ (nI t) u = some (nI ((p_seg P L (fr t) (fr (t + 1))).countP (fun k => decide (P k 8 = u)))) := by
  unfold f_M_inTable
  have hL := h.2.1
  have h0 := q_loop0 L (fun n (s : Int32) i => f_M_inTable_L5 N τ (nI t) u (fun v3 => some v3) n s i) (fun s => some s) (fun s k => if (decide (P k 8 = u) && (decide (P k 0 < fr (t + 1)) && !decide (P k 0 < fr t))) = true then s + 1 else s) (fun _ => True)
    (fun n s _ => by show f_M_inTable_L5 N τ _ u _ (n + 1) s _ = _; rw [f_M_inTable_L5, if_pos h.end])
    (fun n s j k _ hj hje => by
      obtain ⟨h1, h2, h3, h4⟩ := h.at hj
      refine ⟨?_, trivial⟩
      show f_M_inTable_L5 N τ _ u _ (n + 1) s _ = f_M_inTable_L5 N τ _ u _ n _ _
      rw [f_M_inTable_L5, if_neg h3, q_gd_t h1, h2, q_gd_t h1, ← nI_succ, (h.2.2 j k hj).2.2.2.2.2.1]
      have ht2 := h.tab hf hj ht
      by_cases hc : m_I τ 7 j = nI t
      · rw [if_pos hc, ht2.mp hc, Bool.and_true]
        by_cases hd : P k 8 = u
        · rw [if_pos hd, if_pos (by simpa using hd)]
        · rw [if_neg hd, if_neg (by simpa using hd)]
          congr 1
          exact Int32.add_zero s
      · rw [if_neg hc, if_neg (fun q => hc (ht2.mpr (by rw [Bool.and_eq_true] at q; exact q.2)))]
        congr 1
        exact Int32.add_zero s)
    N (nI 0) (by omega) trivial
  rw [q_count, Nat.zero_add] at h0
  unfold p_seg
  rw [List.countP_filter]
  exact h0.1
