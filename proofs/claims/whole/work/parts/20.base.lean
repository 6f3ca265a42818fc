/-! The pure side: what loops over lists of pool indices come to. -/
theorem q_gd_t {α : Type} {b : Bool} {x : Option α} (h : b = true) : q_gd b x = x := by subst h; rfl
theorem q_om_s {α : Type} {o : Option Nat} {k : Nat} {A : Option α} {B : Nat → Option α} (h : o = some k) : q_om o A B = B k := by subst h; rfl
theorem q_om_n {α : Type} {o : Option Nat} {A : Option α} {B : Nat → Option α} (h : o = none) : q_om o A B = A := by subst h; rfl
theorem q_in_of {j n : Nat} (h : j < n) (hn : n < 2 ^ 31) : q_in (nI j) n = true := by
  unfold q_in
  rw [nI_clamp (by omega), Bool.and_eq_true, Bool.not_eq_true', Bool.not_eq_true', decide_eq_false_iff_not, decide_eq_false_iff_not]
  exact ⟨nI_pos (by omega), by omega⟩
theorem q_in_iff {i : Int32} {n : Nat} (hn : n < 2 ^ 31) (h : q_in i n = true) : ∃ j : Nat, j < n ∧ i = nI j := vp_in_of (q_in_vp h) hn
theorem q_lt_of {k n : Nat} (h : k < n) : q_lt k n = true := decide_eq_true h
theorem i_lt {a b : Int32} : a < b ↔ a.toInt < b.toInt := Int32.lt_iff_toInt_lt
theorem i_le {a b : Int32} : a ≤ b ↔ a.toInt ≤ b.toInt := Int32.le_iff_toInt_le
theorem i_eq {a b : Int32} : a = b ↔ a.toInt = b.toInt := Int32.toInt_inj.symm
theorem i_m1 : (-1 : Int32).toInt = -1 := rfl
theorem nI_m1 {n : Nat} (h : n < 2 ^ 31) : ¬ nI n = -1 := fun e => by
  have h1 := nI_toInt h
  rw [e] at h1
  have h2 : (-1 : Int32).toInt = -1 := rfl
  omega
/-- a loop over a list's places, up to place e -/
theorem q_loop {S R : Type} (L : List Nat) (F : Nat → S → Int32 → Option R) (K : S → Option R) (g : S → Nat → S) (I : S → Prop) (e : Nat) (he : e ≤ L.length)
    (hend : ∀ n s, I s → F (n + 1) s (nI e) = K s) (hstep : ∀ n s j k, I s → L[j]? = some k → j < e → F (n + 1) s (nI j) = F n (g s k) (nI (j + 1)) ∧ I (g s k)) :
    ∀ (mid pre : List Nat) (n : Nat) (s : S), L.take e = pre ++ mid → mid.length < n → I s → F n s (nI pre.length) = K (mid.foldl g s) ∧ I (mid.foldl g s) := by
  intro mid
  induction mid with
  | nil =>
    intro pre n s hL hn hI
    obtain ⟨n, rfl⟩ : ∃ m, n = m + 1 := ⟨n - 1, by simp at hn; omega⟩
    have hl : pre.length = e := by
      have h1 := congrArg List.length hL
      simp at h1
      omega
    rw [hl]
    exact ⟨hend n s hI, hI⟩
  | cons k mid ih =>
    intro pre n s hL hn hI
    obtain ⟨n, rfl⟩ : ∃ m, n = m + 1 := ⟨n - 1, by simp at hn; omega⟩
    have hl : pre.length + (mid.length + 1) = e := by
      have h1 := congrArg List.length hL
      simp at h1
      omega
    have hk : L[pre.length]? = some k := by
      have h1 : (L.take e)[pre.length]? = some k := by rw [hL]; simp
      rw [List.getElem?_take] at h1
      rw [if_pos (by omega)] at h1
      exact h1
    obtain ⟨h1, h2⟩ := hstep n s pre.length k hI hk (by omega)
    rw [h1]
    have h3 := ih (pre ++ [k]) n (g s k) (by rw [hL]; simp) (by simp at hn; omega) h2
    rw [List.length_append, List.length_singleton] at h3
    exact h3
/-- the same, over the whole list -/
theorem q_loop0 {S R : Type} (L : List Nat) (F : Nat → S → Int32 → Option R) (K : S → Option R) (g : S → Nat → S) (I : S → Prop)
    (hend : ∀ n s, I s → F (n + 1) s (nI L.length) = K s) (hstep : ∀ n s j k, I s → L[j]? = some k → j < L.length → F (n + 1) s (nI j) = F n (g s k) (nI (j + 1)) ∧ I (g s k))
    (n : Nat) (s : S) (hn : L.length < n) (hI : I s) : F n s (nI 0) = K (L.foldl g s) ∧ I (L.foldl g s) := by
  have h := q_loop L F K g I L.length (Nat.le_refl _) hend hstep L [] n s (by simp) hn hI
  exact h
theorem q_count (p : Nat → Bool) (l : List Nat) (a : Nat) : l.foldl (fun (s : Int32) k => if p k = true then s + 1 else s) (nI a) = nI (a + l.countP p) := by
  induction l generalizing a with
  | nil => rfl
  | cons k l ih =>
    rw [List.foldl_cons, List.countP_cons]
    by_cases h : p k = true
    · rw [if_pos h, if_pos h, ← nI_succ, ih]
      congr 1
      omega
    · rw [if_neg h, if_neg h, ih]
      rfl
/-- the class's slots hold the list L of pool indices -/
def LX (σ : x_T) (L : List Nat) : Prop := x_S σ 4 = nI L.length ∧ L.length ≤ 247 ∧ ∀ j k : Nat, L[j]? = some k → x_E σ j = some k ∧ k < x_N σ
theorem LX.at {σ : x_T} {L : List Nat} (h : LX σ L) {j k : Nat} (hj : L[j]? = some k) : q_in (nI j) 247 = true ∧ x_E σ (nI j).toNatClampNeg = some k ∧ q_lt k (x_N σ) = true ∧ ¬ x_S σ 4 ≤ nI j := by
  have hl : j < L.length := (List.getElem?_eq_some_iff.mp hj).1
  have h1 := h.2.1
  have h2 := h.2.2 j k hj
  refine ⟨q_in_of (by omega) (by omega), by rw [nI_clamp (by omega)]; exact h2.1, q_lt_of h2.2, ?_⟩
  rw [h.1]
  exact nI_ge hl (by omega)
theorem LX.end {σ : x_T} {L : List Nat} (h : LX σ L) : x_S σ 4 ≤ nI L.length := by
  rw [h.1]
  exact nI_le (Nat.le_refl _) (by have := h.2.1; omega)
-- rows in order
def p_rows (P : Nat → Nat → Int32) (L : List Nat) : Prop := L.Pairwise (fun a b => P a 0 ≤ P b 0)
theorem tw_filter {P : Nat → Nat → Int32} {L : List Nat} (h : p_rows P L) (r : Int32) : L.takeWhile (fun k => decide (P k 0 < r)) = L.filter (fun k => decide (P k 0 < r)) := by
  induction L with
  | nil => rfl
  | cons k l ih =>
    have h1 := List.pairwise_cons.mp h
    by_cases hk : P k 0 < r
    · rw [List.takeWhile_cons_of_pos (by simpa using hk), List.filter_cons_of_pos (by simpa using hk), ih h1.2]
    · rw [List.takeWhile_cons_of_neg (by simpa using hk), List.filter_cons_of_neg (by simpa using hk)]
      symm
      rw [List.filter_eq_nil_iff]
      intro a ha
      have h2 := h1.1 a ha
      simp only [decide_eq_true_eq]
      rw [i_lt] at hk ⊢
      rw [i_le] at h2
      omega
theorem dw_filter {P : Nat → Nat → Int32} {L : List Nat} (h : p_rows P L) (r : Int32) : L.dropWhile (fun k => decide (P k 0 < r)) = L.filter (fun k => !decide (P k 0 < r)) := by
  induction L with
  | nil => rfl
  | cons k l ih =>
    have h1 := List.pairwise_cons.mp h
    by_cases hk : P k 0 < r
    · rw [List.dropWhile_cons_of_pos (by simpa using hk), List.filter_cons_of_neg (by simpa using hk), ih h1.2]
    · rw [List.dropWhile_cons_of_neg (by simpa using hk)]
      symm
      rw [List.filter_eq_self]
      intro a ha
      have h3 : ¬ P a 0 < r := by
        rcases List.mem_cons.mp ha with rfl | ha
        · exact hk
        · have h2 := h1.1 a ha
          rw [i_lt] at hk ⊢
          rw [i_le] at h2
          omega
      simp [h3]
def p_seg (P : Nat → Nat → Int32) (L : List Nat) (lo hi : Int32) : List Nat := L.filter (fun k => decide (P k 0 < hi) && !decide (P k 0 < lo))
def p_pre (P : Nat → Nat → Int32) (L : List Nat) (r : Int32) : List Nat := L.filter (fun k => decide (P k 0 < r))
theorem p_split {P : Nat → Nat → Int32} {L : List Nat} (h : p_rows P L) {lo hi : Int32} (hlh : lo ≤ hi) : L.take (p_pre P L hi).length = p_pre P L lo ++ p_seg P L lo hi := by
  have e1 : L.take (p_pre P L hi).length = p_pre P L hi := by
    unfold p_pre
    rw [← tw_filter h]
    have e2 := List.takeWhile_append_dropWhile (p := fun k => decide (P k 0 < hi)) (l := L)
    conv => lhs; arg 2; rw [← e2]
    exact List.take_left
  rw [e1]
  have hs : p_rows P (p_pre P L hi) := List.Pairwise.filter _ h
  have e3 := List.takeWhile_append_dropWhile (p := fun k => decide (P k 0 < lo)) (l := p_pre P L hi)
  rw [← e3, tw_filter hs, dw_filter hs]
  unfold p_pre p_seg
  rw [List.filter_filter, List.filter_filter]
  congr 1
  · refine List.filter_congr (fun a _ => ?_)
    by_cases h1 : P a 0 < lo
    · have h2 : P a 0 < hi := by
        rw [i_lt] at h1 ⊢
        rw [i_le] at hlh
        omega
      simp [h1, h2]
    · simp [h1]
  · refine List.filter_congr (fun a _ => ?_)
    exact Bool.and_comm _ _
theorem p_pre_le (P : Nat → Nat → Int32) (L : List Nat) (r : Int32) : (p_pre P L r).length ≤ L.length := List.length_filter_le _ _
