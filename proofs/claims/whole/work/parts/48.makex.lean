/-! An entry is made: the class. -/
def x_g (σ : x_T) (S : Nat → Int32) (E : Nat → Option Nat) (N : Nat) (P : Nat → Nat → Int32) : x_T := (S, σ.2.1, σ.2.2.1, E, N, P)
theorem e_unused {σ : x_T} {L : List Nat} (hX : LX σ L) (hP : r_P σ) (hl : L.length < 247) (N : Nat) : ∃ k E1 N1 P1, f_T_unusedEntry N σ = some (some k, x_g σ σ.1 E1 N1 P1) ∧ E1 L.length = some k ∧ (∀ i, i ≠ L.length → E1 i = x_E σ i) ∧ x_N σ ≤ N1 ∧ (∀ i a, E1 i = some a → a < N1) ∧ (∀ i i' a, E1 i = some a → E1 i' = some a → i = i') ∧ k ∉ L ∧ ∀ a ∈ L, P1 a = x_P σ a := by
  have hLN : ∀ a ∈ L, a < x_N σ := fun a ha => by
    obtain ⟨i, hi⟩ := List.getElem?_of_mem ha
    exact (hX.2.2 i a hi).2
  unfold f_T_unusedEntry
  rw [hX.1, q_gd_t (q_in_of hl (by omega)), nI_cl (by omega)]
  cases hE : x_E σ L.length with
  | none =>
    rw [q_om_n rfl, q_gp_of hP.1]
    refine ⟨x_N σ, va_up (x_E σ) L.length (some (x_N σ)), x_N σ + 1, va_up (x_P σ) (x_N σ) (fun _ => 0), rfl, if_pos rfl, fun i hi => if_neg hi, by omega, fun i a ha => ?_, fun i i' a ha ha' => ?_, fun q => absurd (hLN _ q) (by omega), fun a ha => if_neg (fun q => by have := hLN a ha; omega)⟩
    · by_cases q : i = L.length
      · rw [show va_up (x_E σ) L.length (some (x_N σ)) i = some (x_N σ) from if_pos q] at ha
        cases ha
        omega
      · rw [show va_up (x_E σ) L.length (some (x_N σ)) i = x_E σ i from if_neg q] at ha
        have := hP.1 i a ha
        omega
    · by_cases q : i = L.length
      · by_cases q' : i' = L.length
        · omega
        · rw [show va_up (x_E σ) L.length (some (x_N σ)) i = some (x_N σ) from if_pos q] at ha
          rw [show va_up (x_E σ) L.length (some (x_N σ)) i' = x_E σ i' from if_neg q'] at ha'
          cases ha
          have := hP.1 i' _ ha'
          omega
      · rw [show va_up (x_E σ) L.length (some (x_N σ)) i = x_E σ i from if_neg q] at ha
        by_cases q' : i' = L.length
        · rw [show va_up (x_E σ) L.length (some (x_N σ)) i' = some (x_N σ) from if_pos q'] at ha'
          cases ha'
          have := hP.1 i _ ha
          omega
        · rw [show va_up (x_E σ) L.length (some (x_N σ)) i' = x_E σ i' from if_neg q'] at ha'
          exact hP.2 i i' a ha ha'
  | some k =>
    rw [q_om_s rfl]
    refine ⟨k, x_E σ, x_N σ, x_P σ, rfl, hE, fun _ _ => rfl, Nat.le_refl _, hP.1, hP.2, fun q => ?_, fun _ _ => rfl⟩
    obtain ⟨i, hi⟩ := List.getElem?_of_mem q
    have h1 := hP.2 i L.length k (hX.2.2 i k hi).1 hE
    have h2 := (List.getElem?_eq_some_iff.mp hi).1
    omega
def x_beg (s : x_T) (k : Nat) (r c fm tm e sq pl : Int32) : x_T := x_sP (x_sP (x_sP (x_sP (x_sP (x_sP (x_sP (x_sP (x_sP (x_sP (x_sP (x_sP s k 0 r) k 1 c) k 2 fm) k 3 tm) k 4 e) k 5 0) k 6 sq) k 7 pl) k 8 (-1)) k 9 0) k 10 0) k 11 0
def p_pl (r c tm : Int32) : Int32 := ((((r * 9) + c) + 1) * 10001) + (if tm = -1 then 0 else 10000 - tm)
theorem e_beginE {s : x_T} {k : Nat} (hk : k < x_N s) (N : Nat) (r c tm e sq : Int32) (he : e = 0 ∨ e = 1) : f_E_begin N s k r c tm e sq = some (x_beg s k r c (if c < 4 then 0 else 1) tm e sq (p_pl r c tm)) := by
  have hb : q_bz e = true := by
    unfold q_bz
    rcases he with rfl | rfl <;> decide
  have hfam : f_T_familyOf c = some (if c < 4 then 0 else 1) := by
    unfold f_T_familyOf
    by_cases q : c < 4
    · rw [if_pos q, if_neg (by rw [i_le]; rw [i_lt] at q; omega)]
    · rw [if_neg q, if_pos (by rw [i_le]; rw [i_lt] at q; omega)]
  unfold f_E_begin p_pl
  rw [q_gd_t (q_lt_of hk), hfam]
  by_cases q : tm = -1
  · simp only [q_let, Option.bind_some, q_gd_t hb, if_pos q]
    rfl
  · simp only [q_let, Option.bind_some, q_gd_t hb, if_neg q]
    rfl
theorem x_sP_of {s s' : x_T} {k f : Nat} {v : Int32} (h : ∃ P, s' = x_wP s P) : ∃ P, x_sP s' k f v = x_wP s P := by
  obtain ⟨P, rfl⟩ := h
  exact ⟨_, rfl⟩
theorem x_beg_w {s : x_T} {k : Nat} {r c fm tm e sq pl : Int32} : x_beg s k r c fm tm e sq pl = x_wP s (x_P (x_beg s k r c fm tm e sq pl)) := by
  have h : ∃ P, x_beg s k r c fm tm e sq pl = x_wP s P := x_sP_of (x_sP_of (x_sP_of (x_sP_of (x_sP_of (x_sP_of (x_sP_of (x_sP_of (x_sP_of (x_sP_of (x_sP_of (x_sP_of ⟨x_P s, rfl⟩)))))))))))
  obtain ⟨P, h⟩ := h
  rw [h]
  rfl
theorem x_beg_ne {s : x_T} {k a g : Nat} {r c fm tm e sq pl : Int32} (h : ¬ a = k) : x_P (x_beg s k r c fm tm e sq pl) a g = x_P s a g := by
  unfold x_beg
  simp only [x_sP_at, h, false_and, if_false]
theorem x_beg_at {s : x_T} {k : Nat} {r c fm tm e sq pl : Int32} : x_P (x_beg s k r c fm tm e sq pl) k 0 = r ∧ x_P (x_beg s k r c fm tm e sq pl) k 1 = c ∧ x_P (x_beg s k r c fm tm e sq pl) k 2 = fm ∧ x_P (x_beg s k r c fm tm e sq pl) k 3 = tm ∧ x_P (x_beg s k r c fm tm e sq pl) k 4 = e ∧ x_P (x_beg s k r c fm tm e sq pl) k 5 = 0 ∧ x_P (x_beg s k r c fm tm e sq pl) k 6 = sq ∧ x_P (x_beg s k r c fm tm e sq pl) k 7 = pl ∧ x_P (x_beg s k r c fm tm e sq pl) k 8 = -1 ∧ x_P (x_beg s k r c fm tm e sq pl) k 9 = 0 ∧ x_P (x_beg s k r c fm tm e sq pl) k 10 = 0 ∧ x_P (x_beg s k r c fm tm e sq pl) k 11 = 0 := by
  unfold x_beg
  refine ⟨?_, ?_, ?_, ?_, ?_, ?_, ?_, ?_, ?_, ?_, ?_, ?_⟩ <;> simp only [x_sP_at, true_and, Nat.reduceEqDiff, if_true, if_false]
theorem e_coverE {s : x_T} {L : List Nat} (hX : LX s L) {k : Nat} (hk : k < x_N s) {N : Nat} (hN : 247 < N) (K : x_T → Option (Option Nat × x_T)) : ∃ P3, f_T_makeEntry_L47 N k K N 0 s = K (x_wP s P3) ∧ ∀ a g, P3 a g = if g = 10 ∧ a ∈ L ∧ p_cv (x_P s) k a = true then 1 else x_P s a g := by
  have hL := hX.2.1
  obtain ⟨s', e1, P3, rfl, e2⟩ := q_inv (fun n (s : x_T) i => f_T_makeEntry_L47 N k K n i s) K (fun j s' => ∃ P', s' = x_wP s P' ∧ ∀ a g, P' a g = if g = 10 ∧ a ∈ L.take j ∧ p_cv (x_P s) k a = true then 1 else x_P s a g) L.length
    (fun n s' hI => by
      obtain ⟨P', rfl, _⟩ := hI
      show f_T_makeEntry_L47 N k K (n + 1) _ _ = _
      rw [f_T_makeEntry_L47, if_pos (show x_S (x_wP s P') 4 ≤ nI L.length from hX.end)])
    (fun n s' j hj hI => by
      obtain ⟨P', rfl, hP⟩ := hI
      obtain ⟨a, ha⟩ : ∃ a, L[j]? = some a := ⟨_, List.getElem?_eq_getElem hj⟩
      have hXs : LX (x_wP s P') L := hX
      obtain ⟨h1, h2, h3, h4⟩ := hXs.at ha
      have hcv : p_cv P' k a = p_cv (x_P s) k a := by
        have hne : ∀ b g, g ≠ 10 → P' b g = x_P s b g := fun b g hg => by rw [hP, if_neg (fun q => hg q.1)]
        unfold p_cv
        rw [hne _ _ (show 0 ≠ 10 by decide), hne _ _ (show 0 ≠ 10 by decide), hne _ _ (show 1 ≠ 10 by decide), hne _ _ (show 1 ≠ 10 by decide), hne _ _ (show 3 ≠ 10 by decide), hne _ _ (show 3 ≠ 10 by decide), hne _ _ (show 6 ≠ 10 by decide), hne _ _ (show 6 ≠ 10 by decide)]
      have hcx := e_cvX (σ := x_wP s P') (a := k) (k := a) hk (hX.2.2 j a ha).2 N
      rw [show x_P (x_wP s P') = P' from rfl, hcv] at hcx
      show ∃ s', f_T_makeEntry_L47 N k K (n + 1) _ _ = f_T_makeEntry_L47 N k K n _ s' ∧ _
      rw [f_T_makeEntry_L47, if_neg h4, q_gd_t h1, q_om_s h2, q_gd_t (show q_lt k (x_N (x_wP s P')) = true from q_lt_of hk), hcx, Option.bind_some, q_gd_t h1, q_om_s h2, q_gd_t h3, ← nI_succ]
      unfold q_let
      cases c : p_cv (x_P s) k a with
      | true =>
        rw [if_neg (show ¬ (if true = true then (1 : Int32) else 0) = 0 by decide)]
        refine ⟨_, rfl, x_P (x_sP (x_wP s P') a 10 1), rfl, fun b g => ?_⟩
        rw [x_sP_at]
        by_cases q : b = a ∧ g = 10
        · rw [if_pos q, if_pos ⟨q.2, by rw [take_s ha]; exact List.mem_append.mpr (Or.inr (by rw [q.1]; exact List.mem_singleton.mpr rfl)), by rw [q.1]; exact c⟩]
        · rw [if_neg q]
          show P' b g = _
          rw [hP]
          by_cases q2 : g = 10 ∧ b ∈ L.take j ∧ p_cv (x_P s) k b = true
          · rw [if_pos q2, if_pos ⟨q2.1, by rw [take_s ha]; exact List.mem_append.mpr (Or.inl q2.2.1), q2.2.2⟩]
          · rw [if_neg q2, if_neg]
            intro z
            have z2 := z.2.1
            rw [take_s ha] at z2
            rcases List.mem_append.mp z2 with z3 | z3
            · exact q2 ⟨z.1, z3, z.2.2⟩
            · exact q ⟨List.mem_singleton.mp z3, z.1⟩
      | false =>
        rw [if_pos (show (if false = true then (1 : Int32) else 0) = 0 by decide)]
        refine ⟨_, rfl, P', rfl, fun b g => ?_⟩
        rw [hP]
        by_cases q2 : g = 10 ∧ b ∈ L.take j ∧ p_cv (x_P s) k b = true
        · rw [if_pos q2, if_pos ⟨q2.1, by rw [take_s ha]; exact List.mem_append.mpr (Or.inl q2.2.1), q2.2.2⟩]
        · rw [if_neg q2, if_neg]
          intro z
          have z2 := z.2.1
          rw [take_s ha] at z2
          rcases List.mem_append.mp z2 with z3 | z3
          · exact q2 ⟨z.1, z3, z.2.2⟩
          · have z4 := z.2.2
            rw [List.mem_singleton.mp z3, c] at z4
            exact absurd z4 (by decide))
    L.length 0 N s (by omega) (by omega) ⟨x_P s, rfl, fun a g => by rw [if_neg (fun q => by have := q.2.1; simp at this)]⟩
  rw [List.take_length] at e2
  exact ⟨P3, by rw [nI_0] at e1; exact e1, e2⟩
theorem e_insertL {s : x_T} {A Bs : List Nat} {k : Nat} (hl : (A ++ Bs).length < 247) (hN : ∀ a ∈ A ++ Bs, a < x_N s) (hk : k < x_N s) (hA : ∀ a ∈ A, x_P s a 7 < x_P s k 7) (hB : ∀ b ∈ Bs, ¬ x_P s b 7 < x_P s k 7) (N : Nat) (K : Int32 → x_T → Option x_T) (E0 : Nat → Option Nat) : ∀ (m n : Nat) (E : Nat → Option Nat), m ≤ Bs.length → m < n → (∀ x a : Nat, x < A.length + m → (A ++ Bs)[x]? = some a → E x = some a) → (∀ x a : Nat, A.length + m ≤ x → (A ++ Bs)[x]? = some a → E (x + 1) = some a) → (∀ x, (A ++ Bs).length < x → E x = E0 x) → ∃ E', f_T_insert_L5 N k K n (nI (A.length + m)) (x_eE s E) = K (nI A.length) (x_eE s E') ∧ (∀ x a : Nat, x < A.length → (A ++ Bs)[x]? = some a → E' x = some a) ∧ (∀ x a : Nat, A.length ≤ x → (A ++ Bs)[x]? = some a → E' (x + 1) = some a) ∧ (∀ x, (A ++ Bs).length < x → E' x = E0 x) := by
  have hlen : (A ++ Bs).length = A.length + Bs.length := List.length_append
  intro m
  induction m with
  | zero =>
    intro n E _ hn h1 h2 h3
    obtain ⟨n, rfl⟩ : ∃ a, n = a + 1 := ⟨n - 1, by omega⟩
    refine ⟨E, ?_, h1, h2, h3⟩
    rw [f_T_insert_L5, Nat.add_zero]
    by_cases c : A.length = 0
    · rw [c, if_pos (show nI 0 ≤ 0 by decide)]
    · obtain ⟨q, hq⟩ : ∃ q, A.length = q + 1 := ⟨A.length - 1, by omega⟩
      obtain ⟨a, ha⟩ : ∃ a, A[q]? = some a := ⟨_, List.getElem?_eq_getElem (by omega)⟩
      have ha2 : (A ++ Bs)[q]? = some a := by rw [List.getElem?_append_left (by omega)]; exact ha
      have haA := List.mem_of_getElem? ha
      rw [hq, if_neg (nI_nle (by omega) (by omega)), nI_pred, q_gd_t (q_in_of (show q < 247 by omega) (by omega)), nI_cl (by omega), q_om_s (show x_E (x_eE s E) q = some a from h1 q a (by omega) ha2), q_gd_t (show q_lt a (x_N (x_eE s E)) = true from q_lt_of (hN a (List.mem_append.mpr (Or.inl haA)))), q_gd_t (show q_lt k (x_N (x_eE s E)) = true from q_lt_of hk), if_pos (show x_P (x_eE s E) a 7 < x_P (x_eE s E) k 7 from hA a haA)]
  | succ m ih =>
    intro n E hm hn h1 h2 h3
    obtain ⟨n, rfl⟩ : ∃ a, n = a + 1 := ⟨n - 1, by omega⟩
    obtain ⟨b, hb⟩ : ∃ b, Bs[m]? = some b := ⟨_, List.getElem?_eq_getElem (by omega)⟩
    have hb2 : (A ++ Bs)[A.length + m]? = some b := by rw [List.getElem?_append_right (by omega), show A.length + m - A.length = m by omega]; exact hb
    have hbB := List.mem_of_getElem? hb
    have hbN : q_lt b (x_N (x_eE s E)) = true := q_lt_of (hN b (List.mem_append.mpr (Or.inr hbB)))
    have hEb : x_E (x_eE s E) (A.length + m) = some b := h1 (A.length + m) b (by omega) hb2
    obtain ⟨E', i1, i2⟩ := ih n (va_up E (A.length + m + 1) (some b)) (by omega) (by omega) (fun x a hx ha => by
      rw [show va_up E (A.length + m + 1) (some b) x = E x from if_neg (by omega)]
      exact h1 x a (by omega) ha) (fun x a hx ha => by
      by_cases q : x = A.length + m
      · subst q
        obtain rfl : b = a := Option.some.inj (hb2.symm.trans ha)
        exact if_pos rfl
      · rw [show va_up E (A.length + m + 1) (some b) (x + 1) = E (x + 1) from if_neg (by omega)]
        exact h2 x a (by omega) ha) (fun x hx => by
      rw [show va_up E (A.length + m + 1) (some b) x = E x from if_neg (by omega)]
      exact h3 x hx)
    refine ⟨E', ?_, i2⟩
    rw [show A.length + (m + 1) = A.length + m + 1 by omega, f_T_insert_L5, if_neg (nI_nle (by omega) (by omega)), nI_pred, q_gd_t (q_in_of (show A.length + m < 247 by omega) (by omega)), nI_cl (show A.length + m < 2 ^ 31 by omega), q_om_s hEb, q_gd_t hbN, q_gd_t (show q_lt k (x_N (x_eE s E)) = true from q_lt_of hk), if_neg (show ¬ x_P (x_eE s E) b 7 < x_P (x_eE s E) k 7 from hB b hbB), q_om_s hEb, q_gd_t hbN, q_gd_t (q_in_of (show A.length + m + 1 < 247 by omega) (by omega)), nI_cl (show A.length + m + 1 < 2 ^ 31 by omega), nI_dec, nI_pred, q_gd_t (q_in_of (show A.length + m < 247 by omega) (by omega))]
    exact i1
