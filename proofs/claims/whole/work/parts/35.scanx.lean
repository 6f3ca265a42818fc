/-! scan: the class's walk. -/
theorem x_place (r c t : Int32) : (r * 8 + c) * 10000 + t = 80000 * r + 10000 * c + t := by
  rw [Int32.add_mul, Int32.mul_assoc, Int32.mul_comm r, Int32.mul_comm c, show (8 * 10000 : Int32) = 80000 from by decide]
theorem e_scanX {σ : x_T} {L : List Nat} (hX : LX σ L) (hok : ∀ k ∈ L, p_ok (x_P σ) k) {N : Nat} (hN : 247 < N) (a3 a4 a5 p ql : Int32) (K : x_T → Option (Int32 × x_T)) : ∃ f, f_T_scan_L60 N a3 a4 a5 p ql K N 0 (x_sS σ 11 0) = K (x_wR σ f (nI (L.filter (fun k => p_sc (x_P σ) (x_I σ 2) (x_S σ 2) p a3 a4 a5 k && !decide (ql < x_P σ k 0))).length)) ∧ ∀ i k : Nat, (L.filter (fun k => p_sc (x_P σ) (x_I σ 2) (x_S σ 2) p a3 a4 a5 k && !decide (ql < x_P σ k 0)))[i]? = some k → f i = q_pk (80000 * x_P σ k 0 + 10000 * x_P σ k 1 + x_P σ k 3) (x_P σ k 5) := by
  have hL := hX.2.1
  generalize hcd : (fun k => p_sc (x_P σ) (x_I σ 2) (x_S σ 2) p a3 a4 a5 k && !decide (ql < x_P σ k 0)) = cd
  obtain ⟨s', e1, f, e2, e3⟩ := q_inv (fun n (s : x_T) i => f_T_scan_L60 N a3 a4 a5 p ql K n i s) K (fun j s => ∃ f, s = x_wR σ f (nI ((L.take j).filter cd).length) ∧ ∀ i k : Nat, ((L.take j).filter cd)[i]? = some k → f i = q_pk (80000 * x_P σ k 0 + 10000 * x_P σ k 1 + x_P σ k 3) (x_P σ k 5)) L.length
    (fun n s hI => by
      obtain ⟨f, rfl, _⟩ := hI
      show f_T_scan_L60 N a3 a4 a5 p ql K (n + 1) _ _ = _
      rw [f_T_scan_L60, if_pos (show x_S (x_wR σ f (nI ((L.take L.length).filter cd).length)) 4 ≤ nI L.length from hX.end)])
    (fun n s j hj hI => by
      obtain ⟨f, rfl, hf⟩ := hI
      obtain ⟨k, hk⟩ : ∃ k, L[j]? = some k := ⟨_, List.getElem?_eq_getElem hj⟩
      have hkL := List.mem_of_getElem? hk
      have hlen : ((L.take j).filter cd).length ≤ j := Nat.le_trans (List.length_filter_le _ _) (by simp; omega)
      have hXs : LX (x_wR σ f (nI ((L.take j).filter cd).length)) L := hX
      obtain ⟨h1, h2, h3, h4⟩ := hXs.at hk
      have hlv := e_liveX (σ := x_wR σ f (nI ((L.take j).filter cd).length)) (hX.2.2 j k hk).2 (hok k hkL) N
      have hadd : cd k = true → ∃ s', f_T_addToResult N (x_wR σ f (nI ((L.take j).filter cd).length)) k = some s' ∧ ∃ f, s' = x_wR σ f (nI ((L.take (j + 1)).filter cd).length) ∧ ∀ i k : Nat, ((L.take (j + 1)).filter cd)[i]? = some k → f i = q_pk (80000 * x_P σ k 0 + 10000 * x_P σ k 1 + x_P σ k 3) (x_P σ k 5) := fun hc => by
        have etk : (L.take (j + 1)).filter cd = (L.take j).filter cd ++ [k] := by
          rw [take_s hk, List.filter_append, List.filter_cons_of_pos hc]
          rfl
        refine ⟨x_wR σ (vp_updL f ((L.take j).filter cd).length (q_pk (80000 * x_P σ k 0 + 10000 * x_P σ k 1 + x_P σ k 3) (x_P σ k 5))) (nI (((L.take j).filter cd).length + 1)), ?_, _, by rw [etk, List.length_append, List.length_singleton], fun i a ha => ?_⟩
        · unfold f_T_addToResult
          rw [show x_S (x_wR σ f (nI ((L.take j).filter cd).length)) 11 = nI ((L.take j).filter cd).length from rfl, if_neg (show ¬ (247 : Int32) ≤ nI ((L.take j).filter cd).length by rw [show (247 : Int32) = nI 247 from rfl, nI_leI (by omega) (by omega)]; omega), q_gd_t h3]
          unfold f_T_packed
          rw [Option.bind_some, q_gd_t (q_in_of (by omega) (by omega)), nI_cl (by omega)]
          show some (x_sS (x_sL (x_wR σ f (nI ((L.take j).filter cd).length)) 10 ((L.take j).filter cd).length (4294967296 * ((x_P (x_wR σ f (nI ((L.take j).filter cd).length)) k 0 * 8 + x_P (x_wR σ f (nI ((L.take j).filter cd).length)) k 1) * 10000 + x_P (x_wR σ f (nI ((L.take j).filter cd).length)) k 3).toInt64 + ((x_P (x_wR σ f (nI ((L.take j).filter cd).length)) k 5).toInt64 &&& 4294967295))) 11 (nI ((L.take j).filter cd).length + 1)) = _
          rw [x_wR_s, ← nI_succ]
          rw [show ((x_P (x_wR σ f (nI ((L.take j).filter cd).length)) k 0 * 8 + x_P (x_wR σ f (nI ((L.take j).filter cd).length)) k 1) * 10000 + x_P (x_wR σ f (nI ((L.take j).filter cd).length)) k 3) = 80000 * x_P σ k 0 + 10000 * x_P σ k 1 + x_P σ k 3 from x_place _ _ _]
          rfl
        · rw [etk] at ha
          by_cases hi : i = ((L.take j).filter cd).length
          · subst hi
            rw [List.getElem?_append_right (Nat.le_refl _), Nat.sub_self] at ha
            obtain rfl : k = a := Option.some.inj ha
            exact pk_uLs
          · have hl : i < ((L.take j).filter cd).length := by
              have := (List.getElem?_eq_some_iff.mp ha).1
              rw [List.length_append, List.length_singleton] at this
              omega
            rw [List.getElem?_append_left hl] at ha
            rw [pk_uLn hi]
            exact hf i a ha
      have hno : cd k = false → ∃ f', x_wR σ f (nI ((L.take j).filter cd).length) = x_wR σ f' (nI ((L.take (j + 1)).filter cd).length) ∧ ∀ i k : Nat, ((L.take (j + 1)).filter cd)[i]? = some k → f' i = q_pk (80000 * x_P σ k 0 + 10000 * x_P σ k 1 + x_P σ k 3) (x_P σ k 5) := fun hc => by
        have etk : (L.take (j + 1)).filter cd = (L.take j).filter cd := by
          rw [take_s hk, List.filter_append, List.filter_cons_of_neg (by rw [hc]; decide)]
          simp
        rw [etk]
        exact ⟨f, rfl, hf⟩
      have hcdk : cd k = (p_sc (x_P σ) (x_I σ 2) (x_S σ 2) p a3 a4 a5 k && !decide (ql < x_P σ k 0)) := by rw [← hcd]
      unfold p_sc at hcdk
      show ∃ s', f_T_scan_L60 N a3 a4 a5 p ql K (n + 1) _ _ = f_T_scan_L60 N a3 a4 a5 p ql K n _ s' ∧ _
      rw [f_T_scan_L60, if_neg h4, q_gd_t h1, q_om_s h2, q_gd_t h3, hlv, Option.bind_some, ← nI_succ]
      rw [show x_P (x_wR σ f (nI ((L.take j).filter cd).length)) = x_P σ from rfl, show x_I (x_wR σ f (nI ((L.take j).filter cd).length)) 2 = x_I σ 2 from rfl, show x_S (x_wR σ f (nI ((L.take j).filter cd).length)) 2 = x_S σ 2 from rfl]
      by_cases c1 : x_P σ k 0 < p
      · rw [decide_eq_true c1, Bool.not_true, Bool.false_and, Bool.false_and] at hcdk
        rw [if_pos c1]
        exact ⟨_, rfl, hno hcdk⟩
      rw [decide_eq_false c1, Bool.not_false, Bool.true_and] at hcdk
      rw [if_neg c1]
      by_cases c2 : ql < x_P σ k 0
      · rw [decide_eq_true c2, Bool.not_true, Bool.and_false] at hcdk
        rw [if_pos c2]
        exact ⟨_, rfl, hno hcdk⟩
      rw [decide_eq_false c2, Bool.not_false, Bool.and_true] at hcdk
      rw [if_neg c2]
      by_cases c3 : x_P σ k 3 < a4
      · rw [decide_eq_false (show ¬ a4 ≤ x_P σ k 3 by rw [i_le]; rw [i_lt] at c3; omega), Bool.false_and, Bool.and_false] at hcdk
        rw [if_pos c3]
        exact ⟨_, rfl, hno hcdk⟩
      rw [decide_eq_true (show a4 ≤ x_P σ k 3 by rw [i_le]; rw [i_lt] at c3; omega), Bool.true_and] at hcdk
      rw [if_neg c3]
      by_cases c4 : a5 < x_P σ k 3
      · rw [decide_eq_false (show ¬ x_P σ k 3 ≤ a5 by rw [i_le]; rw [i_lt] at c4; omega), Bool.false_and, Bool.and_false] at hcdk
        rw [if_pos c4]
        exact ⟨_, rfl, hno hcdk⟩
      rw [decide_eq_true (show x_P σ k 3 ≤ a5 by rw [i_le]; rw [i_lt] at c4; omega), Bool.true_and] at hcdk
      rw [if_neg c4]
      by_cases c5 : a3 = -1
      · rw [decide_eq_true c5, Bool.true_or, Bool.true_and] at hcdk
        rw [if_pos c5]
        cases c6 : p_live (x_P σ) (x_I σ 2) (x_S σ 2) k with
        | false =>
          rw [c6] at hcdk
          rw [if_pos (show (if false = true then (1 : Int32) else 0) = 0 by decide)]
          exact ⟨_, rfl, hno hcdk⟩
        | true =>
          rw [c6] at hcdk
          obtain ⟨s', q1, q2⟩ := hadd hcdk
          rw [if_neg (show ¬ (if true = true then (1 : Int32) else 0) = 0 by decide), q1, Option.bind_some]
          exact ⟨_, rfl, q2⟩
      rw [decide_eq_false c5, Bool.false_or] at hcdk
      rw [if_neg c5]
      by_cases c7 : x_P σ k 1 = a3
      · rw [decide_eq_true c7, Bool.true_and] at hcdk
        rw [if_pos c7]
        cases c6 : p_live (x_P σ) (x_I σ 2) (x_S σ 2) k with
        | false =>
          rw [c6] at hcdk
          rw [if_pos (show (if false = true then (1 : Int32) else 0) = 0 by decide)]
          exact ⟨_, rfl, hno hcdk⟩
        | true =>
          rw [c6] at hcdk
          obtain ⟨s', q1, q2⟩ := hadd hcdk
          rw [if_neg (show ¬ (if true = true then (1 : Int32) else 0) = 0 by decide), q1, Option.bind_some]
          exact ⟨_, rfl, q2⟩
      · rw [decide_eq_false c7, Bool.false_and] at hcdk
        rw [if_neg c7]
        exact ⟨_, rfl, hno hcdk⟩)
    L.length 0 N (x_sS σ 11 0) (by omega) (by omega) ⟨x_L σ 10, by
      rw [← x_wR_id (σ := x_sS σ 11 0)]
      unfold x_wR
      refine Prod.ext ?_ rfl
      exact (bx_uu _ _ _ _).symm ▸ rfl, fun i k hk => by simp at hk⟩
  rw [List.take_length] at e2 e3
  exact ⟨f, by rw [← e2]; exact e1, e3⟩
