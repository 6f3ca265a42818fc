/-! The reference's closing of gaps; both sides. -/
def q_set (u v x : Int32) : Int32 := if x = v then u else x
theorem m_wI_w {τ : m_T} {a : Nat} {f g : Nat → Int32} : m_wI (m_wI τ a f) a g = m_wI τ a g := by
  unfold m_wI
  exact Prod.ext rfl (bx_uu _ _ _ _)
theorem e_close26 {τ : m_T} {P : Nat → Nat → Int32} {R : List Nat} {fr : Nat → Int32} {T : Nat} (h : LM τ P R fr T) (hf : p_fr fr T) {N : Nat} (hN : 247 < N) {t : Nat} (ht : t < T) (u v : Int32) (K : m_T → Option m_T) : ∃ g, f_M_close_L26 N (nI t) u v K N 0 τ = K (m_wI τ 8 g) ∧ ∀ i k : Nat, R[i]? = some k → g i = if k ∈ p_seg P R (fr t) (fr (t + 1)) then q_set u v (P k 8) else P k 8 := by
  have hL := h.2.1
  obtain ⟨s', e1, g, rfl, e2⟩ := q_inv (fun n (s : m_T) i => f_M_close_L26 N (nI t) u v K n i s) K (fun j s => ∃ g, s = m_wI τ 8 g ∧ ∀ i k : Nat, R[i]? = some k → g i = if i < j ∧ k ∈ p_seg P R (fr t) (fr (t + 1)) then q_set u v (P k 8) else P k 8) R.length
    (fun n s hI => by
      obtain ⟨g, rfl, _⟩ := hI
      show f_M_close_L26 N _ u v K (n + 1) _ _ = _
      rw [f_M_close_L26, if_pos (show m_S (m_wI τ 8 g) 0 ≤ nI R.length from h.end)])
    (fun n s j hj hI => by
      obtain ⟨g, rfl, hg⟩ := hI
      obtain ⟨k, hk⟩ : ∃ k, R[j]? = some k := ⟨_, List.getElem?_eq_getElem hj⟩
      obtain ⟨g1, g2, g3, g4⟩ := h.at hk
      have ht2 := h.tab hf hk ht
      have hmem := p_seg_mem (P := P) (lo := fr t) (hi := fr (t + 1)) (List.mem_of_getElem? hk)
      have hg8 : g j = P k 8 := by rw [hg j k hk, if_neg (fun q => absurd q.1 (by omega))]
      have ug : ∀ x, x = g j → upd g j x = g := fun x hx => by
        funext i
        by_cases q : i = j
        · rw [q, upd_s]; exact hx
        · exact pk_un q
      have step : f_M_close_L26 N (nI t) u v K (n + 1) (nI j) (m_wI τ 8 g) = f_M_close_L26 N (nI t) u v K n (nI (j + 1)) (m_wI τ 8 (upd g j (if k ∈ p_seg P R (fr t) (fr (t + 1)) then q_set u v (P k 8) else P k 8))) := by
        rw [f_M_close_L26, if_neg (show ¬ m_S (m_wI τ 8 g) 0 ≤ nI j from g3)]
        simp only [q_gd_t g1, g2, q_let, m_wI_s, ← nI_succ]
        by_cases c1 : m_I τ 7 j = nI t
        · rw [if_pos (show m_I (m_wI τ 8 g) 7 j = nI t from c1), if_pos (hmem.mpr (ht2.mp c1))]
          unfold q_set
          by_cases c2 : P k 8 = v
          · rw [if_pos (show m_I (m_wI τ 8 g) 8 j = v from hg8.trans c2), if_pos c2]
          · rw [if_neg (show ¬ m_I (m_wI τ 8 g) 8 j = v from fun q => c2 (hg8.symm.trans q)), if_neg c2, ug _ hg8.symm]
        · rw [if_neg (show ¬ m_I (m_wI τ 8 g) 7 j = nI t from c1), if_neg (fun q => c1 (ht2.mpr (hmem.mp q))), ug _ hg8.symm]
      refine ⟨_, step, _, rfl, fun i a ha => ?_⟩
      by_cases hij : i = j
      · subst hij
        obtain rfl : a = k := Option.some.inj (ha.symm.trans hk)
        rw [upd_s]
        by_cases q : a ∈ p_seg P R (fr t) (fr (t + 1))
        · rw [if_pos q, if_pos ⟨by omega, q⟩]
        · rw [if_neg q, if_neg (fun z => q z.2)]
      · rw [pk_un hij, hg i a ha]
        by_cases q : i < j ∧ a ∈ p_seg P R (fr t) (fr (t + 1))
        · rw [if_pos q, if_pos ⟨by omega, q.2⟩]
        · rw [if_neg q, if_neg (fun z => q ⟨by omega, z.2⟩)])
    R.length 0 N τ (by omega) (by omega) ⟨m_I τ 8, m_wI_id.symm, fun i k hk => by rw [if_neg (fun q => absurd q.1 (by omega))]; exact (h.2.2 i k hk).2.2.2.2.2.1⟩
  refine ⟨g, by rw [nI_0] at e1; exact e1, fun i k hk => ?_⟩
  have hi : i < R.length := (List.getElem?_eq_some_iff.mp hk).1
  rw [e2 i k hk]
  by_cases q : k ∈ p_seg P R (fr t) (fr (t + 1))
  · rw [if_pos ⟨hi, q⟩, if_pos q]
  · rw [if_neg (fun z => q z.2), if_neg q]
def q_chi (emp : Nat → Bool) (j : Nat) (v : Int32) : Int32 := if v < 0 then v else if v.toNatClampNeg < j then nI (q_ne emp 0 v.toNatClampNeg) else v
theorem q_chi_neg {emp : Nat → Bool} {m : Nat} {v : Int32} (h : v < 0) : q_chi emp m v = v := if_pos h
theorem q_chi_n {emp : Nat → Bool} {m x : Nat} (h : x < 2 ^ 31) : q_chi emp m (nI x) = if x < m then nI (q_ne emp 0 x) else nI x := by
  unfold q_chi
  rw [if_neg (nI_pos h), nI_cl h]
theorem q_chi_eq {emp : Nat → Bool} {m c : Nat} (hc : c < 2 ^ 20) (hm : m < 2 ^ 20) {v : Int32} (hv : q_tv v c) : q_chi emp m v = nI m ↔ v = nI m := by
  rcases hv with rfl | ⟨x, hx, rfl⟩
  · rw [q_chi_neg (by decide)]
  · have hle := q_ne_le (emp := emp) (m := 0) (x := x)
    rw [q_chi_n (by omega)]
    by_cases q : x < m
    · rw [if_pos q, nI_eq (by omega) (by omega), nI_eq (by omega) (by omega)]
      omega
    · rw [if_neg q]
theorem q_chi_set {emp : Nat → Bool} {m c : Nat} (hc : c < 2 ^ 20) (hm : m < 2 ^ 20) {v : Int32} (hv : q_tv v c) : q_set (nI (q_ne emp 0 m)) (nI m) (q_chi emp m v) = q_chi emp (m + 1) v := by
  unfold q_set
  by_cases q : v = nI m
  · rw [if_pos ((q_chi_eq hc hm hv).mpr q), q, q_chi_n (by omega), if_pos (by omega)]
  · rw [if_neg (fun z => q ((q_chi_eq hc hm hv).mp z))]
    rcases hv with rfl | ⟨x, hx, rfl⟩
    · rw [q_chi_neg (by decide), q_chi_neg (by decide)]
    · have hne : x ≠ m := fun z => q (by rw [z])
      rw [q_chi_n (by omega), q_chi_n (by omega)]
      by_cases z : x < m
      · rw [if_pos z, if_pos (by omega)]
      · rw [if_neg z, if_neg (by omega)]
theorem q_chi_st {emp : Nat → Bool} {m c : Nat} (hc : c < 2 ^ 20) {v : Int32} (hv : q_tv v c) (hne : ¬ v = nI m) : q_chi emp m v = q_chi emp (m + 1) v := by
  rcases hv with rfl | ⟨x, hx, rfl⟩
  · rw [q_chi_neg (by decide), q_chi_neg (by decide)]
  · have hne : x ≠ m := fun z => hne (by rw [z])
    rw [q_chi_n (by omega), q_chi_n (by omega)]
    by_cases z : x < m
    · rw [if_pos z, if_pos (by omega)]
    · rw [if_neg z, if_neg (by omega)]
theorem q_chi_psi {emp : Nat → Bool} {c : Nat} (hc : c < 2 ^ 20) {v : Int32} (hv : q_tv v c) : q_chi emp c v = q_psi emp 0 v := by
  rcases hv with rfl | ⟨x, hx, rfl⟩
  · rw [q_chi_neg (by decide), q_psi_neg (by decide)]
  · rw [q_chi_n (by omega), q_psi_n (by omega), if_pos hx]
    by_cases z : x ≤ 0
    · obtain rfl : x = 0 := by omega
      rw [if_pos (by omega)]
      rfl
    · rw [if_neg z, Nat.zero_add]
theorem e_close {τ : m_T} {P : Nat → Nat → Int32} {R : List Nat} {fr : Nat → Int32} {T : Nat} (h : LM τ P R fr T) (hf : p_fr fr T) {N : Nat} (hN : 247 < N) {t c : Nat} (ht : t < T) (hc : m_I τ 10 t = nI c) (hc2 : c ≤ 247) {S : List Nat} (hS : ∀ k, k ∈ p_seg P R (fr t) (fr (t + 1)) ↔ k ∈ S) (hv : ∀ k ∈ S, q_tv (P k 8) c) : ∃ g, f_M_close N τ (nI t) = some (m_sI (m_wI τ 8 g) 10 t (nI (q_ne (q_emp P S) 0 c))) ∧ ∀ i k : Nat, R[i]? = some k → g i = p_map P S (q_psi (q_emp P S) 0) k 8 := by
  have hL := h.2.1
  have hT8 := hf.2.1
  have hLMj : ∀ (g : Nat → Int32) (φ : Int32 → Int32), (∀ i k : Nat, R[i]? = some k → g i = p_map P S φ k 8) → LM (m_wI τ 8 g) (p_map P S φ) R fr T := fun g φ hg => ⟨h.1, hL, fun i k hk => by
    obtain ⟨w1, w2, w3, w4, w5, w6, w7⟩ := h.2.2 i k hk
    exact ⟨w1, w2, w3, w4, w5, hg i k hk, w7⟩⟩
  obtain ⟨s', e1, g, e2, e3⟩ := q_inv (fun n (s : Int32 × m_T) i => f_M_close_L4 N (nI t) (fun v2 t9 => q_gd (q_in (nI t) 9) <| q_let (m_sI t9 10 ((nI t : Int32).toNatClampNeg) v2) fun s11 => some s11) n s.1 i s.2) (fun s => some (m_sI s.2 10 t s.1)) (fun j s => ∃ g, s = (nI (q_ne (q_emp P S) 0 j), m_wI τ 8 g) ∧ ∀ i k : Nat, R[i]? = some k → g i = p_map P S (q_chi (q_emp P S) j) k 8) c
    (fun n s hI => by
      obtain ⟨g, rfl, _⟩ := hI
      show f_M_close_L4 N _ _ (n + 1) _ _ _ = _
      rw [f_M_close_L4, q_gd_t (q_in_of (show t < 9 by omega) (by omega)), nI_cl (by omega), if_pos (show m_I (m_wI τ 8 g) 10 t ≤ nI c by show m_I τ 10 t ≤ nI c; rw [hc]; exact nI_le (Nat.le_refl _) (by omega))]
      simp only [q_gd_t (q_in_of (show t < 9 by omega) (show 9 < 2 ^ 31 by omega)), q_let])
    (fun n s j hj hI => by
      obtain ⟨g, rfl, hg⟩ := hI
      have hLM := hLMj g _ hg
      have hin := e_inTable hLM hf hN ht (nI j)
      have hcnt : (p_seg (p_map P S (q_chi (q_emp P S) j)) R (fr t) (fr (t + 1))).countP (fun k => decide (p_map P S (q_chi (q_emp P S) j) k 8 = nI j)) = (p_seg P R (fr t) (fr (t + 1))).countP (fun k => decide (P k 8 = nI j)) := by
        show (p_seg P R (fr t) (fr (t + 1))).countP _ = _
        refine List.countP_congr (fun k hk => ?_)
        have hkS := (hS k).mp hk
        rw [decide_eq_true_eq, decide_eq_true_eq, p_map_in hkS]
        exact q_chi_eq (by omega) (by omega) (hv k hkS)
      rw [hcnt] at hin
      have hle : (p_seg P R (fr t) (fr (t + 1))).countP (fun k => decide (P k 8 = nI j)) ≤ 247 := Nat.le_trans List.countP_le_length (Nat.le_trans (List.length_filter_le _ _) hL)
      show ∃ s' : Int32 × m_T, f_M_close_L4 N _ _ (n + 1) _ _ _ = f_M_close_L4 N _ _ n s'.1 _ s'.2 ∧ _
      rw [f_M_close_L4, q_gd_t (q_in_of (show t < 9 by omega) (by omega)), if_neg (show ¬ m_I (m_wI τ 8 g) 10 (nI t).toNatClampNeg ≤ nI j by rw [nI_cl (by omega)]; show ¬ m_I τ 10 t ≤ nI j; rw [hc]; exact nI_ge hj (by omega)), hin, Option.bind_some, ← nI_succ, ← nI_succ]
      cases he : q_emp P S j with
      | true =>
        have h0 : (p_seg P R (fr t) (fr (t + 1))).countP (fun k => decide (P k 8 = nI j)) = 0 := by
          rw [List.countP_eq_zero]
          intro k hk q
          exact q_emp_t.mp he k ((hS k).mp hk) (of_decide_eq_true q)
        rw [h0, if_pos (show nI 0 ≤ 0 by decide)]
        have hq : q_ne (q_emp P S) 0 (j + 1) = q_ne (q_emp P S) 0 j := by rw [q_ne, if_neg (by rw [he]; exact fun z => absurd z.2 (by decide)), Nat.add_zero]
        refine ⟨(nI (q_ne (q_emp P S) 0 j), m_wI τ 8 g), rfl, g, by rw [hq], fun i k hk => ?_⟩
        rw [hg i k hk, show p_map P S (q_chi (q_emp P S) j) = p_map P S (q_chi (q_emp P S) (j + 1)) from p_map_congr (fun a ha => q_chi_st (c := c) (by omega) (hv a ha) (q_emp_t.mp he a ha))]
      | false =>
        have h0 : 0 < (p_seg P R (fr t) (fr (t + 1))).countP (fun k => decide (P k 8 = nI j)) := by
          obtain ⟨k, hk, q⟩ := q_emp_f.mp he
          exact List.countP_pos_iff.mpr ⟨k, (hS k).mpr hk, decide_eq_true q⟩
        rw [if_neg (nI_nle h0 (by omega))]
        obtain ⟨g', f1, f2⟩ := e_close26 hLM hf hN ht (nI (q_ne (q_emp P S) 0 j)) (nI j) (fun t8 => f_M_close_L4 N (nI t) (fun v2 t9 => q_gd (q_in (nI t) 9) <| q_let (m_sI t9 10 ((nI t : Int32).toNatClampNeg) v2) fun s11 => some s11) n (nI (q_ne (q_emp P S) 0 j + 1)) (nI (j + 1)) t8)
        rw [m_wI_w] at f1
        have hq : q_ne (q_emp P S) 0 (j + 1) = q_ne (q_emp P S) 0 j + 1 := by rw [q_ne, if_pos ⟨Nat.zero_le _, he⟩]
        refine ⟨(nI (q_ne (q_emp P S) 0 j + 1), m_wI τ 8 g'), f1, g', by rw [hq], fun i k hk => ?_⟩
        rw [f2 i k hk]
        by_cases q : k ∈ S
        · rw [if_pos (show k ∈ p_seg (p_map P S (q_chi (q_emp P S) j)) R (fr t) (fr (t + 1)) from (hS k).mpr q), p_map_in q, p_map_in q]
          exact q_chi_set (c := c) (by omega) (by omega) (hv k q)
        · rw [if_neg (show ¬ k ∈ p_seg (p_map P S (q_chi (q_emp P S) j)) R (fr t) (fr (t + 1)) from fun z => q ((hS k).mp z)), p_map_out q, p_map_out q])
    c 0 N (nI 0, τ) (by omega) (by omega) ⟨m_I τ 8, by rw [m_wI_id]; rfl, fun i k hk => by
      rw [p_map_id (fun a ha => by
        rcases hv a ha with q | ⟨x, hx, q⟩
        · rw [q, q_chi_neg (by decide)]
        · rw [q, q_chi_n (by omega), if_neg (by omega)])]
      exact (h.2.2 i k hk).2.2.2.2.2.1⟩
  subst e2
  refine ⟨g, ?_, fun i k hk => ?_⟩
  · unfold f_M_close
    rw [nI_0] at e1
    exact e1
  · rw [e3 i k hk, p_map_congr (fun a ha => q_chi_psi (by omega) (hv a ha))]
