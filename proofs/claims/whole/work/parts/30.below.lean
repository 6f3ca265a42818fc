/-! The live cells of a column, by falling time. -/
def p_col (P : Nat → Nat → Int32) (ag : Nat → Int32) (cl : Int32) (L : List Nat) (r c : Int32) : List Nat := L.filter (fun k => decide (P k 0 = r) && (decide (P k 1 = c) && p_live P ag cl k))
theorem p_col_mem {P : Nat → Nat → Int32} {ag : Nat → Int32} {cl : Int32} {L : List Nat} {r c : Int32} {k : Nat} : k ∈ p_col P ag cl L r c ↔ k ∈ L ∧ P k 0 = r ∧ P k 1 = c ∧ p_live P ag cl k = true := by
  unfold p_col
  rw [List.mem_filter, Bool.and_eq_true, Bool.and_eq_true, decide_eq_true_eq, decide_eq_true_eq]
theorem p_live_4 {P : Nat → Nat → Int32} {ag : Nat → Int32} {cl : Int32} {k : Nat} (h : p_live P ag cl k = true) : P k 4 = 0 ∧ P k 10 = 0 ∧ p_old P ag cl k = false := by
  unfold p_live at h
  rw [Bool.and_eq_true, Bool.and_eq_true, decide_eq_true_eq, decide_eq_true_eq, Bool.not_eq_true'] at h
  exact h
theorem p_live_t {P : Nat → Nat → Int32} {ag : Nat → Int32} {cl : Int32} {k : Nat} (hok : p_ok P k) (h : p_live P ag cl k = true) : ¬ P k 3 = -1 ∧ 0 ≤ (P k 3).toInt ∧ (P k 3).toInt < 10000 := by
  have h4 := (p_live_4 h).1
  have h3 : ¬ P k 3 = -1 := fun q => by
    have := hok.2.2.2.2.2.2.2.2.1 q
    rw [h4] at this
    exact absurd this (by decide)
  have h5 := hok.2.2.2.2.1
  have h6 := hok.2.2.2.2.2.1
  have h7 : ¬ (P k 3).toInt = -1 := fun q => h3 (by rw [i_eq, i_m1]; exact q)
  exact ⟨h3, by omega, h6⟩
theorem p_col_sorted {P : Nat → Nat → Int32} {ag : Nat → Int32} {cl : Int32} {L : List Nat} (ho : L.Pairwise (p_ord P)) (hok : ∀ k ∈ L, p_ok P k) (hc : p_cov P ag cl L) (r c : Int32) : (p_col P ag cl L r c).Pairwise (fun a b => (P b 3).toInt < (P a 3).toInt) := by
  refine List.Pairwise.imp_of_mem (fun {a b} ha hb q => ?_) (List.Pairwise.filter _ ho : (p_col P ag cl L r c).Pairwise (p_ord P))
  obtain ⟨a1, a2, a3, a4⟩ := p_col_mem.mp ha
  obtain ⟨b1, b2, b3, b4⟩ := p_col_mem.mp hb
  obtain ⟨ta, ta1, ta2⟩ := p_live_t (hok a a1) a4
  obtain ⟨tb, tb1, tb2⟩ := p_live_t (hok b b1) b4
  have ea := (hok a a1).bh.2.2
  have eb := (hok b b1).bh.2.2
  unfold p_bh at ea eb
  rw [if_neg ta, a2, a3] at ea
  rw [if_neg tb, b2, b3] at eb
  rcases q with q | ⟨q1, q2⟩
  · omega
  · have e7 : (P a 7).toInt = (P b 7).toInt := by rw [q1]
    have e3 : P a 3 = P b 3 := by rw [i_eq]; omega
    exfalso
    obtain ⟨z4, z10, zo⟩ := p_live_4 b4
    have := (hc b b1 z4 zo).mp z10 a a1
    unfold p_cv at this
    rw [decide_eq_true (by rw [i_lt]; exact q2), decide_eq_true (by rw [a2, b2]), decide_eq_true (show P a 1 = P b 1 by rw [a3, b3]), decide_eq_true e3] at this
    simp at this
theorem e_below {τ : m_T} {P : Nat → Nat → Int32} {R : List Nat} {fr : Nat → Int32} {T : Nat} (h : LM τ P R fr T) (hs : R.Pairwise (fun a b => (P a 6).toInt < (P b 6).toInt)) (hok : ∀ k ∈ R, p_ok P k) {ag : Nat → Int32} {cl : Int32} (hag : ∀ i : Nat, i < 2 → m_I τ 12 i = ag i) (hcl : m_S τ 14 = cl) (hcov : p_cov P ag cl R) {N : Nat} (hN : 247 < N) (r c lim : Int32) {S : List Nat} (hS : ∀ k, k ∈ S ↔ k ∈ R ∧ P k 0 = r ∧ P k 1 = c ∧ p_live P ag cl k = true) (hd : S.Pairwise (fun a b => (P b 3).toInt < (P a 3).toInt)) :
    (S.filter (fun k => decide (P k 3 < lim)) = [] ∧ f_M_below N τ r c lim = some (-1)) ∨ ∃ k rest i, S.filter (fun k => decide (P k 3 < lim)) = k :: rest ∧ R[i]? = some k ∧ f_M_below N τ r c lim = some (nI i) := by
  have hL := h.2.1
  have hm1 : (-1 : Int32) < 0 := by decide
  obtain ⟨b, hb, hI⟩ := q_inv (fun n (b : Int32) i => f_M_below_L6 N τ r c lim (fun v4 => some v4) n b i) (fun b => some b) (fun j b => (b = -1 ∧ ∀ a ∈ R.take j, ¬ (P a 0 = r ∧ P a 1 = c ∧ p_live P ag cl a = true ∧ P a 3 < lim)) ∨ ∃ i k, i < j ∧ R[i]? = some k ∧ b = nI i ∧ (P k 0 = r ∧ P k 1 = c ∧ p_live P ag cl k = true ∧ P k 3 < lim) ∧ ∀ a ∈ R.take j, (P a 0 = r ∧ P a 1 = c ∧ p_live P ag cl a = true ∧ P a 3 < lim) → (P a 3).toInt ≤ (P k 3).toInt) R.length
    (fun n b _ => by show f_M_below_L6 N τ r c lim _ (n + 1) b _ = _; rw [f_M_below_L6, if_pos h.end])
    (fun n b j hj hI => by
      obtain ⟨k, hk⟩ : ∃ k, R[j]? = some k := ⟨_, List.getElem?_eq_getElem hj⟩
      obtain ⟨g1, g2, g3, g4⟩ := h.at hk
      obtain ⟨x1, x2, x3, x4, _⟩ := h.2.2 j k hk
      have hlv := e_liveM h hs hok hag hcl hcov hN hk
      have htk : ∀ a, a ∈ R.take (j + 1) ↔ a ∈ R.take j ∨ a = k := fun a => by rw [take_s hk, List.mem_append, List.mem_singleton]
      show ∃ b' : Int32, f_M_below_L6 N τ r c lim _ (n + 1) b (nI j) = f_M_below_L6 N τ r c lim _ n b' (nI (j + 1)) ∧ _
      rw [f_M_below_L6, if_neg g3]
      simp only [q_gd_t g1, g2, x1, x2, x3, x4, ← nI_succ, hlv, Option.bind_some]
      -- k doesn't count: the best stays
      have stay : (¬ (P k 0 = r ∧ P k 1 = c ∧ p_live P ag cl k = true ∧ P k 3 < lim) ∨ ∃ i a, R[i]? = some a ∧ b = nI i ∧ (P k 3).toInt ≤ (P a 3).toInt) → ((b = -1 ∧ ∀ a ∈ R.take (j + 1), ¬ (P a 0 = r ∧ P a 1 = c ∧ p_live P ag cl a = true ∧ P a 3 < lim)) ∨ ∃ i k, i < j + 1 ∧ R[i]? = some k ∧ b = nI i ∧ (P k 0 = r ∧ P k 1 = c ∧ p_live P ag cl k = true ∧ P k 3 < lim) ∧ ∀ a ∈ R.take (j + 1), (P a 0 = r ∧ P a 1 = c ∧ p_live P ag cl a = true ∧ P a 3 < lim) → (P a 3).toInt ≤ (P k 3).toInt) := fun hno => by
        rcases hI with ⟨e, hI⟩ | ⟨i, a, hi, ha, e, hm, hI⟩
        · rcases hno with hno | ⟨i, a, ha, e2, _⟩
          · refine Or.inl ⟨e, fun a ha => ?_⟩
            rcases (htk a).mp ha with q | q
            · exact hI a q
            · rw [q]; exact hno
          · exact absurd (e2.symm.trans e) (nI_m1 (by have := (h.at ha).2.2.2; omega))
        · refine Or.inr ⟨i, a, by omega, ha, e, hm, fun d hd hmd => ?_⟩
          rcases (htk d).mp hd with q | q
          · exact hI d q hmd
          · rw [q] at hmd ⊢
            rcases hno with hno | ⟨i2, a2, ha2, e2, hle⟩
            · exact absurd hmd hno
            · have hi2 := (h.at ha2).2.2.2
              have := e.symm.trans e2
              rw [nI_eq (by omega) (by omega)] at this
              subst this
              obtain rfl : a = a2 := Option.some.inj (ha.symm.trans ha2)
              exact hle
      by_cases c1 : P k 0 = r
      · rw [if_pos c1]
        by_cases c2 : P k 1 = c
        · rw [if_pos c2]
          by_cases c3 : P k 4 = 0
          · rw [if_pos (p_kind0.mpr c3)]
            by_cases c4 : lim ≤ P k 3
            · rw [if_pos c4]
              exact ⟨b, rfl, stay (Or.inl (fun q => by have := q.2.2.2; rw [i_lt] at this; rw [i_le] at c4; omega))⟩
            · rw [if_neg c4]
              have c4' : P k 3 < lim := by rw [i_lt]; rw [i_le] at c4; omega
              rcases hI with ⟨e, hI⟩ | ⟨i, a, hi, ha, e, hm, hI⟩
              · rw [if_pos (by rw [e]; exact hm1)]
                cases hlk : p_live P ag cl k with
                | true =>
                  rw [if_neg (by decide)]
                  refine ⟨nI j, rfl, Or.inr ⟨j, k, by omega, hk, rfl, ⟨c1, c2, hlk, c4'⟩, fun a ha hma => ?_⟩⟩
                  rcases (htk a).mp ha with q | q
                  · exact absurd hma (hI a q)
                  · rw [q]; exact Int.le_refl _
                | false =>
                  rw [if_pos (by decide)]
                  exact ⟨b, rfl, stay (Or.inl (fun q => by rw [hlk] at q; exact absurd q.2.2.1 (by decide)))⟩
              · obtain ⟨a1, a2, a3, a4⟩ := h.at ha
                have hta := (h.2.2 i a ha).2.2.2.1
                rw [e, if_neg (nI_pos (by omega))]
                simp only [q_gd_t a1, a2, hta]
                by_cases c5 : P k 3 ≤ P a 3
                · rw [if_pos c5]
                  exact ⟨nI i, rfl, by rw [← e]; exact stay (Or.inr ⟨i, a, ha, e, by rw [i_le] at c5; exact c5⟩)⟩
                · rw [if_neg c5]
                  cases hlk : p_live P ag cl k with
                  | true =>
                    rw [if_neg (by decide)]
                    refine ⟨nI j, rfl, Or.inr ⟨j, k, by omega, hk, rfl, ⟨c1, c2, hlk, c4'⟩, fun d hd hmd => ?_⟩⟩
                    rcases (htk d).mp hd with q | q
                    · have := hI d q hmd
                      rw [i_le] at c5
                      omega
                    · rw [q]; exact Int.le_refl _
                  | false =>
                    rw [if_pos (by decide)]
                    exact ⟨nI i, rfl, by rw [← e]; exact stay (Or.inl (fun q => by rw [hlk] at q; exact absurd q.2.2.1 (by decide)))⟩
          · rw [if_neg (fun q => c3 (p_kind0.mp q))]
            exact ⟨b, rfl, stay (Or.inl (fun q => c3 (p_live_4 q.2.2.1).1))⟩
        · rw [if_neg c2]
          exact ⟨b, rfl, stay (Or.inl (fun q => c2 q.2.1))⟩
      · rw [if_neg c1]
        exact ⟨b, rfl, stay (Or.inl (fun q => c1 q.1))⟩)
    R.length 0 N (-1) (by omega) (by omega) (Or.inl ⟨rfl, fun a ha => by simp at ha⟩)
  rw [List.take_length] at hI
  unfold f_M_below
  rw [show (0 : Int32) = nI 0 from rfl, hb]
  have hmf : ∀ k, k ∈ S.filter (fun k => decide (P k 3 < lim)) ↔ k ∈ R ∧ (P k 0 = r ∧ P k 1 = c ∧ p_live P ag cl k = true ∧ P k 3 < lim) := fun k => by
    rw [List.mem_filter, hS, decide_eq_true_eq]
    exact ⟨fun q => ⟨q.1.1, q.1.2.1, q.1.2.2.1, q.1.2.2.2, q.2⟩, fun q => ⟨⟨q.1, q.2.1, q.2.2.1, q.2.2.2.1⟩, q.2.2.2.2⟩⟩
  rcases hI with ⟨e, hI⟩ | ⟨i, k, hi, hk, e, hm, hI⟩
  · refine Or.inl ⟨?_, by rw [e]⟩
    rw [List.eq_nil_iff_forall_not_mem]
    intro a ha
    obtain ⟨q1, q2⟩ := (hmf a).mp ha
    exact hI a q1 q2
  · have hkf := (hmf k).mpr ⟨List.mem_of_getElem? hk, hm⟩
    cases hfl : S.filter (fun k => decide (P k 3 < lim)) with
    | nil => rw [hfl] at hkf; cases hkf
    | cons a rest =>
      refine Or.inr ⟨a, rest, i, rfl, ?_, by rw [e]⟩
      rw [hfl] at hkf
      rcases List.mem_cons.mp hkf with q | q
      · rw [← q]; exact hk
      · exfalso
        have hp : (S.filter (fun k => decide (P k 3 < lim))).Pairwise (fun a b => (P b 3).toInt < (P a 3).toInt) := List.Pairwise.filter _ hd
        rw [hfl] at hp
        have h1 := (List.pairwise_cons.mp hp).1 k q
        have ha := (hmf a).mp (by rw [hfl]; exact List.mem_cons_self)
        have h2 := hI a ha.1 ha.2
        omega
