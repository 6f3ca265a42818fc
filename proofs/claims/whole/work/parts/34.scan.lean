/-! scan. -/
/-- the relation, but for what the last scan found -/
def r_Q (j : Nat) (σ : x_T) (τ : m_T) (L R : List Nat) (s T : Nat) (tc : Nat → Nat) (B : Nat → Int32) : Prop := r_A j σ τ ∧ r_B σ τ ∧ r_X σ τ ∧ r_S σ ∧ r_L j σ L R s ∧ r_T σ τ L R T tc ∧ r_C σ τ L R B ∧ 0 ≤ (m_S τ 27).toInt ∧ (m_S τ 27).toInt ≤ j
theorem r_look2 {j s T : Nat} {σ : x_T} {τ : m_T} {L R : List Nat} {tc : Nat → Nat} {B : Nat → Int32} (h : r_Q j σ τ L R s T tc B) {w : Int32} (h0 : 0 ≤ w.toInt) (h1 : w.toInt < 64) : ∃ σ' v, f_T_lookFor 1000 σ w = some σ' ∧ f_M_look 1000 τ w = some (m_sS τ 31 v) ∧ r_Q j σ' (m_sS τ 31 v) L R s T tc B ∧ x_P σ' = x_P σ ∧ x_I σ' 2 = x_I σ 2 ∧ x_S σ' 2 = x_S σ 2 := by
  obtain ⟨hA, hB, hX, hS, hL, hT, hC, h4, h5⟩ := h
  have hf := hT.2.2.1
  obtain ⟨t, ht, t1, t2⟩ := p_fr_ex hf h0 h1
  have hc := hT.tc hL.1 ht
  obtain ⟨c1, c2⟩ := hT.2.2.2.2.2 t ht
  obtain ⟨f, g, h, e1, e2⟩ := e_lookX hL.1 hL.rows hS hT.1 hf (N := 1000) (by omega) ht t1 t2 c2 hc
  have e3 := e_lookM hT.2.2.2.2.1 hT.2.1 hf hT.2.2.2.1 (N := 1000) (by omega) ht t1 t2 c1 hc
  have hsum : p_sum (fun i => p_blocks (x_P σ) w ((p_seg (x_P σ) R (x_I σ 4 t) (x_I σ 4 (t + 1))).filter (fun k => decide (x_P σ k 8 = nI i)))) (tc t) = p_sum (fun i => p_blocks (x_P σ) w ((x_sg σ L t).filter (fun k => decide (x_P σ k 8 = nI i)))) (tc t) := p_sum_congr _ (fun i hi => p_blocks_perm (List.Perm.filter _ (seg_perm hL.2.1 _ _).symm))
  rw [hsum, hA.2.2.2.2.2] at e3
  exact ⟨_, _, e1, e3, ⟨⟨hA.1, hA.2.1, hA.2.2.1, hA.2.2.2.1, hA.2.2.2.2.1, rfl⟩, hB, hX, e2, hL, hT, hC, h4, h5⟩, rfl, rfl, rfl⟩
def m_wF (τ : m_T) (f g : Nat → Int32) (v : Int32) : m_T := (va_up τ.1 28 v, va_up (va_up τ.2 17 f) 18 g)
theorem m_wF_s {τ : m_T} {f g : Nat → Int32} {v x y w : Int32} {i : Nat} : m_sS (m_sI (m_sI (m_wF τ f g v) 17 i x) 18 i y) 28 w = m_wF τ (upd f i x) (upd g i y) w := by
  unfold m_sS m_sI m_wF
  refine Prod.ext (bx_uu _ _ _ _) ?_
  funext a
  by_cases h1 : a = 18
  · subst h1; rfl
  · by_cases h2 : a = 17
    · subst h2; rfl
    · simp only [va_up, h1, h2, if_false]
theorem m_wF_id {τ : m_T} : m_wF τ (m_I τ 17) (m_I τ 18) (m_S τ 28) = τ := by
  unfold m_wF
  refine Prod.ext ?_ ?_
  · funext a
    by_cases h1 : a = 28
    · subst h1; rfl
    · simp only [va_up, h1, if_false]
  · funext a
    by_cases h1 : a = 18
    · subst h1; rfl
    · by_cases h2 : a = 17
      · subst h2; rfl
      · simp only [va_up, h1, h2, if_false]
def q_fnd (P : Nat → Nat → Int32) (τ : m_T) (G : List Nat) : Prop := m_S τ 28 = nI G.length ∧ ∀ i k : Nat, G[i]? = some k → m_I τ 17 i = 80000 * P k 0 + 10000 * P k 1 + P k 3 ∧ m_I τ 18 i = P k 5
theorem q_fnd.add {P : Nat → Nat → Int32} {τ : m_T} {f g : Nat → Int32} {w : Int32} {A : List Nat} (h : q_fnd P (m_wF τ f g w) A) (k : Nat) : q_fnd P (m_wF τ (upd f A.length (80000 * P k 0 + 10000 * P k 1 + P k 3)) (upd g A.length (P k 5)) (nI A.length + 1)) (A ++ [k]) := by
  refine ⟨?_, fun i a ha => ?_⟩
  · rw [List.length_append, List.length_singleton, nI_succ]
    rfl
  · show upd f A.length _ i = _ ∧ upd g A.length _ i = _
    by_cases hi : i = A.length
    · subst hi
      rw [List.getElem?_append_right (Nat.le_refl _), Nat.sub_self] at ha
      obtain rfl : k = a := Option.some.inj ha
      exact ⟨pk_us, pk_us⟩
    · have hl : i < A.length := by
        have := (List.getElem?_eq_some_iff.mp ha).1
        rw [List.length_append, List.length_singleton] at this
        omega
      rw [List.getElem?_append_left hl] at ha
      rw [pk_un hi, pk_un hi]
      exact h.2 i a ha
theorem e_gatherL {τ : m_T} {P : Nat → Nat → Int32} {R : List Nat} {fr : Nat → Int32} {T : Nat} {ag : Nat → Int32} {cl : Int32} (h : r_bl τ P R fr T ag cl) {N : Nat} (hN : 247 < N) (r c fm : Int32) {S : List Nat} (hS : ∀ k, k ∈ S ↔ k ∈ R ∧ P k 0 = r ∧ P k 1 = c ∧ p_live P ag cl k = true) (hd : S.Pairwise (fun a b => (P b 3).toInt < (P a 3).toInt)) (K : m_T → Option m_T) : ∀ (D : List Nat) (n : Nat) (v lim : Int32) (f g : Nat → Int32) (w : Int32) (A : List Nat), S.filter (fun k => decide (P k 3 < lim)) = D → D.length < n → q_ix R D.head? v → A.length + (D.filter (fun k => decide (fm ≤ P k 3))).length ≤ 247 → q_fnd P (m_wF τ f g w) A → ∃ f' g' w', f_M_gather_L35 N r c fm K n v (m_wF τ f g w) = K (m_wF τ f' g' w') ∧ q_fnd P (m_wF τ f' g' w') (A ++ D.filter (fun k => decide (fm ≤ P k 3))) := by
  intro D
  induction D with
  | nil =>
    intro n v lim f g w A hD hn hv hl hq
    obtain ⟨n, rfl⟩ : ∃ a, n = a + 1 := ⟨n - 1, by simp at hn; omega⟩
    refine ⟨f, g, w, ?_, by simpa using hq⟩
    rw [f_M_gather_L35, if_pos]
    rcases hv with ⟨_, rfl⟩ | ⟨k, i, e, _⟩
    · decide
    · cases e
  | cons k D ih =>
    intro n v lim f g w A hD hn hv hl hq
    obtain ⟨n, rfl⟩ : ∃ a, n = a + 1 := ⟨n - 1, by simp at hn; omega⟩
    rcases hv with ⟨e, _⟩ | ⟨k', i, e, hi, rfl⟩
    · cases e
    · obtain rfl : k = k' := Option.some.inj e
      obtain ⟨a1, a2, a3, a4⟩ := h.1.at hi
      have hx := h.1.2.2 i k hi
      have e4 : m_I (m_wF τ f g w) 4 i = P k 3 := hx.2.2.2.1
      have e5 : m_I (m_wF τ f g w) 5 i = P k 5 := hx.2.2.2.2.1
      have e28 : m_S (m_wF τ f g w) 28 = nI A.length := hq.1
      have hkS : k ∈ S.filter (fun k => decide (P k 3 < lim)) := by rw [hD]; exact List.mem_cons_self
      obtain ⟨_, kr, kc, _⟩ := (hS k).mp (List.mem_filter.mp hkS).1
      have hpw : (k :: D).Pairwise (fun a b => (P b 3).toInt < (P a 3).toInt) := by rw [← hD]; exact List.Pairwise.filter _ hd
      rw [List.length_cons] at hn
      have e4' : ∀ f g w, m_I (m_wF τ f g w) 4 i = P k 3 := fun _ _ _ => hx.2.2.2.1
      by_cases ct : P k 3 < fm
      · refine ⟨f, g, w, ?_, ?_⟩
        · rw [f_M_gather_L35, if_neg (nI_pos (by omega)), q_gd_t a1, a2, e4, if_pos ct]
        · have : (k :: D).filter (fun k => decide (fm ≤ P k 3)) = [] := by
            rw [List.filter_eq_nil_iff]
            intro a ha
            rw [decide_eq_true_eq, i_le]
            rw [i_lt] at ct
            rcases List.mem_cons.mp ha with rfl | ha
            · omega
            · have := (List.pairwise_cons.mp hpw).1 a ha
              omega
          rw [this, List.append_nil]
          exact hq
      · have ct' : fm ≤ P k 3 := by rw [i_le]; rw [i_lt] at ct; omega
        rw [List.filter_cons_of_pos (by rw [decide_eq_true ct']), List.length_cons] at hl
        have hnx := p_next hd hD
        have hq' := hq.add k
        obtain ⟨v', b1, b2⟩ := e_belowI (τ := m_wF τ (upd f A.length (80000 * P k 0 + 10000 * P k 1 + P k 3)) (upd g A.length (P k 5)) (nI A.length + 1)) (P := P) (R := R) (fr := fr) (T := T) (ag := ag) (cl := cl) h hN r c (P k 3) hS hd
        rw [hnx] at b2
        obtain ⟨f', g', w', i1, i2⟩ := ih n v' (P k 3) _ _ _ (A ++ [k]) hnx (by omega) b2 (by rw [List.length_append, List.length_singleton]; omega) hq'
        refine ⟨f', g', w', ?_, ?_⟩
        · rw [f_M_gather_L35, if_neg (nI_pos (by omega))]
          simp only [q_let, q_gd_t a1, a2, e4, e5, if_neg ct, mSI, mSS, mIS, mII, Nat.reduceEqDiff, if_false, e28, nI_cl (show A.length < 2 ^ 31 by omega), q_gd_t (q_in_of (show A.length < 256 by omega) (show 256 < 2 ^ 31 by omega)), m_wF_s]
          rw [← kr, ← kc] at b1 ⊢
          rw [e4', b1, Option.bind_some]
          rw [← kr, ← kc] at i1
          exact i1
        · rw [List.filter_cons_of_pos (by rw [decide_eq_true ct'])]
          rw [List.append_assoc] at i2
          exact i2
theorem e_gather {τ : m_T} {P : Nat → Nat → Int32} {R : List Nat} {fr : Nat → Int32} {T : Nat} {ag : Nat → Int32} {cl : Int32} (h : r_bl τ P R fr T ag cl) {N : Nat} (hN : 247 < N) (r c fm to : Int32) {S : List Nat} (hS : ∀ k, k ∈ S ↔ k ∈ R ∧ P k 0 = r ∧ P k 1 = c ∧ p_live P ag cl k = true) (hd : S.Pairwise (fun a b => (P b 3).toInt < (P a 3).toInt)) {A : List Nat} (hSl : S.length < N) (hl : A.length + (S.filter (fun k => decide (fm ≤ P k 3) && decide (P k 3 ≤ to))).length ≤ 247) (hq : q_fnd P τ A) : ∃ f' g' w', f_M_gather N τ r c fm to = some (m_wF τ f' g' w') ∧ q_fnd P (m_wF τ f' g' w') (A ++ S.filter (fun k => decide (fm ≤ P k 3) && decide (P k 3 ≤ to))) := by
  have main : ∀ lim : Int32, (∀ t : Int32, 0 ≤ t.toInt → t.toInt < 10000 → (t < lim ↔ t ≤ to)) → ∃ f' g' w', (f_M_below N τ r c lim).bind (fun r2 => f_M_gather_L35 N r c fm (fun t14 => some t14) N r2 τ) = some (m_wF τ f' g' w') ∧ q_fnd P (m_wF τ f' g' w') (A ++ S.filter (fun k => decide (fm ≤ P k 3) && decide (P k 3 ≤ to))) := fun lim hlim => by
    obtain ⟨v, b1, b2⟩ := e_belowI h hN r c lim hS hd
    rw [b1, Option.bind_some]
    have e : S.filter (fun k => decide (fm ≤ P k 3) && decide (P k 3 ≤ to)) = (S.filter (fun k => decide (P k 3 < lim))).filter (fun k => decide (fm ≤ P k 3)) := by
      rw [List.filter_filter]
      refine List.filter_congr (fun k hk => ?_)
      obtain ⟨k1, k2, k3, k4⟩ := (hS k).mp hk
      obtain ⟨_, t1, t2⟩ := p_live_t (h.2.2.1 k k1) k4
      rw [decide_eq_decide.mpr (hlim _ t1 t2)]
    have hl2 := List.length_filter_le (fun k => decide (P k 3 < lim)) S
    rw [e] at hl
    obtain ⟨f', g', w', i1, i2⟩ := e_gatherL h hN r c fm hS hd (fun t14 => some t14) _ N v lim (m_I τ 17) (m_I τ 18) (m_S τ 28) A rfl (by omega) b2 (by omega) (by rw [m_wF_id]; exact hq)
    rw [m_wF_id] at i1
    refine ⟨f', g', w', i1, ?_⟩
    rw [e]
    exact i2
  unfold f_M_gather
  by_cases t0 : to ≤ 9999
  · rw [if_pos t0]
    by_cases t1 : 0 ≤ to
    · rw [if_pos t1]
      rw [i_le, i_9999] at t0
      rw [i_le, i_0] at t1
      obtain ⟨b, hb, rfl⟩ : ∃ b : Nat, b ≤ 9999 ∧ to = nI b := ⟨to.toInt.toNat, by omega, by rw [i_eq, nI_toInt (by omega)]; omega⟩
      exact main (nI b + 1) (fun t q1 q2 => by rw [← nI_succ, i_lt, i_le, nI_toInt (by omega), nI_toInt (by omega)]; omega)
    · rw [if_neg t1]
      rw [i_le, i_0] at t1
      exact main 0 (fun t q1 q2 => by rw [i_lt, i_le, i_0]; omega)
  · rw [if_neg t0]
    rw [i_le, i_9999] at t0
    exact main 10000 (fun t q1 q2 => by rw [i_lt, i_le, i_10000]; omega)
def p_sc (P : Nat → Nat → Int32) (ag : Nat → Int32) (cl p a3 a4 a5 : Int32) (k : Nat) : Bool := !decide (P k 0 < p) && ((decide (a3 = -1) || decide (P k 1 = a3)) && (decide (a4 ≤ P k 3) && (decide (P k 3 ≤ a5) && p_live P ag cl k)))
def p_key (P : Nat → Nat → Int32) (k : Nat) : Int := (P k 0).toInt * 9 + (P k 1).toInt
def p_G (P : Nat → Nat → Int32) (c : Nat → Bool) (L : List Nat) (κ : Int) : List Nat := L.filter (fun k => c k && decide (p_key P k < κ))
theorem filter_split {A B : Nat → Bool} : ∀ {L : List Nat}, L.Pairwise (fun a b => ¬ (B a = true ∧ A b = true)) → (∀ k, ¬ (A k = true ∧ B k = true)) → L.filter (fun k => A k || B k) = L.filter A ++ L.filter B := by
  intro L
  induction L with
  | nil => intro _ _; rfl
  | cons k l ih =>
    intro hp hd
    obtain ⟨h1, h2⟩ := List.pairwise_cons.mp hp
    have e := ih h2 hd
    cases hA : A k with
    | true =>
      have hB : B k = false := by
        cases q : B k with
        | false => rfl
        | true => exact absurd ⟨hA, q⟩ (hd k)
      rw [List.filter_cons_of_pos (by rw [hA]; rfl), List.filter_cons_of_pos hA, List.filter_cons_of_neg (by rw [hB]; decide), e]
      rfl
    | false =>
      cases hB : B k with
      | false => rw [List.filter_cons_of_neg (by rw [hA, hB]; decide), List.filter_cons_of_neg (by rw [hA]; decide), List.filter_cons_of_neg (by rw [hB]; decide), e]
      | true =>
        have hn : l.filter A = [] := by
          rw [List.filter_eq_nil_iff]
          exact fun a ha q => h1 a ha ⟨hB, q⟩
        rw [List.filter_cons_of_pos (by rw [hA, hB]; rfl), List.filter_cons_of_neg (by rw [hA]; decide), List.filter_cons_of_pos hB, e, hn]
        rfl
theorem p_G_s {P : Nat → Nat → Int32} {c : Nat → Bool} {L : List Nat} (h : L.Pairwise (fun a b => p_key P a ≤ p_key P b)) (κ : Int) : p_G P c L (κ + 1) = p_G P c L κ ++ L.filter (fun k => c k && decide (p_key P k = κ)) := by
  unfold p_G
  rw [← filter_split]
  · refine List.filter_congr (fun k _ => ?_)
    rw [← Bool.and_or_distrib_left]
    congr 1
    by_cases q : p_key P k < κ + 1
    · by_cases q2 : p_key P k = κ
      · rw [decide_eq_true q, decide_eq_true q2, Bool.or_true]
      · rw [decide_eq_true q, decide_eq_true (show p_key P k < κ by omega), Bool.true_or]
    · rw [decide_eq_false q, decide_eq_false (show ¬ p_key P k < κ by omega), decide_eq_false (show ¬ p_key P k = κ by omega), Bool.or_self]
  · refine h.imp (fun {a b} q z => ?_)
    rw [Bool.and_eq_true, Bool.and_eq_true, decide_eq_true_eq, decide_eq_true_eq] at z
    omega
  · intro k z
    rw [Bool.and_eq_true, Bool.and_eq_true, decide_eq_true_eq, decide_eq_true_eq] at z
    omega
theorem p_ok.key {P : Nat → Nat → Int32} {a b : Nat} (ha : p_ok P a) (hb : p_ok P b) (h : p_ord P a b) : p_key P a ≤ p_key P b := by
  obtain ⟨p1, p2, p3⟩ := ha.bh
  obtain ⟨q1, q2, q3⟩ := hb.bh
  obtain ⟨a0, a1, a2, a3, _⟩ := ha
  obtain ⟨b0, b1, b2, b3, _⟩ := hb
  have h1 : (P a 7).toInt ≤ (P b 7).toInt := by
    rcases h with h | h
    · omega
    · rw [h.1]; exact Int.le_refl _
  unfold p_key
  omega
theorem r_L.keys {j s : Nat} {σ : x_T} {L R : List Nat} (h : r_L j σ L R s) : L.Pairwise (fun a b => p_key (x_P σ) a ≤ p_key (x_P σ) b) := by
  obtain ⟨h1, h2, h3, h4, h5, h6, h7, h8, h9⟩ := h
  exact List.Pairwise.imp_of_mem (fun ha hb q => p_ok.key (h7 _ ha).1 (h7 _ hb).1 q) h8
theorem p_live_c {P : Nat → Nat → Int32} {ag : Nat → Int32} {cl : Int32} {k : Nat} (hok : p_ok P k) (h : p_live P ag cl k = true) : 0 ≤ (P k 1).toInt ∧ (P k 1).toInt < 8 := by
  have h4 := (p_live_4 h).1
  have h3 : ¬ P k 1 = -1 := fun q => by
    have := hok.2.2.2.2.2.2.2.2.1 (hok.2.2.2.2.2.2.2.1 q)
    rw [h4] at this
    exact absurd this (by decide)
  have h7 : ¬ (P k 1).toInt = -1 := fun q => h3 (by rw [i_eq, i_m1]; exact q)
  have := hok.2.2.1
  exact ⟨by omega, hok.2.2.2.1⟩
theorem p_sc_col {P : Nat → Nat → Int32} {ag : Nat → Int32} {cl p a3 a4 a5 : Int32} {L : List Nat} (hok : ∀ k ∈ L, p_ok P k) {r c : Nat} (hr : r < 64) (hc : c < 8) (hp : p ≤ nI r) (h3 : a3 = -1 ∨ a3 = nI c) : L.filter (fun k => p_sc P ag cl p a3 a4 a5 k && decide (p_key P k = 9 * r + c)) = (p_col P ag cl L (nI r) (nI c)).filter (fun k => decide (a4 ≤ P k 3) && decide (P k 3 ≤ a5)) := by
  unfold p_col p_sc
  rw [List.filter_filter]
  refine List.filter_congr (fun k hk => ?_)
  cases hl : p_live P ag cl k with
  | false => simp only [Bool.and_false, Bool.false_and]
  | true =>
    obtain ⟨c1, c2⟩ := p_live_c (hok k hk) hl
    obtain ⟨r1, r2, _⟩ := hok k hk
    by_cases q : P k 0 = nI r ∧ P k 1 = nI c
    · obtain ⟨q1, q2⟩ := q
      have e1 : ¬ P k 0 < p := by rw [q1, i_lt]; rw [i_le] at hp; omega
      have e2 : p_key P k = 9 * r + c := by unfold p_key; rw [q1, q2, nI_toInt (by omega), nI_toInt (by omega)]; omega
      have e3 : (decide (a3 = -1) || decide (P k 1 = a3)) = true := by
        rcases h3 with h3 | h3
        · rw [decide_eq_true h3, Bool.true_or]
        · rw [decide_eq_true (q2.trans h3.symm), Bool.or_true]
      rw [decide_eq_false e1, decide_eq_true e2, e3, decide_eq_true q1, decide_eq_true q2]
      simp only [Bool.not_false, Bool.true_and, Bool.and_true]
    · have e2 : ¬ p_key P k = 9 * r + c := fun z => q (by
        unfold p_key at z
        exact ⟨by rw [i_eq, nI_toInt (by omega)]; omega, by rw [i_eq, nI_toInt (by omega)]; omega⟩)
      rw [decide_eq_false e2, Bool.and_false]
      by_cases q1 : P k 0 = nI r
      · rw [decide_eq_false (fun z => q ⟨q1, z⟩), Bool.false_and, Bool.and_false, Bool.and_false]
      · rw [decide_eq_false q1, Bool.false_and, Bool.and_false]
theorem p_sc_none {P : Nat → Nat → Int32} {ag : Nat → Int32} {cl p a3 a4 a5 : Int32} {L : List Nat} (hok : ∀ k ∈ L, p_ok P k) {r c : Nat} (h3 : c = 8 ∨ (c < 8 ∧ ¬ a3 = -1 ∧ ¬ a3 = nI c)) : L.filter (fun k => p_sc P ag cl p a3 a4 a5 k && decide (p_key P k = 9 * r + c)) = [] := by
  rw [List.filter_eq_nil_iff]
  intro k hk z
  unfold p_sc at z
  simp only [Bool.and_eq_true, Bool.or_eq_true, decide_eq_true_eq] at z
  obtain ⟨⟨_, z1, _, _, hl⟩, z2⟩ := z
  obtain ⟨c1, c2⟩ := p_live_c (hok k hk) hl
  obtain ⟨r1, r2, _⟩ := hok k hk
  unfold p_key at z2
  rcases h3 with h3 | ⟨h3, h4, h5⟩
  · omega
  · rcases z1 with z1 | z1
    · exact h4 z1
    · exact h5 (by rw [← z1, i_eq, nI_toInt (by omega)]; omega)
theorem e_scanC {j s T : Nat} {σ : x_T} {τ : m_T} {L R : List Nat} {tc : Nat → Nat} {B : Nat → Int32} (h : r_Q j σ τ L R s T tc B) {p a1 a2 a3 a4 a5 : Int32} {r : Nat} (hr : r < 64) (hp : p ≤ nI r) (K : m_T → Option (Int32 × m_T)) (hq : q_fnd (x_P σ) τ (p_G (x_P σ) (p_sc (x_P σ) (x_I σ 2) (x_S σ 2) p a3 a4 a5) L (9 * (r : Int)))) : ∃ τ', f_M_scan_L49 1000 a1 a2 a3 a4 a5 (nI r) K 1000 0 τ = K τ' ∧ r_Q j σ τ' L R s T tc B ∧ q_fnd (x_P σ) τ' (p_G (x_P σ) (p_sc (x_P σ) (x_I σ 2) (x_S σ 2) p a3 a4 a5) L (9 * ((r + 1 : Nat) : Int))) := by
  have hL := h.2.2.2.2.1
  have hok : ∀ k ∈ L, p_ok (x_P σ) k := fun k hk => (hL.2.2.2.2.2.2.1 k hk).1
  have hkeys := hL.keys
  obtain ⟨τ', e1, e2, e3⟩ := q_inv (fun n (τ : m_T) i => f_M_scan_L49 1000 a1 a2 a3 a4 a5 (nI r) K n i τ) K (fun c τ => r_Q j σ τ L R s T tc B ∧ q_fnd (x_P σ) τ (p_G (x_P σ) (p_sc (x_P σ) (x_I σ 2) (x_S σ 2) p a3 a4 a5) L (9 * (r : Int) + (c : Int)))) 8
    (fun n τ _ => by show f_M_scan_L49 1000 _ _ _ _ _ _ K (n + 1) _ τ = _; rw [f_M_scan_L49, if_pos (by decide)])
    (fun n τ c hc hI => by
      obtain ⟨hQ, hF⟩ := hI
      show ∃ s', f_M_scan_L49 1000 _ _ _ _ _ _ K (n + 1) _ τ = f_M_scan_L49 1000 _ _ _ _ _ _ K n _ s' ∧ _
      rw [f_M_scan_L49, if_neg (show ¬ (8 : Int32) ≤ nI c by rw [i_le, i_8, nI_toInt (by omega)]; omega), ← nI_succ]
      have hs := p_G_s (c := p_sc (x_P σ) (x_I σ 2) (x_S σ 2) p a3 a4 a5) hkeys (9 * (r : Int) + (c : Int))
      have hcast : (9 * (r : Int) + ((c + 1 : Nat) : Int)) = 9 * (r : Int) + (c : Int) + 1 := by omega
      have take : (a3 = -1 ∨ a3 = nI c) → ∃ s', (f_M_gather 1000 τ (nI r) (nI c) a4 a5) = some s' ∧ r_Q j σ s' L R s T tc B ∧ q_fnd (x_P σ) s' (p_G (x_P σ) (p_sc (x_P σ) (x_I σ 2) (x_S σ 2) p a3 a4 a5) L (9 * (r : Int) + ((c + 1 : Nat) : Int))) := fun h3 => by
        obtain ⟨hA, hB, hX, hS, hL, hT, hC, h4, h5⟩ := hQ
        have hbl := r_R.bl hA hL hT hC
        have hcs := p_col_perm (P := x_P σ) (ag := x_I σ 2) (cl := x_S σ 2) hL.2.1 (nI r) (nI c)
        have hcd := p_col_sorted (ag := x_I σ 2) (cl := x_S σ 2) hL.2.2.2.2.2.2.2.1 hok hC.1 (nI r) (nI c)
        have hlen : (p_col (x_P σ) (x_I σ 2) (x_S σ 2) L (nI r) (nI c)).length ≤ 247 := Nat.le_trans (List.length_filter_le _ _) hL.1.2.1
        rw [p_sc_col hok hr hc hp h3] at hs
        have hl2 : (p_G (x_P σ) (p_sc (x_P σ) (x_I σ 2) (x_S σ 2) p a3 a4 a5) L (9 * (r : Int) + (c : Int))).length + ((p_col (x_P σ) (x_I σ 2) (x_S σ 2) L (nI r) (nI c)).filter (fun k => decide (a4 ≤ x_P σ k 3) && decide (x_P σ k 3 ≤ a5))).length ≤ 247 := by
          rw [← List.length_append, ← hs]
          exact Nat.le_trans (List.length_filter_le _ _) hL.1.2.1
        obtain ⟨f', g', w', g1, g2⟩ := e_gather hbl (N := 1000) (by omega) (nI r) (nI c) a4 a5 hcs hcd (by omega) hl2 hF
        refine ⟨_, g1, ⟨hA, hB, hX, hS, hL, hT, hC, h4, h5⟩, ?_⟩
        rw [hcast, hs]
        exact g2
      by_cases c1 : a3 = -1
      · obtain ⟨s', g1, g2, g3⟩ := take (Or.inl c1)
        rw [if_pos c1, g1, Option.bind_some]
        exact ⟨s', rfl, g2, g3⟩
      · rw [if_neg c1]
        by_cases c2 : a3 = nI c
        · obtain ⟨s', g1, g2, g3⟩ := take (Or.inr c2)
          rw [if_pos c2, g1, Option.bind_some]
          exact ⟨s', rfl, g2, g3⟩
        · rw [if_neg c2]
          refine ⟨τ, rfl, hQ, ?_⟩
          rw [hcast, hs, p_sc_none hok (Or.inr ⟨hc, c1, c2⟩), List.append_nil]
          exact hF)
    8 0 1000 τ (by omega) (by omega) ⟨h, by simpa using hq⟩
  refine ⟨τ', e1, e2, ?_⟩
  have hs := p_G_s (c := p_sc (x_P σ) (x_I σ 2) (x_S σ 2) p a3 a4 a5) hkeys (9 * (r : Int) + ((8 : Nat) : Int))
  rw [p_sc_none hok (Or.inl rfl), List.append_nil] at hs
  rw [show 9 * ((r + 1 : Nat) : Int) = 9 * (r : Int) + ((8 : Nat) : Int) + 1 by omega, hs]
  exact e3
theorem e_skip (a1 a2 a3 a4 a5 : Int32) (K : m_T → Option (Int32 × m_T)) : ∀ (d r r' n m : Nat) (τ : m_T), n = m + d → r' = r + d → r' ≤ 64 → (∀ x : Nat, r ≤ x → x < r' → nI x < a1 ∨ a2 < nI x) → f_M_scan_L21 1000 a1 a2 a3 a4 a5 K n (nI r) τ = f_M_scan_L21 1000 a1 a2 a3 a4 a5 K m (nI r') τ := by
  intro d
  induction d with
  | zero => intro r r' n m τ h1 h2 _ _; rw [h1, h2]; rfl
  | succ d ih =>
    intro r r' n m τ h1 h2 hr hx
    obtain ⟨n, rfl⟩ : ∃ a, n = a + 1 := ⟨n - 1, by omega⟩
    have e := ih (r + 1) r' n m τ (by omega) (by omega) hr (fun x h1 h2 => hx x (by omega) (by omega))
    rw [← e]
    rw [f_M_scan_L21, if_neg (show ¬ (64 : Int32) ≤ nI r by rw [i_le, i_64, nI_toInt (by omega)]; omega), ← nI_succ]
    by_cases c1 : nI r < a1
    · rw [if_pos c1]
    · rw [if_neg c1, if_pos ((hx r (by omega) (by omega)).resolve_left c1)]
theorem e_skipE (a1 a2 a3 a4 a5 : Int32) (K : m_T → Option (Int32 × m_T)) (m : Nat) (τ : m_T) : f_M_scan_L21 1000 a1 a2 a3 a4 a5 K (m + 1) (nI 64) τ = K τ := by
  rw [f_M_scan_L21, if_pos (by decide)]
theorem e_scan0 (a3 a4 a5 p ql : Int32) (h : ql < p) (K : x_T → Option (Int32 × x_T)) (m : Nat) (σ : x_T) : f_T_scan_L33 1000 a3 a4 a5 p ql K (m + 1) p σ = K σ := by
  rw [f_T_scan_L33, if_pos h]
theorem e_scanR {j s T : Nat} {L R : List Nat} {tc : Nat → Nat} {B : Nat → Int32} {P : Nat → Nat → Int32} {ag : Nat → Int32} {cl p a1 a2 a3 a4 a5 u6 : Int32} (hap : a1 ≤ p) {q : Nat} (hq : q < 64) (hq2 : nI q ≤ a2) (KX : x_T → Option (Int32 × x_T)) (KM : m_T → Option (Int32 × m_T)) : ∀ (d r n m m' : Nat) (σ : x_T) (τ : m_T), r + d = q + 1 → d < n → m = m' + d → p ≤ nI r → r_Q j σ τ L R s T tc B → (x_P σ = P ∧ x_I σ 2 = ag ∧ x_S σ 2 = cl) → q_fnd P τ (p_G P (p_sc P ag cl p a3 a4 a5) L (9 * (r : Int))) → ∃ σ' τ', f_T_scan_L33 1000 a3 a4 a5 u6 (nI q) KX n (nI r) σ = KX σ' ∧ f_M_scan_L21 1000 a1 a2 a3 a4 a5 KM m (nI r) τ = f_M_scan_L21 1000 a1 a2 a3 a4 a5 KM m' (nI (q + 1)) τ' ∧ r_Q j σ' τ' L R s T tc B ∧ (x_P σ' = P ∧ x_I σ' 2 = ag ∧ x_S σ' 2 = cl) ∧ q_fnd P τ' (p_G P (p_sc P ag cl p a3 a4 a5) L (9 * ((q + 1 : Nat) : Int))) := by
  intro d
  induction d with
  | zero =>
    intro r n m m' σ τ hr hn hm hp hQ hP hF
    obtain ⟨n, rfl⟩ : ∃ a, n = a + 1 := ⟨n - 1, by omega⟩
    obtain rfl : r = q + 1 := by omega
    obtain rfl : m = m' := by omega
    refine ⟨σ, τ, ?_, rfl, hQ, hP, hF⟩
    rw [f_T_scan_L33, if_pos (nI_lt (by omega) (by omega))]
  | succ d ih =>
    intro r n m m' σ τ hr hn hm hp hQ hP hF
    obtain ⟨n, rfl⟩ : ∃ a, n = a + 1 := ⟨n - 1, by omega⟩
    obtain ⟨m, rfl⟩ : ∃ a, m = a + 1 := ⟨m - 1, by omega⟩
    have ti := nI_toInt (show r < 2 ^ 31 by omega)
    obtain ⟨σ1, v, l1, l2, hQ1, p1, p2, p3⟩ := r_look2 hQ (w := nI r) (by omega) (by omega)
    obtain ⟨rfl, rfl, rfl⟩ := hP
    have hF1 : q_fnd (x_P σ1) (m_sS τ 31 v) (p_G (x_P σ1) (p_sc (x_P σ1) (x_I σ1 2) (x_S σ1 2) p a3 a4 a5) L (9 * (r : Int))) := by
      rw [p1, p2, p3]
      exact hF
    obtain ⟨τ2, g1, g2, g3⟩ := e_scanC hQ1 (a1 := a1) (a2 := a2) (by omega) hp (fun t8 => f_M_scan_L21 1000 a1 a2 a3 a4 a5 KM m (nI r + 1) t8) hF1
    rw [p1, p2, p3] at g3
    obtain ⟨σ', τ', i1, i2, i3, i4, i5⟩ := ih (r + 1) n m m' σ1 τ2 (by omega) (by omega) (by omega) (by rw [i_le] at hp ⊢; rw [nI_toInt (by omega)]; omega) g2 ⟨p1, p2, p3⟩ g3
    refine ⟨σ', τ', ?_, ?_, i3, i4, i5⟩
    · rw [f_T_scan_L33, if_neg (nI_nlt (by omega) (by omega)), l1, Option.bind_some, ← nI_succ]
      exact i1
    · rw [f_M_scan_L21, if_neg (show ¬ (64 : Int32) ≤ nI r by rw [i_le, i_64]; omega), if_neg (show ¬ nI r < a1 by rw [i_lt]; rw [i_le] at hp hap; omega), if_neg (show ¬ a2 < nI r by rw [i_lt]; rw [i_le, nI_toInt (by omega)] at hq2; omega), l2, Option.bind_some]
      refine Eq.trans g1 ?_
      rw [← nI_succ]
      exact i2
def x_wR (σ : x_T) (f : Nat → Int64) (v : Int32) : x_T := (va_up σ.1 11 v, σ.2.1, va_up σ.2.2.1 10 f, σ.2.2.2)
theorem x_wR_s {σ : x_T} {f : Nat → Int64} {v w : Int32} {i : Nat} {x : Int64} : x_sS (x_sL (x_wR σ f v) 10 i x) 11 w = x_wR σ (vp_updL f i x) w := by
  unfold x_sS x_sL x_wR
  refine Prod.ext (bx_uu _ _ _ _) (Prod.ext rfl (Prod.ext (bx_uu _ _ _ _) rfl))
theorem x_wR_id {σ : x_T} : x_wR σ (x_L σ 10) (x_S σ 11) = σ := by
  unfold x_wR
  refine Prod.ext ?_ (Prod.ext rfl (Prod.ext ?_ rfl))
  · funext a
    by_cases h1 : a = 11
    · subst h1; rfl
    · simp only [va_up, h1, if_false]
  · funext a
    by_cases h1 : a = 10
    · subst h1; rfl
    · simp only [va_up, h1, if_false]
