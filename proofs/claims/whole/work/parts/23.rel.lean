/-! The relation between the class's state and the reference's. -/
def p_ok (P : Nat → Nat → Int32) (k : Nat) : Prop := 0 ≤ (P k 0).toInt ∧ (P k 0).toInt < 64 ∧ -1 ≤ (P k 1).toInt ∧ (P k 1).toInt < 8 ∧ -1 ≤ (P k 3).toInt ∧ (P k 3).toInt < 10000 ∧ (P k 4 = 0 ∨ P k 4 = 1) ∧ (P k 1 = -1 → P k 3 = -1) ∧ (P k 3 = -1 → P k 4 = 1) ∧ P k 2 = (if P k 1 < 4 then 0 else 1) ∧ (P k 7).toInt = ((P k 0).toInt * 9 + (P k 1).toInt + 1) * 10001 + (if P k 3 = -1 then 0 else 10000 - (P k 3).toInt) ∧ P k 11 = 0 ∧ (P k 9 = 0 ∨ P k 9 = 1) ∧ (P k 10 = 0 ∨ P k 10 = 1)
def p_ord (P : Nat → Nat → Int32) (a b : Nat) : Prop := (P a 7).toInt < (P b 7).toInt ∨ (P a 7 = P b 7 ∧ (P b 6).toInt < (P a 6).toInt)
def p_cv (P : Nat → Nat → Int32) (a k : Nat) : Bool := decide (P k 6 < P a 6) && (decide (P a 0 = P k 0) && (decide (P a 1 = -1) || (decide (P a 1 = P k 1) && (decide (P a 3 = -1) || decide (P a 3 = P k 3)))))
def p_old (P : Nat → Nat → Int32) (ag : Nat → Int32) (cl : Int32) (k : Nat) : Bool := decide (P k 4 = 0) && (!decide (ag (P k 2).toNatClampNeg = 0) && decide (P k 3 + ag (P k 2).toNatClampNeg ≤ cl))
def p_live (P : Nat → Nat → Int32) (ag : Nat → Int32) (cl : Int32) (k : Nat) : Bool := decide (P k 4 = 0) && (decide (P k 10 = 0) && !p_old P ag cl k)
def p_cov (P : Nat → Nat → Int32) (ag : Nat → Int32) (cl : Int32) (L : List Nat) : Prop := ∀ k ∈ L, P k 4 = 0 → p_old P ag cl k = false → (P k 10 = 0 ↔ ∀ a ∈ L, p_cv P a k = false)
def p_num (P : Nat → Nat → Int32) (ag nu : Nat → Int32) (cl : Int32) (L : List Nat) : Prop := ∀ r c : Int32, 0 ≤ c.toInt → c.toInt < 8 → ¬ nu (if c < 4 then 0 else 1) = 0 → (L.countP (fun k => decide (P k 0 = r) && (decide (P k 1 = c) && p_live P ag cl k)) : Int) ≤ (nu (if c < 4 then 0 else 1)).toInt
def p_bat (P : Nat → Nat → Int32) (B : Nat → Int32) (ap : Int32) (L : List Nat) : Prop := (∀ k ∈ L, 0 < (B k).toInt ∧ (B k).toInt ≤ ap.toInt) ∧ (∀ a ∈ L, ∀ k ∈ L, B a = B k → P a 0 = P k 0) ∧ ∀ k ∈ L, P k 8 = -1 → (P k 9 = 0 ↔ ∃ a ∈ L, (P a 6).toInt < (P k 6).toInt ∧ P a 8 = -1 ∧ B a = B k)
def r_A (j : Nat) (σ : x_T) (τ : m_T) : Prop := (∃ c : Nat, c ≤ 5000 * j ∧ x_S σ 2 = nI c) ∧ m_S τ 14 = x_S σ 2 ∧ (∀ i : Nat, i < 2 → m_I τ 11 i = x_I σ 1 i ∧ m_I τ 12 i = x_I σ 2 i ∧ 0 ≤ (x_I σ 1 i).toInt ∧ (x_I σ 1 i).toInt ≤ 5 ∧ 0 ≤ (x_I σ 2 i).toInt ∧ (x_I σ 2 i).toInt ≤ 9999) ∧ m_S τ 26 = x_S σ 9 ∧ (x_S σ 9 = 0 ∨ x_S σ 9 = 1) ∧ m_S τ 31 = x_S σ 13
def r_kd (c t e : Int32) : Int32 := if e = 0 then 0 else if c = -1 then 3 else if t = -1 then 2 else 1
def r_ch (c t e : Int32) : Prop := (e = 0 ∧ 0 ≤ c.toInt ∧ c.toInt < 8 ∧ 0 ≤ t.toInt ∧ t.toInt < 10000) ∨ (e = 1 ∧ ((c = -1 ∧ t = -1) ∨ (0 ≤ c.toInt ∧ c.toInt < 8 ∧ -1 ≤ t.toInt ∧ t.toInt < 10000)))
def r_Bs (s : Nat) (σ : x_T) (τ : m_T) : Prop := s ≤ 4 ∧ x_S σ 21 = nI s ∧ m_S τ 15 = nI s ∧ (0 < s → m_S τ 17 = x_S σ 20 ∧ 0 ≤ (x_S σ 20).toInt ∧ (x_S σ 20).toInt < 64) ∧ ∀ i : Nat, i < s → m_I τ 14 i = x_I σ 6 i ∧ m_I τ 15 i = x_I σ 7 i ∧ m_I τ 16 i = x_I σ 8 i ∧ r_ch (x_I σ 6 i) (x_I σ 7 i) (x_I σ 9 i) ∧ m_I τ 13 i = r_kd (x_I σ 6 i) (x_I σ 7 i) (x_I σ 9 i)
def r_B (σ : x_T) (τ : m_T) : Prop := ∃ s : Nat, r_Bs s σ τ
def r_X (σ : x_T) (τ : m_T) : Prop := m_S τ 21 = x_S σ 26 ∧ (x_S σ 26 = 0 ∨ x_S σ 26 = 1) ∧ (x_S σ 26 = 1 → m_S τ 22 = x_S σ 27 ∧ m_S τ 23 = x_S σ 28 ∧ m_S τ 24 = x_S σ 29 ∧ m_S τ 25 = x_S σ 30 ∧ 0 ≤ (x_S σ 27).toInt ∧ (x_S σ 27).toInt < 64 ∧ 0 ≤ (x_S σ 28).toInt ∧ (x_S σ 28).toInt < 8 ∧ (x_S σ 29 = 0 ∨ x_S σ 29 = 1))
def q_pk (h v : Int32) : Int64 := 4294967296 * h.toInt64 + (v.toInt64 &&& 4294967295)
def r_F (σ : x_T) (τ : m_T) : Prop := ∃ f : Nat, f ≤ 247 ∧ x_S σ 11 = nI f ∧ m_S τ 28 = nI f ∧ ∀ i : Nat, i < f → x_L σ 10 i = q_pk (m_I τ 17 i) (m_I τ 18 i)
def r_S (σ : x_T) : Prop := ∃ s : Nat, s ≤ 247 ∧ x_S σ 41 = nI s ∧ ∀ k : Nat, s ≤ k → k < 247 → x_L σ 12 k = 0 ∧ x_I σ 13 k = 0 ∧ x_I σ 14 k = 0
/-- the pool -/
def r_P (σ : x_T) : Prop := x_ok σ ∧ ∀ i j k : Nat, x_E σ i = some k → x_E σ j = some k → i = j
/-- the entries: L in the class's order, R in the reference's; T tablets; tc t tables of tablet t; B k the batch of k; s the last sequence -/
def r_L (j : Nat) (σ : x_T) (L R : List Nat) (s : Nat) : Prop := LX σ L ∧ L.Perm R ∧ L.Nodup ∧ r_P σ ∧ x_S σ 5 = nI s ∧ s ≤ 8 * j ∧ (∀ k ∈ L, p_ok (x_P σ) k ∧ 0 < (x_P σ k 6).toInt ∧ (x_P σ k 6).toInt ≤ s) ∧ L.Pairwise (p_ord (x_P σ)) ∧ R.Pairwise (fun a b => (x_P σ a 6).toInt < (x_P σ b 6).toInt)
def r_T (σ : x_T) (τ : m_T) (L R : List Nat) (T : Nat) (tc : Nat → Nat) : Prop := x_S σ 7 = nI T ∧ m_S τ 9 = nI T ∧ p_fr (x_I σ 4) T ∧ (∀ t : Nat, t < T → m_I τ 9 t = x_I σ 4 t) ∧ LM τ (x_P σ) R (x_I σ 4) T ∧ ∀ t : Nat, t < T → m_I τ 10 t = nI (tc t) ∧ p_tc (x_P σ) (x_sg σ L t) (tc t)
def r_C (σ : x_T) (τ : m_T) (L R : List Nat) (B : Nat → Int32) : Prop := p_cov (x_P σ) (x_I σ 2) (x_S σ 2) L ∧ p_num (x_P σ) (x_I σ 2) (x_I σ 1) (x_S σ 2) L ∧ (∀ i k : Nat, R[i]? = some k → m_I τ 6 i = B k) ∧ p_bat (x_P σ) B (m_S τ 27) L
def r_E (j : Nat) (σ : x_T) (τ : m_T) : Prop := ∃ (L R : List Nat) (s T : Nat) (tc : Nat → Nat) (B : Nat → Int32), r_L j σ L R s ∧ r_T σ τ L R T tc ∧ r_C σ τ L R B ∧ 0 ≤ (m_S τ 27).toInt ∧ (m_S τ 27).toInt ≤ j
def r_R (j : Nat) (σ : x_T) (τ : m_T) : Prop := r_A j σ τ ∧ r_B σ τ ∧ r_X σ τ ∧ r_F σ τ ∧ r_S σ ∧ r_E j σ τ
theorem r_A.mono {j : Nat} {σ : x_T} {τ : m_T} (h : r_A j σ τ) : r_A (j + 1) σ τ := by
  obtain ⟨⟨c, hc, e⟩, h⟩ := h
  exact ⟨⟨c, by omega, e⟩, h⟩
theorem r_L.mono {j s : Nat} {σ : x_T} {L R : List Nat} (h : r_L j σ L R s) : r_L (j + 1) σ L R s := by
  obtain ⟨h1, h2, h3, h4, h5, h6, h7⟩ := h
  exact ⟨h1, h2, h3, h4, h5, by omega, h7⟩
theorem r_E.mono {j : Nat} {σ : x_T} {τ : m_T} (h : r_E j σ τ) : r_E (j + 1) σ τ := by
  obtain ⟨L, R, s, T, tc, B, h1, h2, h3, h4, h5⟩ := h
  exact ⟨L, R, s, T, tc, B, h1.mono, h2, h3, h4, by omega⟩
theorem sim_mono : s_mono r_R := fun j σ τ h => ⟨h.1.mono, h.2.1, h.2.2.1, h.2.2.2.1, h.2.2.2.2.1, h.2.2.2.2.2.mono⟩
theorem sim_tear : s_tear r_R := fun j σ τ hj h => by
  obtain ⟨hA, hB, hX, hF, hS, hE⟩ := h
  refine ⟨x_sS σ 9 1, m_sS τ 26 1, rfl, rfl, ?_, hB, hX, hF, hS, hE.mono⟩
  obtain ⟨h1, h2, h3, h4, h5, h6⟩ := hA.mono
  exact ⟨h1, h2, h3, rfl, Or.inr rfl, h6⟩
theorem r_empty {σ : x_T} {τ : m_T} : r_B (x_sS (x_sS σ 21 0) 26 0) (m_sS (m_sS τ 15 0) 21 0) := ⟨0, by omega, rfl, rfl, fun h => absurd h (by omega), fun i hi => absurd hi (by omega)⟩
theorem r_noexp {σ : x_T} {τ : m_T} : r_X (x_sS (x_sS σ 21 0) 26 0) (m_sS (m_sS τ 15 0) 21 0) := ⟨rfl, Or.inl rfl, fun h => absurd (show (0 : Int32) = 1 from h) (by decide)⟩
theorem sim_crash : s_crash r_R := fun j σ τ hj h => by
  obtain ⟨hA, hB, hX, hF, hS, hE⟩ := h
  refine ⟨x_sS (x_sS σ 21 0) 26 0, m_sS (m_sS τ 15 0) 21 0, rfl, rfl, ?_, r_empty, r_noexp, hF, hS, hE.mono⟩
  exact hA.mono
theorem sim_looked : s_looked r_R := fun j σ τ hj h => ⟨x_S σ 13, rfl, by
  show some (m_S τ 31) = _
  rw [h.1.2.2.2.2.2]⟩
