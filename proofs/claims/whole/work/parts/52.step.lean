/-! apply: one change; the loop over the changes; the expectation. -/
theorem r_kd_0 {c t e : Int32} : r_kd c t e = 0 ↔ e = 0 := by
  unfold r_kd
  by_cases h : e = 0
  · rw [if_pos h]
    exact ⟨fun _ => h, fun _ => rfl⟩
  · rw [if_neg h]
    refine ⟨fun q => ?_, fun q => absurd q h⟩
    by_cases h1 : c = -1
    · rw [if_pos h1] at q
      exact absurd q (by decide)
    · rw [if_neg h1] at q
      by_cases h2 : t = -1
      · rw [if_pos h2] at q
        exact absurd q (by decide)
      · rw [if_neg h2] at q
        exact absurd q (by decide)
theorem e_chg {σ σ1 : x_T} {i k N : Nat} (hi : i < 4) (e1 : f_T_makeEntry N σ (x_S σ 20) (x_I σ 6 i) (x_I σ 7 i) (x_I σ 9 i) = some (some k, σ1)) (hk : k < x_N σ1) (h8 : x_I σ1 8 = x_I σ 8) {σ2 : x_T} (h2 : x_sP (x_sP σ1 k 5 (x_I σ 8 i)) k 9 (if i = 0 then 1 else 0) = σ2) : f_T_applyChange N σ (nI i) = if x_I σ 9 i = 0 then f_T_eraseBeyondNumber N σ2 (x_S σ2 20) (x_I σ 6 i) else some σ2 := by
  have hi4 := q_in_of hi (show 4 < 2 ^ 31 by omega)
  subst h2
  unfold f_T_applyChange
  rw [q_gd_t hi4, q_gd_t hi4, q_gd_t hi4, nI_cl (by omega), e1, Option.bind_some]
  dsimp only
  rw [q_om_s rfl, q_gd_t hi4, q_gd_t (q_lt_of hk), h8]
  simp only [q_let]
  by_cases q : i = 0
  · rw [if_pos (show nI i = 0 by rw [q]; exact nI_0), if_pos q]
    by_cases z : x_I σ 9 i = 0
    · rw [if_pos z, if_pos z]
      generalize f_T_eraseBeyondNumber N _ _ _ = y
      cases y <;> rfl
    · rw [if_neg z, if_neg z]
  · rw [if_neg (show ¬ nI i = 0 by rw [i_eq, nI_toInt (by omega), i_0]; omega), if_neg q]
    by_cases z : x_I σ 9 i = 0
    · rw [if_pos z, if_pos z]
      generalize f_T_eraseBeyondNumber N _ _ _ = y
      cases y <;> rfl
    · rw [if_neg z, if_neg z]
def f_st (N : Nat) (u : Int32) (i : Nat) (τ : m_T) : Option m_T := (f_M_make N τ (m_I τ 13 i) u (m_I τ 14 i) (m_I τ 15 i) (m_I τ 16 i)).bind fun s => if m_I s 13 i = 0 then f_M_trim N s u (m_I s 14 i) else some s
theorem e_st81 {N : Nat} {u u4 : Int32} {i q : Nat} (hi : i < q) (hq : q ≤ 4) (K : m_T → Option (Int32 × m_T)) (n : Nat) (τ : m_T) : f_M_apply_L81 N u (nI q) u4 K (n + 1) (nI i) τ = (f_st N u i τ).bind (fun s => f_M_apply_L81 N u (nI q) u4 K n (nI (i + 1)) s) := by
  have hi4 := q_in_of (show i < 4 by omega) (show 4 < 2 ^ 31 by omega)
  rw [f_M_apply_L81, if_neg (nI_ge hi (by omega)), q_gd_t hi4, q_gd_t hi4, q_gd_t hi4, q_gd_t hi4]
  unfold f_st
  simp only [nI_cl (show i < 2 ^ 31 by omega), q_gd_t hi4, ← nI_succ]
  generalize f_M_make N τ _ _ _ _ _ = y
  cases y with
  | none => rfl
  | some s =>
    rw [Option.bind_some, Option.bind_some]
    by_cases z : m_I s 13 i = 0
    · rw [if_pos z, if_pos z]
    · rw [if_neg z, if_neg z, Option.bind_some]
/-- after i changes -/
def r_I (j : Nat) (σ0 : x_T) (τ1 : m_T) (i : Nat) (σ : x_T) (τ : m_T) : Prop := ∃ (L R : List Nat) (s T : Nat) (tc : Nat → Nat) (B : Nat → Int32), r_M (j + 1) σ τ L R s T tc B (x_S σ0 20) ∧ p_num (x_P σ) (x_I σ0 2) (x_I σ0 1) (x_S σ0 2) L ∧ L.length ≤ 239 + 2 * i ∧ s ≤ 8 * j + 2 * i ∧ x_fr σ0 σ ∧ m_fr τ1 τ ∧ (i = 0 ↔ ¬ ∃ b ∈ L, B b = m_S τ 27)
def r_cg (σ0 : x_T) (τ1 : m_T) (i : Nat) : Prop := m_I τ1 14 i = x_I σ0 6 i ∧ m_I τ1 15 i = x_I σ0 7 i ∧ m_I τ1 16 i = x_I σ0 8 i ∧ r_ch (x_I σ0 6 i) (x_I σ0 7 i) (x_I σ0 9 i) ∧ m_I τ1 13 i = r_kd (x_I σ0 6 i) (x_I σ0 7 i) (x_I σ0 9 i)
theorem r_step {j i : Nat} {σ0 σ : x_T} {τ1 τ : m_T} (hj : j < 512) (hi : i < 4) (hA : r_A j σ0 τ1) (hr : 0 ≤ (x_S σ0 20).toInt ∧ (x_S σ0 20).toInt < 64) (hc : r_cg σ0 τ1 i) (hap : 0 < (m_S τ1 27).toInt) (h : r_I j σ0 τ1 i σ τ) : ∃ σ' τ', f_T_applyChange 1000 σ (nI i) = some σ' ∧ f_st 1000 (x_S σ0 20) i τ = some τ' ∧ r_I j σ0 τ1 (i + 1) σ' τ' := by
  obtain ⟨L, R, s, T, tc, B, hM, hn, hl, hs, hx, hm, hb⟩ := h
  obtain ⟨c1, c2, c3, hch, c5⟩ := hc
  have hS20 := hx.2.2 20 (by decide) (by decide)
  have hS2 := hx.2.2 2 (by decide) (by decide)
  have hI1 := hx.I 1
  have hI2 := hx.I 2
  have ap := hm.1 27 (by decide)
  rw [← hS20] at hM hr ⊢
  rw [← hI1, ← hI2, ← hS2] at hn
  rw [← hx.I 6, ← hx.I 7, ← hx.I 9] at hch c5
  rw [← hx.I 6, ← hm.2 14 (by decide)] at c1
  rw [← hx.I 7, ← hm.2 15 (by decide)] at c2
  rw [← hx.I 8, ← hm.2 16 (by decide)] at c3
  rw [← hm.2 13 (by decide)] at c5
  rw [← ap] at hap
  have ho : (if i = 0 then (1 : Int32) else 0) = 0 ↔ ∃ b ∈ L, B b = m_S τ 27 := by
    by_cases q : i = 0
    · rw [if_pos q]
      exact ⟨fun z => absurd z (by decide), fun z => absurd z (hb.mp q)⟩
    · rw [if_neg q]
      exact ⟨fun _ => Classical.byContradiction (fun z => q (hb.mpr z)), fun _ => rfl⟩
  have ho1 : (if i = 0 then (1 : Int32) else 0) = 0 ∨ (if i = 0 then (1 : Int32) else 0) = 1 := by
    by_cases q : i = 0
    · rw [if_pos q]; exact Or.inr rfl
    · rw [if_neg q]; exact Or.inl rfl
  obtain ⟨k, L', B', E, N3, P3, P4, A, e1, e2, e3, e4, e5, e6, e7, e8, e9, ⟨p0, p1, p3, p4, p6⟩, hne, hlv⟩ := r_make (j' := j + 1) (c := x_I σ 6 i) (tm := x_I σ 7 i) (e := x_I σ 9 i) (v := x_I σ 8 i) (o := if i = 0 then 1 else 0) hM (by omega) (by omega) (by omega) hr hch ho1 ho hap
  have x1 := e_chg hi e1 e2 rfl e5
  have hx2 : x_fr σ (x_g σ (va_up (va_up σ.1 5 (nI (s + 1))) 4 (nI (L.length + 1))) E N3 P4) := x_fr_g
  have hm2 : m_fr τ (m_sS (m_e8 τ A) 0 (nI (L.length + 1))) := m_fr_g
  have hP : x_P (x_g σ (va_up (va_up σ.1 5 (nI (s + 1))) 4 (nI (L.length + 1))) E N3 P4) = P4 := rfl
  have hlen := e8.length_eq
  rw [List.length_cons] at hlen
  have hkm : k ∈ L' := e8.mem_iff.mpr List.mem_cons_self
  have hcn := p_cnt_make e8 p0 p1 p4 hne hlv
  generalize x_g σ (va_up (va_up σ.1 5 (nI (s + 1))) 4 (nI (L.length + 1))) E N3 P4 = σ2 at x1 hx2 hP e7
  generalize m_sS (m_e8 τ A) 0 (nI (L.length + 1)) = τ2 at e6 hm2 e7
  have m1 : f_st 1000 (x_S σ 20) i τ = if x_I σ 9 i = 0 then f_M_trim 1000 τ2 (x_S σ 20) (x_I σ 6 i) else some τ2 := by
    unfold f_st
    rw [c1, c2, c3, c5, e6, Option.bind_some, hm2.2 13 (by decide), hm2.2 14 (by decide), c1, c5]
    by_cases z : x_I σ 9 i = 0
    · rw [if_pos (r_kd_0.mpr z), if_pos z]
    · rw [if_neg (fun y => z (r_kd_0.mp y)), if_neg z]
  have hS20' := hx2.2.2 20 (by decide) (by decide)
  have ap2 := hm2.1 27 (by decide)
  rw [x1, m1, hS20']
  by_cases z : x_I σ 9 i = 0
  · rw [if_pos z, if_pos z]
    have hcc : 0 ≤ (x_I σ 6 i).toInt ∧ (x_I σ 6 i).toInt < 8 := by
      rcases hch with ⟨_, y1, y2, _⟩ | ⟨y, _⟩
      · exact ⟨y1, y2⟩
      · rw [z] at y
        exact absurd y (by decide)
    obtain ⟨σ3, τ3, L3, R3, s3, B3, a1, a2, a3, a4, a5, a6, a7, a8, a9⟩ := r_trim (i := j) e7 ((hA.fr hx hm).fr hx2 hm2) (by omega) (by omega) hj hr hcc.1 hcc.2 ⟨k, hkm, e9.trans ap2.symm⟩ (by rw [ap2]; exact hap) (fun r' c' b1 b2 b3 => by
      have u := hcn r' c'
      rw [hP, hx2.I 2, hx2.I 1, hx2.2.2 2 (by decide) (by decide)]
      rw [hx2.I 1] at b3
      have w : (p_cnt (x_P σ) (x_I σ 2) (x_S σ 2) L r' c' : Int) ≤ _ := hn r' c' b1 b2 b3
      by_cases y : r' = x_S σ 20 ∧ c' = x_I σ 6 i
      · rw [if_pos ⟨z, y⟩] at u
        rw [if_pos y]
        omega
      · rw [if_neg (fun v => y v.2)] at u
        rw [if_neg y]
        omega)
    refine ⟨σ3, τ3, a1, a2, L3, R3, s3, T, tc, B3, by rw [← hS20]; exact a3, ?_, by omega, by omega, (hx.trans hx2).trans a7, (hm.trans hm2).trans a8, fun q => absurd q (by omega), fun q => absurd ?_ q⟩
    · rw [← hI1, ← hI2, ← hS2, ← hx2.I 2, ← hx2.I 1, ← hx2.2.2 2 (by decide) (by decide)]
      exact a4
    · obtain ⟨b, hb1, hb2⟩ := a9
      exact ⟨b, hb1, hb2.trans (a8.1 27 (by decide)).symm⟩
  · rw [if_neg z, if_neg z]
    refine ⟨σ2, τ2, rfl, rfl, L', R ++ [k], s + 1, T, tc, B', by rw [← hS20]; exact e7, ?_, by omega, by omega, hx.trans hx2, hm.trans hm2, fun q => absurd q (by omega), fun q => absurd ⟨k, hkm, e9.trans ap2.symm⟩ q⟩
    intro r' c' b1 b2 b3
    have u := hcn r' c'
    rw [← hI1] at b3 ⊢
    rw [hP, ← hI2, ← hS2]
    have w : (p_cnt (x_P σ) (x_I σ 2) (x_S σ 2) L r' c' : Int) ≤ _ := hn r' c' b1 b2 b3
    show (p_cnt P4 (x_I σ 2) (x_S σ 2) L' r' c' : Int) ≤ _
    rw [if_neg (fun v => z v.1)] at u
    omega
theorem r_loop {j q : Nat} {σ0 : x_T} {τ1 : m_T} (hj : j < 512) (hA : r_A j σ0 τ1) (hr : 0 ≤ (x_S σ0 20).toInt ∧ (x_S σ0 20).toInt < 64) (hap : 0 < (m_S τ1 27).toInt) (hq : q ≤ 4) (h21 : x_S σ0 21 = nI q) (hc : ∀ i : Nat, i < q → r_cg σ0 τ1 i) (u1 u4 : Int32) (K : x_T → Option (Int32 × x_T)) (K' : m_T → Option (Int32 × m_T)) : ∀ (d i n : Nat) (σ : x_T) (τ : m_T), i + d = q → d < n → r_I j σ0 τ1 i σ τ → ∃ σ' τ', f_T_applyChanges_L7 1000 u1 K n (nI i) σ = K σ' ∧ f_M_apply_L81 1000 (x_S σ0 20) (nI q) u4 K' n (nI i) τ = K' τ' ∧ r_I j σ0 τ1 q σ' τ' := by
  intro d
  induction d with
  | zero =>
    intro i n σ τ hd hn h
    obtain ⟨n, rfl⟩ : ∃ a, n = a + 1 := ⟨n - 1, by omega⟩
    obtain rfl : i = q := by omega
    have hx : x_S σ 21 = nI i := by
      obtain ⟨_, _, _, _, _, _, _, _, _, _, hx, _⟩ := h
      exact (hx.2.2 21 (by decide) (by decide)).trans h21
    refine ⟨σ, τ, ?_, ?_, h⟩
    · rw [f_T_applyChanges_L7, if_pos (by rw [hx, i_le]; exact Int.le_refl _)]
    · rw [f_M_apply_L81, if_pos (by rw [i_le]; exact Int.le_refl _)]
  | succ d ih =>
    intro i n σ τ hd hn h
    obtain ⟨n, rfl⟩ : ∃ a, n = a + 1 := ⟨n - 1, by omega⟩
    have hx : x_S σ 21 = nI q := by
      obtain ⟨_, _, _, _, _, _, _, _, _, _, hx, _⟩ := h
      exact (hx.2.2 21 (by decide) (by decide)).trans h21
    obtain ⟨σ', τ', a1, a2, a3⟩ := r_step hj (by omega) hA hr (hc i (by omega)) hap h
    obtain ⟨σ'', τ'', b1, b2, b3⟩ := ih (i + 1) n σ' τ' (by omega) (by omega) a3
    refine ⟨σ'', τ'', ?_, ?_, b3⟩
    · rw [f_T_applyChanges_L7, if_neg (by rw [hx]; exact nI_ge (by omega) (by omega)), a1, Option.bind_some, ← nI_succ]
      exact b1
    · rw [e_st81 (by omega) hq, a2, Option.bind_some]
      exact b2
theorem q_pick_0 : ∀ l : List Nat, q_pick 0 0 l = l.head? := fun l => by
  cases l with
  | nil => rfl
  | cons k l => rw [q_pick, if_pos nI_0]; rfl
theorem e_met {j s T : Nat} {σ : x_T} {τ : m_T} {L R : List Nat} {tc : Nat → Nat} {B : Nat → Int32} (hA : r_A j σ τ) (hX : r_X σ τ) (hL : r_L j σ L R s) (hT : r_T σ τ L R T tc) (hC : r_C σ τ L R B) : ∃ b, f_T_isExpectationMet 1000 σ = some b ∧ f_M_isMet 1000 τ = some b := by
  obtain ⟨x1, x2, x3⟩ := hX
  unfold f_T_isExpectationMet f_M_isMet
  rcases x2 with x2 | x2
  · rw [x1, x2, if01, if01]
    exact ⟨1, rfl, rfl⟩
  · obtain ⟨y1, y2, y3, y4, y5, y6, y7, y8, y9⟩ := x3 x2
    rw [x1, x2, if11, if11, y1, y2, y3, y4]
    have hok : ∀ k ∈ L, p_ok (x_P σ) k := fun k hk => (hL.2.2.2.2.2.2.1 k hk).1
    have hbl := r_R.bl hA hL hT hC
    have hcs := p_col_perm (P := x_P σ) (ag := x_I σ 2) (cl := x_S σ 2) hL.2.1 (x_S σ 27) (x_S σ 28)
    have hcd := p_col_sorted (ag := x_I σ 2) (cl := x_S σ 2) hL.2.2.2.2.2.2.2.1 hok hC.1 (x_S σ 27) (x_S σ 28)
    have htm : ∀ k ∈ p_col (x_P σ) (x_I σ 2) (x_S σ 2) L (x_S σ 27) (x_S σ 28), (x_P σ k 3).toInt < 10000 := fun k hk => by
      obtain ⟨k1, k2, k3, k4⟩ := p_col_mem.mp hk
      exact (p_live_t (hok k k1) k4).2.2
    have hlt : (p_col (x_P σ) (x_I σ 2) (x_S σ 2) L (x_S σ 27) (x_S σ 28)).filter (fun k => decide (x_P σ k 3 < 10000)) = p_col (x_P σ) (x_I σ 2) (x_S σ 2) L (x_S σ 27) (x_S σ 28) := List.filter_eq_self.mpr (fun k hk => by rw [decide_eq_true_eq, i_lt, i_10000]; exact htm k hk)
    have hle : (p_col (x_P σ) (x_I σ 2) (x_S σ 2) L (x_S σ 27) (x_S σ 28)).filter (fun k => decide (x_P σ k 3 ≤ 10000)) = p_col (x_P σ) (x_I σ 2) (x_S σ 2) L (x_S σ 27) (x_S σ 28) := List.filter_eq_self.mpr (fun k hk => by rw [decide_eq_true_eq, i_le, i_10000]; exact Int.le_of_lt (htm k hk))
    obtain ⟨v, b1, b2⟩ := e_belowI hbl (N := 1000) (by omega) (x_S σ 27) (x_S σ 28) 10000 hcs hcd
    rw [hlt] at b2
    rw [e_liveCell hL.1 hL.rows hok (by omega), hle, q_pick_0, b1, Option.bind_some, Option.bind_some]
    rcases b2 with ⟨o1, rfl⟩ | ⟨k, i, o1, o2, rfl⟩
    · rw [q_om_n o1]
      rcases y9 with y9 | y9
      · rw [y9, if01, if01, if_neg (show ¬ (0 : Int32) ≤ -1 by decide)]
        exact ⟨1, rfl, rfl⟩
      · rw [y9, if11, if11, if_pos (show (-1 : Int32) < 0 by decide)]
        exact ⟨0, rfl, rfl⟩
    · rw [q_om_s o1]
      obtain ⟨i1, i2, i3, i4⟩ := hbl.1.at o2
      obtain ⟨_, _, _, _, w5, _⟩ := hbl.1.2.2 i k o2
      have hkL := hL.2.1.mem_iff.mpr (List.mem_of_getElem? o2)
      obtain ⟨jj, hjj⟩ := List.getElem?_of_mem hkL
      rcases y9 with y9 | y9
      · rw [y9, if01, if01, if_pos (nI_pos' (by omega))]
        exact ⟨0, rfl, rfl⟩
      · rw [y9, if11, if11, if_neg (nI_pos (by omega)), q_gd_t i1, i2, w5, q_gd_t (q_lt_of (hL.1.2.2 jj k hjj).2)]
        by_cases z : x_P σ k 5 = x_S σ 30
        · rw [if_pos z]
          exact ⟨1, rfl, rfl⟩
        · rw [if_neg z]
          exact ⟨0, rfl, rfl⟩
