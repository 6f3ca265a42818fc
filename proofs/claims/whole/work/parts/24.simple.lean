/-! The calls that touch no entry: put, erase, expect, tick, found, and a new object. -/
theorem q_gd_true {α : Type} {x : Option α} : q_gd true x = x := rfl
theorem xSI {σ : x_T} {k j i : Nat} {v : Int32} : x_S (x_sI σ k j v) i = x_S σ i := rfl
theorem xSS {σ : x_T} {k i : Nat} {v : Int32} : x_S (x_sS σ k v) i = if i = k then v else x_S σ i := rfl
theorem xIS {σ : x_T} {k i : Nat} {v : Int32} : x_I (x_sS σ k v) i = x_I σ i := rfl
theorem xII {σ : x_T} {k j i : Nat} {v : Int32} : x_I (x_sI σ k j v) i = if i = k then upd (x_I σ k) j v else x_I σ i := rfl
theorem mSI {σ : m_T} {k j i : Nat} {v : Int32} : m_S (m_sI σ k j v) i = m_S σ i := rfl
theorem mSS {σ : m_T} {k i : Nat} {v : Int32} : m_S (m_sS σ k v) i = if i = k then v else m_S σ i := rfl
theorem mIS {σ : m_T} {k i : Nat} {v : Int32} : m_I (m_sS σ k v) i = m_I σ i := rfl
theorem mII {σ : m_T} {k j i : Nat} {v : Int32} : m_I (m_sI σ k j v) i = if i = k then upd (m_I σ k) j v else m_I σ i := rfl
theorem i_0 : (0 : Int32).toInt = 0 := rfl
theorem i_64 : (64 : Int32).toInt = 64 := rfl
theorem i_63 : (63 : Int32).toInt = 63 := rfl
theorem i_8 : (8 : Int32).toInt = 8 := rfl
theorem i_7 : (7 : Int32).toInt = 7 := rfl
theorem i_10000 : (10000 : Int32).toInt = 10000 := rfl
theorem i_9999 : (9999 : Int32).toInt = 9999 := rfl
theorem i_5000 : (5000 : Int32).toInt = 5000 := rfl
theorem i_4 : (4 : Int32).toInt = 4 := rfl
theorem e_isRow (a : Int32) : (0 ≤ a.toInt ∧ a.toInt < 64 ∧ f_T_isRow a = some 1 ∧ f_M_isRow a = some 1) ∨ (¬ (0 ≤ a.toInt ∧ a.toInt < 64) ∧ f_T_isRow a = some 0 ∧ f_M_isRow a = some 0) := by
  unfold f_T_isRow f_M_isRow
  by_cases h0 : a < 0
  · rw [if_pos h0, if_pos h0]
    rw [i_lt, i_0] at h0
    exact Or.inr ⟨by omega, rfl, rfl⟩
  · rw [if_neg h0, if_neg h0]
    rw [i_lt, i_0] at h0
    by_cases h1 : 64 ≤ a
    · rw [if_pos h1, if_pos (by rw [i_lt, i_63]; rw [i_le, i_64] at h1; omega)]
      rw [i_le, i_64] at h1
      exact Or.inr ⟨by omega, rfl, rfl⟩
    · rw [if_neg h1, if_neg (by rw [i_lt, i_63]; rw [i_le, i_64] at h1; omega)]
      rw [i_le, i_64] at h1
      exact Or.inl ⟨by omega, by omega, rfl, rfl⟩
theorem e_isColumn (a : Int32) : (0 ≤ a.toInt ∧ a.toInt < 8 ∧ f_T_isColumn a = some 1 ∧ f_M_isColumn a = some 1) ∨ (¬ (0 ≤ a.toInt ∧ a.toInt < 8) ∧ f_T_isColumn a = some 0 ∧ f_M_isColumn a = some 0) := by
  unfold f_T_isColumn f_M_isColumn
  by_cases h0 : a < 0
  · rw [if_pos h0, if_pos h0]
    rw [i_lt, i_0] at h0
    exact Or.inr ⟨by omega, rfl, rfl⟩
  · rw [if_neg h0, if_neg h0]
    rw [i_lt, i_0] at h0
    by_cases h1 : 8 ≤ a
    · rw [if_pos h1, if_pos (by rw [i_lt, i_7]; rw [i_le, i_8] at h1; omega)]
      rw [i_le, i_8] at h1
      exact Or.inr ⟨by omega, rfl, rfl⟩
    · rw [if_neg h1, if_neg (by rw [i_lt, i_7]; rw [i_le, i_8] at h1; omega)]
      rw [i_le, i_8] at h1
      exact Or.inl ⟨by omega, by omega, rfl, rfl⟩
theorem e_isTime (a : Int32) : (0 ≤ a.toInt ∧ a.toInt < 10000 ∧ f_T_isTime a = some 1 ∧ f_M_isTime a = some 1) ∨ (¬ (0 ≤ a.toInt ∧ a.toInt < 10000) ∧ f_T_isTime a = some 0 ∧ f_M_isTime a = some 0) := by
  unfold f_T_isTime f_M_isTime
  by_cases h0 : a < 0
  · rw [if_pos h0, if_pos h0]
    rw [i_lt, i_0] at h0
    exact Or.inr ⟨by omega, rfl, rfl⟩
  · rw [if_neg h0, if_neg h0]
    rw [i_lt, i_0] at h0
    by_cases h1 : 10000 ≤ a
    · rw [if_pos h1, if_pos (by rw [i_lt, i_9999]; rw [i_le, i_10000] at h1; omega)]
      rw [i_le, i_10000] at h1
      exact Or.inr ⟨by omega, rfl, rfl⟩
    · rw [if_neg h1, if_neg (by rw [i_lt, i_9999]; rw [i_le, i_10000] at h1; omega)]
      rw [i_le, i_10000] at h1
      exact Or.inl ⟨by omega, by omega, rfl, rfl⟩
theorem if01 {α : Type} {A B : α} : (if (0 : Int32) = 0 then A else B) = A := if_pos rfl
theorem if11 {α : Type} {A B : α} : (if (1 : Int32) = 0 then A else B) = B := if_neg (by decide)
/-- a change goes into the batch, on both sides -/
def x_ac (σ : x_T) (s : Nat) (a1 a2 a3 a4 e : Int32) : x_T := x_sS (x_sI (x_sI (x_sI (x_sI (x_sS σ 20 a1) 6 s a2) 7 s a3) 8 s a4) 9 s e) 21 (nI (s + 1))
def m_ac (τ : m_T) (s : Nat) (a1 a2 a3 a4 a5 : Int32) : m_T := m_sS (m_sI (m_sI (m_sI (m_sI (m_sS τ 17 a2) 13 s a1) 14 s a3) 15 s a4) 16 s a5) 15 (nI (s + 1))
theorem e_addCell {σ : x_T} {s : Nat} (h : x_S σ 21 = nI s) (hs : s < 4) (N : Nat) (a1 a2 a3 a4 : Int32) : f_B_addCell N σ a1 a2 a3 a4 = some (x_ac σ s a1 a2 a3 a4 0) := by
  unfold f_B_addCell f_B_addChange
  simp only [q_let, xSI, xSS, Nat.reduceEqDiff, if_false, h, q_in_of hs (show 4 < 2 ^ 31 by omega), q_gd_true, nI_cl (show s < 2 ^ 31 by omega), Option.bind_some, ← nI_succ]
  rfl
theorem e_addErasure {σ : x_T} {s : Nat} (h : x_S σ 21 = nI s) (hs : s < 4) (N : Nat) (a1 a2 a3 : Int32) : f_B_addErasure N σ a1 a2 a3 = some (x_ac σ s a1 a2 a3 0 1) := by
  unfold f_B_addErasure f_B_addChange
  simp only [q_let, xSI, xSS, Nat.reduceEqDiff, if_false, h, q_in_of hs (show 4 < 2 ^ 31 by omega), q_gd_true, nI_cl (show s < 2 ^ 31 by omega), Option.bind_some, ← nI_succ]
  rfl
theorem e_change {τ : m_T} {s : Nat} (h : m_S τ 15 = nI s) (hs : s < 4) (N : Nat) (a1 a2 a3 a4 a5 : Int32) : f_M_change N τ a1 a2 a3 a4 a5 = some (m_ac τ s a1 a2 a3 a4 a5) := by
  unfold f_M_change
  simp only [q_let, mSI, mSS, Nat.reduceEqDiff, if_false, h, q_in_of hs (show 4 < 2 ^ 31 by omega), q_gd_true, nI_cl (show s < 2 ^ 31 by omega), ← nI_succ]
  rfl
theorem upd_s {f : Nat → Int32} {k : Nat} {x : Int32} : upd f k x k = x := pk_us
theorem r_B.add {σ : x_T} {τ : m_T} {s : Nat} (h : r_Bs s σ τ) (hs : s < 4) {a1 a2 a3 a4 e : Int32} (hr : 0 ≤ a1.toInt ∧ a1.toInt < 64) (hrow : 0 < s → a1 = x_S σ 20) (hc : r_ch a2 a3 e) : r_B (x_ac σ s a1 a2 a3 a4 e) (m_ac τ s (r_kd a2 a3 e) a1 a2 a3 a4) := by
  obtain ⟨h1, h2, h3, h4, h5⟩ := h
  refine ⟨s + 1, by omega, rfl, rfl, fun _ => ⟨rfl, hr⟩, fun i hi => ?_⟩
  show upd (m_I τ 14) s a2 i = upd (x_I σ 6) s a2 i ∧ upd (m_I τ 15) s a3 i = upd (x_I σ 7) s a3 i ∧ upd (m_I τ 16) s a4 i = upd (x_I σ 8) s a4 i ∧ r_ch (upd (x_I σ 6) s a2 i) (upd (x_I σ 7) s a3 i) (upd (x_I σ 9) s e i) ∧ upd (m_I τ 13) s (r_kd a2 a3 e) i = r_kd (upd (x_I σ 6) s a2 i) (upd (x_I σ 7) s a3 i) (upd (x_I σ 9) s e i)
  by_cases his : i = s
  · subst his
    rw [pk_us, pk_us, pk_us, pk_us, pk_us, pk_us, pk_us, pk_us]
    exact ⟨rfl, rfl, rfl, hc, rfl⟩
  · rw [pk_un his, pk_un his, pk_un his, pk_un his, pk_un his, pk_un his, pk_un his, pk_un his]
    exact h5 i (by omega)
theorem e_takes {σ : x_T} {τ : m_T} {s : Nat} (h : r_Bs s σ τ) (N : Nat) (a : Int32) (hr : 0 ≤ a.toInt ∧ a.toInt < 64) : ((s < 4 ∧ (0 < s → a = x_S σ 20)) ∧ f_B_takes N σ a = some 1 ∧ f_M_takes N τ a = some 1) ∨ (f_B_takes N σ a = some 0 ∧ f_M_takes N τ a = some 0) := by
  obtain ⟨h1, h2, h3, h4, h5⟩ := h
  unfold f_B_takes f_M_takes
  rcases e_isRow a with ⟨_, _, _, hm⟩ | ⟨q, _, _⟩
  · rw [hm, h2, h3, Option.bind_some, if11]
    by_cases h0 : s = 0
    · subst h0
      rw [if_pos nI_0, if_neg (by decide), if_pos nI_0]
      exact Or.inl ⟨⟨by omega, fun q => by omega⟩, rfl, rfl⟩
    · rw [if_neg (nI_ne0 (by omega) (by omega))]
      by_cases hs : s < 4
      · have h6 : ¬ (4 : Int32) ≤ nI s := by rw [i_le, i_4, nI_toInt (by omega)]; omega
        rw [if_neg h6, if_neg h6, if_neg (nI_ne0 (by omega) (by omega)), (h4 (by omega)).1]
        by_cases he : x_S σ 20 = a
        · rw [if_pos he, if_pos he.symm]
          exact Or.inl ⟨⟨hs, fun _ => he.symm⟩, rfl, rfl⟩
        · rw [if_neg he, if_neg (fun q => he q.symm)]
          exact Or.inr ⟨rfl, rfl⟩
      · have h6 : (4 : Int32) ≤ nI s := by rw [i_le, i_4, nI_toInt (by omega)]; omega
        rw [if_pos h6, if_pos h6]
        exact Or.inr ⟨rfl, rfl⟩
  · exact absurd hr q
theorem e_takesN {τ : m_T} (N : Nat) (a : Int32) (hr : ¬ (0 ≤ a.toInt ∧ a.toInt < 64)) : f_M_takes N τ a = some 0 := by
  unfold f_M_takes
  rcases e_isRow a with ⟨q1, q2, _, hm⟩ | ⟨q, _, hm⟩
  · exact absurd ⟨q1, q2⟩ hr
  · rw [hm, Option.bind_some, if01]
theorem sim_put : s_put r_R := fun j σ τ hj h a1 a2 a3 a4 => by
  have hm := sim_mono j σ τ h
  obtain ⟨hA, ⟨s, hB⟩, hX, hF, hS, hE⟩ := h
  unfold f_T_put f_M_put
  rcases e_isColumn a2 with ⟨c1, c2, ec, ec2⟩ | ⟨c1, ec, ec2⟩
  · rcases e_isTime a3 with ⟨t1, t2, et, et2⟩ | ⟨t1, et, et2⟩
    · rcases e_isRow a1 with ⟨r1, r2, er, er2⟩ | ⟨r1, er, er2⟩
      · rw [er, ec, et, ec2, et2, Option.bind_some, Option.bind_some, Option.bind_some, Option.bind_some, Option.bind_some, if11, if11, if11, if11, if11]
        rcases e_takes hB 1000 a1 ⟨r1, r2⟩ with ⟨⟨k1, k2⟩, k3, k4⟩ | ⟨k3, k4⟩
        · rw [k3, k4, Option.bind_some, Option.bind_some, if11, if11, e_addCell hB.2.1 k1, e_change hB.2.2.1 k1]
          exact ⟨1, _, _, rfl, rfl, hA.mono, r_B.add hB k1 ⟨r1, r2⟩ k2 (e := 0) (Or.inl ⟨rfl, c1, c2, t1, t2⟩), hX, hF, hS, hE.mono⟩
        · rw [k3, k4, Option.bind_some, Option.bind_some, if01, if01]
          exact ⟨0, σ, τ, rfl, rfl, hm⟩
      · rw [er, ec2, et2, e_takesN 1000 a1 r1, Option.bind_some, Option.bind_some, Option.bind_some, Option.bind_some, if01, if11, if11, if01]
        exact ⟨0, σ, τ, rfl, rfl, hm⟩
    · rw [ec2, et2, Option.bind_some, Option.bind_some, if11, if01]
      rcases e_isRow a1 with ⟨r1, r2, er, er2⟩ | ⟨r1, er, er2⟩
      · rw [er, ec, et, Option.bind_some, Option.bind_some, Option.bind_some, if11, if11, if01]
        exact ⟨0, σ, τ, rfl, rfl, hm⟩
      · rw [er, Option.bind_some, if01]
        exact ⟨0, σ, τ, rfl, rfl, hm⟩
  · rw [ec2, Option.bind_some, if01]
    rcases e_isRow a1 with ⟨r1, r2, er, er2⟩ | ⟨r1, er, er2⟩
    · rw [er, ec, Option.bind_some, Option.bind_some, if11, if01]
      exact ⟨0, σ, τ, rfl, rfl, hm⟩
    · rw [er, Option.bind_some, if01]
      exact ⟨0, σ, τ, rfl, rfl, hm⟩
theorem sim_expect : s_expect r_R := fun j σ τ hj h a1 a2 a3 a4 hz => by
  have hm := sim_mono j σ τ h
  obtain ⟨hA, hB, hX, hF, hS, hE⟩ := h
  unfold f_T_expect f_M_expect
  rcases e_isRow a1 with ⟨r1, r2, er, er2⟩ | ⟨r1, er, er2⟩
  · rcases e_isColumn a2 with ⟨c1, c2, ec, ec2⟩ | ⟨c1, ec, ec2⟩
    · have hbz : q_bz a3 = true := by rcases hz with rfl | rfl <;> rfl
      rw [er, ec, er2, ec2, Option.bind_some, Option.bind_some, Option.bind_some, Option.bind_some, if11, if11, if11, if11]
      unfold f_B_setExpectation
      rw [hbz]
      refine ⟨1, _, _, rfl, rfl, hA.mono, hB, ⟨rfl, Or.inr rfl, fun _ => ⟨rfl, rfl, rfl, rfl, r1, r2, c1, c2, hz⟩⟩, hF, hS, hE.mono⟩
    · rw [er, ec, er2, ec2, Option.bind_some, Option.bind_some, Option.bind_some, Option.bind_some, if11, if11, if01, if01]
      exact ⟨0, σ, τ, rfl, rfl, hm⟩
  · rw [er, er2, Option.bind_some, Option.bind_some, if01, if01]
    exact ⟨0, σ, τ, rfl, rfl, hm⟩
theorem sim_found : s_found r_R := fun j σ τ hj h a => by
  obtain ⟨f, hf, e1, e2, h⟩ := h.2.2.2.1
  unfold f_T_found f_M_found
  rw [e1, e2]
  by_cases h0 : a < 0
  · rw [if_pos h0, if_pos h0]
    exact ⟨_, rfl, rfl⟩
  · rw [if_neg h0, if_neg h0]
    by_cases h1 : nI f ≤ a
    · rw [if_pos h1, if_neg (by rw [i_lt]; rw [i_le] at h1; omega)]
      exact ⟨_, rfl, rfl⟩
    · rw [if_neg h1, if_pos (by rw [i_lt]; rw [i_le] at h1; omega)]
      rw [i_le, nI_toInt (by omega)] at h1
      rw [i_lt, i_0] at h0
      obtain ⟨k, hk, rfl⟩ : ∃ k : Nat, k < f ∧ a = nI k := ⟨a.toInt.toNat, by omega, by rw [i_eq, nI_toInt (by omega)]; omega⟩
      rw [q_gd_t (q_in_of (by omega) (by omega)), q_gd_t (q_in_of (by omega) (by omega)), q_gd_t (q_in_of (by omega) (by omega)), nI_cl (by omega), h k hk]
      exact ⟨_, rfl, rfl⟩
theorem p_old_mono {P : Nat → Nat → Int32} {ag : Nat → Int32} {c d : Int32} (h : c.toInt ≤ d.toInt) {k : Nat} (hk : p_old P ag d k = false) : p_old P ag c k = false := by
  unfold p_old at hk ⊢
  rw [Bool.and_eq_false_iff, Bool.and_eq_false_iff] at hk ⊢
  rcases hk with q | q | q
  · exact Or.inl q
  · exact Or.inr (Or.inl q)
  · refine Or.inr (Or.inr ?_)
    rw [decide_eq_false_iff_not, i_le] at q ⊢
    omega
theorem p_live_mono {P : Nat → Nat → Int32} {ag : Nat → Int32} {c d : Int32} (h : c.toInt ≤ d.toInt) {k : Nat} (hk : p_live P ag d k = true) : p_live P ag c k = true := by
  unfold p_live at hk ⊢
  rw [Bool.and_eq_true, Bool.and_eq_true, Bool.not_eq_true'] at hk ⊢
  exact ⟨hk.1, hk.2.1, p_old_mono h hk.2.2⟩
theorem r_C.tick {σ : x_T} {τ : m_T} {L R : List Nat} {B : Nat → Int32} (h : r_C σ τ L R B) {c : Int32} (hc : (x_S σ 2).toInt ≤ c.toInt) : r_C (x_sS σ 2 c) (m_sS τ 14 c) L R B := by
  obtain ⟨h1, h2, h3, h4⟩ := h
  refine ⟨fun k hk h5 h6 => h1 k hk h5 (p_old_mono hc h6), fun r q q0 q1 q2 => ?_, h3, h4⟩
  refine Int.le_trans (Int.ofNat_le.mpr (List.countP_mono_left (fun k _ hk => ?_))) (h2 r q q0 q1 q2)
  rw [Bool.and_eq_true, Bool.and_eq_true] at hk ⊢
  exact ⟨hk.1, hk.2.1, p_live_mono hc hk.2.2⟩
theorem sim_tick : s_tick r_R := fun j σ τ hj h a => by
  have hm := sim_mono j σ τ h
  obtain ⟨hA, hB, hX, hF, hS, hE⟩ := h
  obtain ⟨⟨c, hc, e⟩, h2, h3⟩ := hA
  have h0 : m_sS τ 14 (m_S τ 14 + 0) = τ := by
    rw [Int32.add_zero]
    unfold m_sS
    refine Prod.ext ?_ rfl
    funext i
    show (if i = 14 then m_S τ 14 else τ.1 i) = τ.1 i
    by_cases hi : i = 14
    · rw [if_pos hi, hi]; rfl
    · rw [if_neg hi]
  unfold f_T_tick f_M_tick
  by_cases k0 : a < 0
  · rw [if_pos k0, if_pos k0]
    refine ⟨x_S σ 2, σ, τ, rfl, ?_, hm⟩
    unfold q_let
    rw [h0]
    show some (m_S τ 14, τ) = _
    rw [h2]
  · rw [if_neg k0, if_neg k0]
    by_cases k1 : 5000 < a
    · rw [if_pos k1, if_pos k1]
      refine ⟨x_S σ 2, σ, τ, rfl, ?_, hm⟩
      unfold q_let
      rw [h0]
      show some (m_S τ 14, τ) = _
      rw [h2]
    · rw [if_neg k1, if_neg k1]
      rw [i_lt, i_0] at k0
      rw [i_lt, i_5000] at k1
      obtain ⟨k, hk, rfl⟩ : ∃ k : Nat, k ≤ 5000 ∧ a = nI k := ⟨a.toInt.toNat, by omega, by rw [i_eq, nI_toInt (by omega)]; omega⟩
      refine ⟨x_S σ 2 + nI k, x_sS σ 2 (x_S σ 2 + nI k), m_sS τ 14 (x_S σ 2 + nI k), rfl, ?_, ?_, hB, hX, hF, hS, ?_⟩
      · unfold q_let
        rw [h2]
        rfl
      · refine ⟨⟨c + k, by omega, ?_⟩, rfl, h3⟩
        show x_S σ 2 + nI k = _
        rw [e, nI_add]
      · obtain ⟨L, R, s, T, tc, B, g1, g2, g3, g4, g5⟩ := hE.mono
        refine ⟨L, R, s, T, tc, B, g1, g2, g3.tick ?_, g4, g5⟩
        rw [e, nI_add, nI_toInt (by omega), nI_toInt (by omega)]
        omega
/-- the end of erase: the row, the place in the batch, the change -/
theorem sim_er {j : Nat} {σ : x_T} {τ : m_T} (h : r_R j σ τ) (a1 a2 a3 kd : Int32) (hc : r_ch a2 a3 1) (hk : r_kd a2 a3 1 = kd) : ∃ r σ' τ', (f_T_isRow a1).bind (fun r2 => if r2 = (0 : Int32) then some ((0 : Int32), σ) else (f_B_takes 1000 σ a1).bind fun r6 => if r6 = (0 : Int32) then some (0, σ) else (f_B_addErasure 1000 σ a1 a2 a3).bind fun s8 => some (1, s8)) = some (r, σ') ∧ (f_M_takes 1000 τ a1).bind (fun r4 => if r4 = (0 : Int32) then some ((0 : Int32), τ) else (f_M_change 1000 τ kd a1 a2 a3 0).bind fun s8 => some (1, s8)) = some (r, τ') ∧ r_R (j + 1) σ' τ' := by
  have hm := sim_mono j σ τ h
  obtain ⟨hA, ⟨s, hB⟩, hX, hF, hS, hE⟩ := h
  rcases e_isRow a1 with ⟨r1, r2, er, er2⟩ | ⟨r1, er, er2⟩
  · rw [er, Option.bind_some, if11]
    rcases e_takes hB 1000 a1 ⟨r1, r2⟩ with ⟨⟨k1, k2⟩, k3, k4⟩ | ⟨k3, k4⟩
    · rw [k3, k4, Option.bind_some, Option.bind_some, if11, if11, e_addErasure hB.2.1 k1, e_change hB.2.2.1 k1, ← hk]
      exact ⟨1, _, _, rfl, rfl, hA.mono, r_B.add hB k1 ⟨r1, r2⟩ k2 hc, hX, hF, hS, hE.mono⟩
    · rw [k3, k4, Option.bind_some, Option.bind_some, if01, if01]
      exact ⟨0, σ, τ, rfl, rfl, hm⟩
  · rw [er, e_takesN 1000 a1 r1, Option.bind_some, Option.bind_some, if01, if01]
    exact ⟨0, σ, τ, rfl, rfl, hm⟩
theorem sim_er0 {j : Nat} {σ : x_T} {τ : m_T} (h : r_R j σ τ) (a1 : Int32) {X : Int32 → Option (Int32 × x_T)} (hX : X 1 = some (0, σ)) : ∃ r σ' τ', (f_T_isRow a1).bind (fun r2 => if r2 = (0 : Int32) then some ((0 : Int32), σ) else X r2) = some (r, σ') ∧ some ((0 : Int32), τ) = some (r, τ') ∧ r_R (j + 1) σ' τ' := by
  rcases e_isRow a1 with ⟨r1, r2, er, er2⟩ | ⟨r1, er, er2⟩
  · rw [er, Option.bind_some, if11, hX]
    exact ⟨0, σ, τ, rfl, rfl, sim_mono j σ τ h⟩
  · rw [er, Option.bind_some, if01]
    exact ⟨0, σ, τ, rfl, rfl, sim_mono j σ τ h⟩
theorem sim_erase : s_erase r_R := fun j σ τ hj h a1 a2 a3 => by
  unfold f_T_erase f_M_erase f_T_isErasable
  by_cases h2 : a2 = -1
  · by_cases h3 : a3 = -1
    · simp only [if_pos h2, if_pos h3, Option.bind_some, if11]
      exact sim_er h a1 a2 a3 3 (Or.inr ⟨rfl, Or.inl ⟨h2, h3⟩⟩) (by unfold r_kd; rw [if_neg (by decide), if_pos h2])
    · rcases e_isColumn a2 with ⟨c1, c2, ec, ec2⟩ | ⟨c1, ec, ec2⟩
      · rw [h2, i_m1] at c1
        omega
      · simp only [if_pos h2, if_neg h3, ec2, Option.bind_some, if01]
        exact sim_er0 h a1 (X := fun _ => some (0, σ)) rfl
  · rcases e_isColumn a2 with ⟨c1, c2, ec, ec2⟩ | ⟨c1, ec, ec2⟩
    · by_cases h3 : a3 = -1
      · simp only [if_neg h2, if_pos h3, ec, ec2, Option.bind_some, if11]
        exact sim_er h a1 a2 a3 2 (Or.inr ⟨rfl, Or.inr ⟨c1, c2, by rw [h3, i_m1]; omega, by rw [h3, i_m1]; omega⟩⟩) (by unfold r_kd; rw [if_neg (by decide), if_neg h2, if_pos h3])
      · rcases e_isTime a3 with ⟨t1, t2, et, et2⟩ | ⟨t1, et, et2⟩
        · simp only [if_neg h2, if_neg h3, ec, ec2, et, et2, Option.bind_some, if11]
          exact sim_er h a1 a2 a3 1 (Or.inr ⟨rfl, Or.inr ⟨c1, c2, by omega, t2⟩⟩) (by unfold r_kd; rw [if_neg (by decide), if_neg h2, if_neg h3])
        · simp only [if_neg h2, if_neg h3, ec, ec2, et, et2, Option.bind_some, if01, if11]
          exact sim_er0 h a1 (X := fun _ => some (0, σ)) rfl
    · simp only [if_neg h2, ec, ec2, Option.bind_some, if01]
      exact sim_er0 h a1 (X := fun _ => some (0, σ)) rfl
theorem e_nearest (a b : Int32) (hb : 0 ≤ b.toInt) : ∃ r : Int32, f_T_nearest a b = some r ∧ f_M_nearest a b = some r ∧ 0 ≤ r.toInt ∧ r.toInt ≤ b.toInt := by
  unfold f_T_nearest f_M_nearest
  by_cases h0 : 0 ≤ a
  · rw [if_pos h0]
    rw [i_le, i_0] at h0
    by_cases h1 : a ≤ b
    · rw [if_pos h1, if_neg (show ¬ b < a by rw [i_lt]; rw [i_le] at h1; omega)]
      rw [i_le] at h1
      refine ⟨a, ?_, rfl, by omega, h1⟩
      by_cases h2 : 0 < a
      · rw [if_pos h2]
      · rw [if_neg h2]
        rw [i_lt, i_0] at h2
        congr 1
        rw [i_eq, i_0]
        omega
    · rw [if_neg h1, if_pos (show b < a by rw [i_lt]; rw [i_le] at h1; omega)]
      refine ⟨b, ?_, rfl, hb, by omega⟩
      by_cases h2 : 0 < b
      · rw [if_pos h2]
      · rw [if_neg h2]
        rw [i_lt, i_0] at h2
        congr 1
        rw [i_eq, i_0]
        omega
  · rw [if_neg h0]
    rw [i_le, i_0] at h0
    rw [if_neg (show ¬ b < a by rw [i_lt]; omega), if_neg (show ¬ 0 < a by rw [i_lt, i_0]; omega)]
    exact ⟨0, rfl, rfl, by rw [i_0]; omega, by rw [i_0]; omega⟩
theorem sim_init : s_init r_R := fun a1 a2 a3 a4 => by
  obtain ⟨r1, x1, m1, b1, c1⟩ := e_nearest a1 5 (by decide)
  obtain ⟨r2, x2, m2, b2, c2⟩ := e_nearest a2 9999 (by decide)
  obtain ⟨r3, x3, m3, b3, c3⟩ := e_nearest a3 5 (by decide)
  obtain ⟨r4, x4, m4, b4, c4⟩ := e_nearest a4 9999 (by decide)
  refine ⟨r1, r2, r3, r4, x1, x2, x3, x4, m1, m2, m3, m4, ⟨⟨0, by omega, rfl⟩, rfl, fun i hi => ?_, rfl, Or.inl rfl, rfl⟩, ⟨0, by omega, rfl, rfl, fun q => absurd q (by omega), fun i hi => absurd hi (by omega)⟩, ⟨rfl, Or.inl rfl, fun q => absurd (show (0 : Int32) = 1 from q) (by decide)⟩, ⟨0, by omega, rfl, rfl, fun i hi => absurd hi (by omega)⟩, ⟨0, by omega, rfl, fun k _ _ => ⟨rfl, rfl, rfl⟩⟩, ?_⟩
  · match i, hi with
    | 0, _ => exact ⟨rfl, rfl, b1, c1, b2, c2⟩
    | 1, _ => exact ⟨rfl, rfl, b3, c3, b4, c4⟩
    | i + 2, q => omega
  · refine ⟨[], [], 0, 1, fun _ => 0, fun _ => 0, ⟨⟨rfl, Nat.zero_le _, fun j k hk => by cases hk⟩, List.Perm.refl _, List.nodup_nil, ⟨fun j k hk => (by cases (show (none : Option Nat) = some k from hk)), fun i j k hk => (by cases (show (none : Option Nat) = some k from hk))⟩, rfl, by omega, fun k hk => (by cases hk), List.Pairwise.nil, List.Pairwise.nil⟩, ⟨rfl, rfl, ⟨by omega, by omega, rfl, rfl, fun t ht => ?_⟩, fun t ht => ?_, ⟨rfl, Nat.zero_le _, fun i k hk => (by cases hk)⟩, fun t ht => ⟨rfl, fun k hk => (by cases hk), fun i hi => absurd hi (Nat.not_lt_zero _)⟩⟩, ⟨fun k hk => (by cases hk), fun r c q0 q1 q2 => ?_, fun i k hk => (by cases hk), fun k hk => (by cases hk), fun k hk => (by cases hk), fun k hk => (by cases hk)⟩, (show (0 : Int) ≤ (0 : Int32).toInt by decide), (show (0 : Int32).toInt ≤ ((0 : Nat) : Int) by decide)⟩
    · obtain rfl : t = 0 := by omega
      show (0 : Int32) < 64
      decide
    · obtain rfl : t = 0 := by omega
      rfl
    · by_cases q : c < 4
      · rw [if_pos q]
        show (0 : Int) ≤ r1.toInt
        exact b1
      · rw [if_neg q]
        show (0 : Int) ≤ r3.toInt
        exact b3
