/-! scan: both sides. -/
theorem sim_scan : s_scan r_R := fun j σ τ hj h a1 a2 a3 a4 a5 => by
  have hm := sim_mono j σ τ h
  obtain ⟨hA, hB, hX, hF, hS, L, R, s, T, tc, B, hL, hT, hC, h4, h5⟩ := h
  have hQ : r_Q j σ (m_sS τ 28 0) L R s T tc B := ⟨hA, hB, hX, hS, hL, hT, hC, h4, h5⟩
  have hok : ∀ k ∈ L, p_ok (x_P σ) k := fun k hk => (hL.2.2.2.2.2.2.1 k hk).1
  have main : ∃ r σ' τ', f_T_scan_L33 1000 a3 a4 a5 (if (a1 : Int32) < (0 : Int32) then (0 : Int32) else (a1 : Int32)) (if (63 : Int32) < (a2 : Int32) then (63 : Int32) else (a2 : Int32)) (fun t3 => q_let (x_sS t3 11 0) fun s4 => f_T_scan_L60 1000 a3 a4 a5 (if (a1 : Int32) < (0 : Int32) then (0 : Int32) else (a1 : Int32)) (if (63 : Int32) < (a2 : Int32) then (63 : Int32) else (a2 : Int32)) (fun t16 => some (x_S t16 11, t16)) 1000 0 s4) 1000 (if (a1 : Int32) < (0 : Int32) then (0 : Int32) else (a1 : Int32)) σ = some (r, σ') ∧ (q_let (m_sS τ 28 0) fun s1 => f_M_scan_L21 1000 a1 a2 a3 a4 a5 (fun t9 => some (m_S t9 28, t9)) 1000 0 s1) = some (r, τ') ∧ r_R (j + 1) σ' τ' := by
    generalize hp : (if (a1 : Int32) < (0 : Int32) then (0 : Int32) else (a1 : Int32)) = p
    generalize hql : (if (63 : Int32) < (a2 : Int32) then (63 : Int32) else (a2 : Int32)) = ql
    have p1 : 0 ≤ p.toInt ∧ a1.toInt ≤ p.toInt ∧ (p.toInt = 0 ∨ p = a1) := by
      rw [← hp]
      by_cases q : a1 < 0
      · rw [if_pos q]; rw [i_lt, i_0] at q; exact ⟨by rw [i_0]; omega, by rw [i_0]; omega, Or.inl i_0⟩
      · rw [if_neg q]; rw [i_lt, i_0] at q; exact ⟨by omega, by omega, Or.inr rfl⟩
    have q1 : ql.toInt ≤ 63 ∧ ql.toInt ≤ a2.toInt ∧ (ql.toInt = 63 ∨ ql = a2) := by
      rw [← hql]
      by_cases q : 63 < a2
      · rw [if_pos q]; rw [i_lt, i_63] at q; exact ⟨by rw [i_63]; omega, by rw [i_63]; omega, Or.inl i_63⟩
      · rw [if_neg q]; rw [i_lt, i_63] at q; exact ⟨by omega, by omega, Or.inr rfl⟩
    have fin : ∀ σ' τ', r_Q j σ' τ' L R s T tc B → x_P σ' = x_P σ → x_I σ' 2 = x_I σ 2 → x_S σ' 2 = x_S σ 2 → q_fnd (x_P σ) τ' (L.filter (fun k => p_sc (x_P σ) (x_I σ 2) (x_S σ 2) p a3 a4 a5 k && !decide (ql < x_P σ k 0))) → ∃ r σ2 τ2, (q_let (x_sS σ' 11 0) fun s4 => f_T_scan_L60 1000 a3 a4 a5 p ql (fun t16 => some (x_S t16 11, t16)) 1000 0 s4) = some (r, σ2) ∧ some (m_S τ' 28, τ') = some (r, τ2) ∧ r_R (j + 1) σ2 τ2 := fun σ' τ' hQ' e1 e2 e3 hf => by
      obtain ⟨hA, hB, hX, hS, hL, hT, hC, h4, h5⟩ := hQ'
      obtain ⟨f, g1, g2⟩ := e_scanX hL.1 (fun k hk => (hL.2.2.2.2.2.2.1 k hk).1) (N := 1000) (by omega) a3 a4 a5 p ql (fun t16 => some (x_S t16 11, t16))
      rw [e1, e2, e3] at g1 g2
      have hlen : (L.filter (fun k => p_sc (x_P σ) (x_I σ 2) (x_S σ 2) p a3 a4 a5 k && !decide (ql < x_P σ k 0))).length ≤ 247 := Nat.le_trans (List.length_filter_le _ _) hL.1.2.1
      refine ⟨_, _, τ', g1, ?_, sim_mono _ _ _ ⟨hA, hB, hX, ⟨_, hlen, rfl, hf.1, fun i hi => ?_⟩, hS, L, R, s, T, tc, B, hL, hT, hC, h4, h5⟩⟩
      · rw [hf.1]
        rfl
      · obtain ⟨k, hk⟩ : ∃ k, (L.filter (fun k => p_sc (x_P σ) (x_I σ 2) (x_S σ 2) p a3 a4 a5 k && !decide (ql < x_P σ k 0)))[i]? = some k := ⟨_, List.getElem?_eq_getElem hi⟩
        rw [(hf.2 i k hk).1, (hf.2 i k hk).2]
        exact g2 i k hk
    by_cases hlt : ql < p
    · have hnil : L.filter (fun k => p_sc (x_P σ) (x_I σ 2) (x_S σ 2) p a3 a4 a5 k && !decide (ql < x_P σ k 0)) = [] := by
        rw [List.filter_eq_nil_iff]
        intro k _ z
        unfold p_sc at z
        simp only [Bool.and_eq_true, Bool.not_eq_true', decide_eq_false_iff_not] at z
        have z1 := z.1.1
        have z2 := z.2
        rw [i_lt] at z1 z2 hlt
        omega
      obtain ⟨r, σ2, τ2, f1, f2, f3⟩ := fin σ (m_sS τ 28 0) hQ rfl rfl rfl (by rw [hnil]; exact ⟨rfl, fun i k hk => by simp at hk⟩)
      refine ⟨r, σ2, τ2, ?_, ?_, f3⟩
      · exact (e_scan0 a3 a4 a5 p ql hlt _ 999 σ).trans f1
      · refine Eq.trans ?_ f2
        have e := e_skip a1 a2 a3 a4 a5 (fun t9 => some (m_S t9 28, t9)) 64 0 64 1000 936 (m_sS τ 28 0) rfl rfl (by omega) (fun x _ hx => by
          rw [i_lt, i_lt, nI_toInt (by omega)]
          rw [i_lt] at hlt
          rcases p1.2.2 with z | z
          · rcases q1.2.2 with y | y
            · omega
            · rw [y] at hlt q1; omega
          · rcases q1.2.2 with y | y
            · rw [z] at hlt p1; omega
            · rw [z] at hlt; rw [y] at hlt; omega)
        rw [nI_0] at e
        show f_M_scan_L21 1000 a1 a2 a3 a4 a5 (fun t9 => some (m_S t9 28, t9)) 1000 0 (m_sS τ 28 0) = _
        rw [e]
        exact e_skipE a1 a2 a3 a4 a5 _ 935 _
    · rw [i_lt] at hlt
      obtain ⟨p', hp', rfl⟩ : ∃ p' : Nat, p' < 64 ∧ p = nI p' := ⟨p.toInt.toNat, by omega, by rw [i_eq, nI_toInt (by omega)]; omega⟩
      obtain ⟨q', hq', rfl⟩ : ∃ q' : Nat, q' < 64 ∧ ql = nI q' := ⟨ql.toInt.toNat, by omega, by rw [i_eq, nI_toInt (by omega)]; omega⟩
      rw [nI_toInt (by omega)] at p1 q1 hlt
      rw [nI_toInt (by omega)] at hlt
      have hpe : ∀ k ∈ L, True := fun _ _ => trivial
      have hG0 : p_G (x_P σ) (p_sc (x_P σ) (x_I σ 2) (x_S σ 2) (nI p') a3 a4 a5) L (9 * (p' : Int)) = [] := by
        unfold p_G
        rw [List.filter_eq_nil_iff]
        intro k hk z
        unfold p_sc p_key at z
        simp only [Bool.and_eq_true, Bool.not_eq_true', decide_eq_false_iff_not, decide_eq_true_eq] at z
        obtain ⟨⟨z1, _, _, _, hl⟩, z2⟩ := z
        have := p_live_c (hok k hk) hl
        rw [i_lt, nI_toInt (by omega)] at z1
        omega
      obtain ⟨σ', τ', g1, g2, g3, ⟨g4, g5, g6⟩, g7⟩ := e_scanR (j := j) (s := s) (T := T) (L := L) (R := R) (tc := tc) (B := B) (a1 := a1) (a2 := a2) (a3 := a3) (a4 := a4) (a5 := a5) (u6 := nI p') (p := nI p') (by rw [i_le, nI_toInt (by omega)]; omega) hq' (by rw [i_le, nI_toInt (by omega)]; omega) (fun t3 => q_let (x_sS t3 11 0) fun s4 => f_T_scan_L60 1000 a3 a4 a5 (nI p') (nI q') (fun t16 => some (x_S t16 11, t16)) 1000 0 s4) (fun t9 => some (m_S t9 28, t9)) (q' + 1 - p') p' 1000 (999 - q' + (q' + 1 - p')) (999 - q') σ (m_sS τ 28 0) (by omega) (by omega) rfl (by rw [i_le]; omega) hQ ⟨rfl, rfl, rfl⟩ (by rw [hG0]; exact ⟨rfl, fun i k hk => by simp at hk⟩)
      have hGq : p_G (x_P σ) (p_sc (x_P σ) (x_I σ 2) (x_S σ 2) (nI p') a3 a4 a5) L (9 * ((q' + 1 : Nat) : Int)) = L.filter (fun k => p_sc (x_P σ) (x_I σ 2) (x_S σ 2) (nI p') a3 a4 a5 k && !decide (nI q' < x_P σ k 0)) := by
        unfold p_G
        refine List.filter_congr (fun k hk => ?_)
        cases hsc : p_sc (x_P σ) (x_I σ 2) (x_S σ 2) (nI p') a3 a4 a5 k with
        | false => rfl
        | true =>
          have hl : p_live (x_P σ) (x_I σ 2) (x_S σ 2) k = true := by
            unfold p_sc at hsc
            simp only [Bool.and_eq_true] at hsc
            exact hsc.2.2.2.2
          have := p_live_c (hok k hk) hl
          rw [Bool.true_and, Bool.true_and]
          by_cases z : nI q' < x_P σ k 0
          · rw [decide_eq_true z, decide_eq_false (by unfold p_key; rw [i_lt, nI_toInt (by omega)] at z; omega)]
            rfl
          · rw [decide_eq_false z, decide_eq_true (by unfold p_key; rw [i_lt, nI_toInt (by omega)] at z; omega)]
            rfl
      rw [hGq] at g7
      obtain ⟨r, σ2, τ2, f1, f2, f3⟩ := fin σ' τ' g3 g4 g5 g6 g7
      refine ⟨r, σ2, τ2, g1.trans f1, ?_, f3⟩
      refine Eq.trans ?_ f2
      have e := e_skip a1 a2 a3 a4 a5 (fun t9 => some (m_S t9 28, t9)) p' 0 p' 1000 (999 - q' + (q' + 1 - p')) (m_sS τ 28 0) (by omega) (by omega) (by omega) (fun x _ hx => by
        rw [i_lt, nI_toInt (by omega)]
        rcases p1.2.2 with z | z
        · omega
        · rw [← z, nI_toInt (by omega)]; omega)
      rw [nI_0] at e
      show f_M_scan_L21 1000 a1 a2 a3 a4 a5 (fun t9 => some (m_S t9 28, t9)) 1000 0 (m_sS τ 28 0) = _
      rw [e, g2]
      have e2 := e_skip a1 a2 a3 a4 a5 (fun t9 => some (m_S t9 28, t9)) (63 - q') (q' + 1) 64 (999 - q') 936 τ' (by omega) (by omega) (by omega) (fun x hx _ => by
        rw [i_lt, i_lt, nI_toInt (by omega)]
        rcases q1.2.2 with z | z
        · omega
        · rw [← z, nI_toInt (by omega)]; omega)
      rw [e2]
      exact e_skipE a1 a2 a3 a4 a5 _ 935 _
  unfold f_T_scan f_M_scan
  by_cases c0 : a3 = -1
  · rw [if_pos c0, if_neg (show ¬ a3 < -1 by rw [c0]; decide), if_pos (show a3 ≤ 7 by rw [c0]; decide)]
    exact main
  · rw [if_neg c0]
    rcases e_isColumn a3 with ⟨c1, c2, ec, ec2⟩ | ⟨c1, ec, ec2⟩
    · rw [ec, Option.bind_some, if11, if_neg (show ¬ a3 < -1 by rw [i_lt, i_m1]; omega), if_pos (show a3 ≤ 7 by rw [i_le, i_7]; omega)]
      exact main
    · rw [ec, Option.bind_some, if01]
      refine ⟨-1, σ, τ, rfl, ?_, hm⟩
      rw [i_eq, i_m1] at c0
      by_cases c2 : a3 < -1
      · rw [if_pos c2]
      · rw [if_neg c2, if_neg]
        rw [i_lt, i_m1] at c2
        rw [i_le, i_7]
        omega
