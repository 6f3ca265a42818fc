/-! An entry is made: the reference; both sides. -/
def m_val (kd r c tm v b t : Int32) : Nat → Int32 := fun a => if a = 1 then kd else if a = 2 then r else if a = 3 then c else if a = 4 then tm else if a = 5 then v else if a = 6 then b else if a = 7 then t else -1
theorem e_makeM {τ : m_T} {fr : Nat → Int32} {T n : Nat} (h0 : m_S τ 0 = nI n) (hn : n < 256) (h9 : m_S τ 9 = nI T) (hf : p_fr fr T) (hfr : ∀ t : Nat, t < T → m_I τ 9 t = fr t) {N : Nat} (hN : 8 < N) {kd r c tm v : Int32} {t : Nat} (ht : t < T) (h1 : fr t ≤ r) (h2 : r < fr (t + 1)) : f_M_make N τ kd r c tm v = some (m_sS (m_e8 τ (fun a => upd (m_I τ a) n (m_val kd r c tm v (m_S τ 27) (nI t) a))) 0 (nI (n + 1))) := by
  have ht2 := e_tabletWith (τ := m_sI (m_sI (m_sI (m_sI (m_sI (m_sI τ 1 n kd) 2 n r) 3 n c) 4 n tm) 5 n v) 6 n (m_S τ 27)) (fr := fr) (T := T) h9 hf hfr (N := N) hN ht h1 h2
  have hi := q_in_of hn (show 256 < 2 ^ 31 by omega)
  unfold f_M_make
  simp only [q_let, mSI, h0, q_gd_t hi, nI_cl (show n < 2 ^ 31 by omega), ht2, Option.bind_some, ← nI_succ]
  congr 2
  refine Prod.ext rfl ?_
  funext a
  by_cases h1 : a = 1
  · subst h1; rfl
  by_cases h2 : a = 2
  · subst h2; rfl
  by_cases h3 : a = 3
  · subst h3; rfl
  by_cases h4 : a = 4
  · subst h4; rfl
  by_cases h5 : a = 5
  · subst h5; rfl
  by_cases h6 : a = 6
  · subst h6; rfl
  by_cases h7 : a = 7
  · subst h7; rfl
  by_cases h8 : a = 8
  · subst h8; rfl
  have hn : ¬ (1 ≤ a ∧ a ≤ 8) := by omega
  simp only [m_sI, m_e8, va_up, h1, h2, h3, h4, h5, h6, h7, h8, hn, if_false]
theorem nI_mul (a b : Nat) : nI a * nI b = nI (a * b) := (Int32.ofNat_mul a b).symm
theorem p_pl_i {r c tm : Int32} (hr : 0 ≤ r.toInt ∧ r.toInt < 64) (hc : -1 ≤ c.toInt ∧ c.toInt < 8) (ht : -1 ≤ tm.toInt ∧ tm.toInt < 10000) : (p_pl r c tm).toInt = (r.toInt * 9 + c.toInt + 1) * 10001 + (if tm = -1 then 0 else 10000 - tm.toInt) := by
  obtain ⟨r', hr', rfl⟩ : ∃ y : Nat, y < 64 ∧ r = nI y := ⟨r.toInt.toNat, by omega, by rw [i_eq, nI_toInt (by omega)]; omega⟩
  have e1 : nI r' * 9 + c + 1 = nI (r' * 9 + (c.toInt + 1).toNat) := by
    have ec : c + 1 = nI (c.toInt + 1).toNat := by
      by_cases q : c = -1
      · rw [q]; decide
      · rw [i_eq, i_m1] at q
        obtain ⟨y, hy, rfl⟩ : ∃ y : Nat, y < 8 ∧ c = nI y := ⟨c.toInt.toNat, by omega, by rw [i_eq, nI_toInt (by omega)]; omega⟩
        rw [← nI_succ, nI_toInt (by omega)]
        congr 1
    rw [Int32.add_assoc, ec, show (9 : Int32) = nI 9 from rfl, nI_mul, nI_add]
  unfold p_pl
  rw [e1, show (10001 : Int32) = nI 10001 from rfl, nI_mul, nI_toInt (show r' < 2 ^ 31 by omega)]
  by_cases q : tm = -1
  · rw [if_pos q, if_pos q, Int32.add_zero, nI_toInt (by omega)]
    omega
  · rw [if_neg q, if_neg q]
    rw [i_eq, i_m1] at q
    obtain ⟨y, hy, rfl⟩ : ∃ y : Nat, y < 10000 ∧ tm = nI y := ⟨tm.toInt.toNat, by omega, by rw [i_eq, nI_toInt (by omega)]; omega⟩
    rw [show (10000 : Int32) = nI 10000 from rfl, nI_sub (by omega), nI_add, nI_toInt (by omega), nI_toInt (by omega)]
    omega
theorem r_ch.b {c t e : Int32} (h : r_ch c t e) : (-1 ≤ c.toInt ∧ c.toInt < 8) ∧ (-1 ≤ t.toInt ∧ t.toInt < 10000) ∧ (e = 0 ∨ e = 1) ∧ (c = -1 → t = -1) ∧ (t = -1 → e = 1) := by
  rcases h with ⟨h1, h2, h3, h4, h5⟩ | ⟨h1, ⟨h2, h3⟩ | ⟨h2, h3, h4, h5⟩⟩
  · exact ⟨⟨by omega, h3⟩, ⟨by omega, h5⟩, Or.inl h1, fun q => absurd q (by rw [i_eq, i_m1]; omega), fun q => absurd q (by rw [i_eq, i_m1]; omega)⟩
  · exact ⟨⟨by rw [h2, i_m1]; omega, by rw [h2, i_m1]; omega⟩, ⟨by rw [h3, i_m1]; omega, by rw [h3, i_m1]; omega⟩, Or.inr h1, fun _ => h3, fun _ => h1⟩
  · exact ⟨⟨by omega, h3⟩, ⟨h4, h5⟩, Or.inr h1, fun q => absurd q (by rw [i_eq, i_m1]; omega), fun _ => h1⟩
theorem p_old_c {P Q : Nat → Nat → Int32} {ag : Nat → Int32} {cl : Int32} {a : Nat} (h2 : Q a 2 = P a 2) (h3 : Q a 3 = P a 3) (h4 : Q a 4 = P a 4) : p_old Q ag cl a = p_old P ag cl a := by
  unfold p_old
  rw [h2, h3, h4]
theorem p_cv_c {P Q : Nat → Nat → Int32} {a k : Nat} (h : ∀ g, g ≠ 10 → Q a g = P a g) (h' : ∀ g, g ≠ 10 → Q k g = P k g) : p_cv Q a k = p_cv P a k := by
  unfold p_cv
  rw [h 0 (by decide), h 1 (by decide), h 3 (by decide), h 6 (by decide), h' 0 (by decide), h' 1 (by decide), h' 3 (by decide), h' 6 (by decide)]
/-- what is so of the entries after one was made -/
def r_M (j : Nat) (σ : x_T) (τ : m_T) (L R : List Nat) (s T : Nat) (tc : Nat → Nat) (B : Nat → Int32) (r : Int32) : Prop := r_L j σ L R s ∧ r_T σ τ L R T tc ∧ p_cov (x_P σ) (x_I σ 2) (x_S σ 2) L ∧ (∀ i k : Nat, R[i]? = some k → m_I τ 6 i = B k) ∧ p_bat (x_P σ) B (m_S τ 27) L ∧ ∀ a ∈ L, B a = m_S τ 27 → x_P σ a 0 = r ∧ x_P σ a 8 = -1
theorem r_make {j s T : Nat} {σ : x_T} {τ : m_T} {L R : List Nat} {tc : Nat → Nat} {B : Nat → Int32} {r c tm e v o : Int32} (hM : r_M j σ τ L R s T tc B r) (hl : L.length < 247) {j' : Nat} (hs : s + 1 ≤ 8 * j') (hj' : j' ≤ 1000) (hr : 0 ≤ r.toInt ∧ r.toInt < 64) (hch : r_ch c tm e) (ho1 : o = 0 ∨ o = 1) (ho : o = 0 ↔ ∃ b ∈ L, B b = m_S τ 27) (hap : 0 < (m_S τ 27).toInt) :
    ∃ (k : Nat) (L' : List Nat) (B' : Nat → Int32) (E : Nat → Option Nat) (N3 : Nat) (P3 P4 : Nat → Nat → Int32) (A : Nat → Nat → Int32), f_T_makeEntry 1000 σ r c tm e = some (some k, x_g σ (va_up (va_up σ.1 5 (nI (s + 1))) 4 (nI (L.length + 1))) E N3 P3) ∧ k < N3 ∧ P3 k 5 = 0 ∧ P3 k 9 = 0 ∧ x_sP (x_sP (x_g σ (va_up (va_up σ.1 5 (nI (s + 1))) 4 (nI (L.length + 1))) E N3 P3) k 5 v) k 9 o = x_g σ (va_up (va_up σ.1 5 (nI (s + 1))) 4 (nI (L.length + 1))) E N3 P4 ∧ f_M_make 1000 τ (r_kd c tm e) r c tm v = some (m_sS (m_e8 τ A) 0 (nI (L.length + 1))) ∧ r_M j' (x_g σ (va_up (va_up σ.1 5 (nI (s + 1))) 4 (nI (L.length + 1))) E N3 P4) (m_sS (m_e8 τ A) 0 (nI (L.length + 1))) L' (R ++ [k]) (s + 1) T tc B' r ∧ L'.Perm (k :: L) ∧ B' k = m_S τ 27 ∧ (P4 k 0 = r ∧ P4 k 1 = c ∧ P4 k 3 = tm ∧ P4 k 4 = e ∧ (P4 k 6).toInt = s + 1) ∧ (∀ a ∈ L, ∀ g, g ≠ 10 → P4 a g = x_P σ a g) ∧ (∀ a ∈ L, p_live P4 (x_I σ 2) (x_S σ 2) a = (p_live (x_P σ) (x_I σ 2) (x_S σ 2) a && !p_cv P4 k a)) := by
  obtain ⟨hL, hT, hcov, h6, hbat, hrow⟩ := hM
  obtain ⟨hX, hp, hn, hP, h5, hsb, h7, hord, hseq⟩ := hL
  obtain ⟨t1, t2, hf, hfr, hLM, htc⟩ := hT
  obtain ⟨bc, bt, be, b4, b5⟩ := hch.b
  have hRl : R.length = L.length := hp.length_eq.symm
  have hso : L.Pairwise (fun a b => (x_P σ a 7).toInt ≤ (x_P σ b 7).toInt) := hord.imp (fun {a b} q => by
    rcases q with q | q
    · omega
    · rw [q.1]; exact Int.le_refl _)
  obtain ⟨k, A0, Bs, E, N3, P3, x1, hAB, hkL, hA, hB, hE, hEN, hEi, ⟨k0, k1, k2, k3, k4, k5, k6, k7, k8, k9, k10, k11⟩, hP3⟩ := e_makeX hX hn hP hl h5 hso (N := 1000) (by omega) r c tm e be
  obtain ⟨t, ht, f1, f2⟩ := p_fr_ex hf hr.1 hr.2
  have m1 := e_makeM (h0 := hLM.1) (hn := by omega) t2 hf hfr (N := 1000) (by omega) (kd := r_kd c tm e) (r := r) (c := c) (tm := tm) (v := v) ht f1 f2
  rw [hRl] at m1
  -- the table of entries after the value and the flag
  have hw : x_sP (x_sP (x_g σ (va_up (va_up σ.1 5 (nI (s + 1))) 4 (nI (L.length + 1))) E N3 P3) k 5 v) k 9 o = x_g σ (va_up (va_up σ.1 5 (nI (s + 1))) 4 (nI (L.length + 1))) E N3 (x_P (x_sP (x_sP (x_g σ (va_up (va_up σ.1 5 (nI (s + 1))) 4 (nI (L.length + 1))) E N3 P3) k 5 v) k 9 o)) := rfl
  have hP4 : ∀ a g, x_P (x_sP (x_sP (x_g σ (va_up (va_up σ.1 5 (nI (s + 1))) 4 (nI (L.length + 1))) E N3 P3) k 5 v) k 9 o) a g = if a = k ∧ g = 9 then o else if a = k ∧ g = 5 then v else P3 a g := fun a g => by
    rw [x_sP_at, x_sP_at]
    rfl
  generalize x_P (x_sP (x_sP (x_g σ (va_up (va_up σ.1 5 (nI (s + 1))) 4 (nI (L.length + 1))) E N3 P3) k 5 v) k 9 o) = P4 at hw hP4
  have p4k : ∀ g, g ≠ 9 → g ≠ 5 → P4 k g = P3 k g := fun g h9 h5 => by rw [hP4, if_neg (fun q => h9 q.2), if_neg (fun q => h5 q.2)]
  have hne : ∀ a ∈ L, ¬ a = k := fun a ha q => hkL (q ▸ ha)
  have p4a : ∀ a ∈ L, ∀ g, P4 a g = P3 a g := fun a ha g => by rw [hP4, if_neg (fun q => hne a ha q.1), if_neg (fun q => hne a ha q.1)]
  have c0 : P4 k 0 = r := (p4k 0 (by decide) (by decide)).trans k0
  have c1 : P4 k 1 = c := (p4k 1 (by decide) (by decide)).trans k1
  have c2 : P4 k 2 = (if c < 4 then 0 else 1) := (p4k 2 (by decide) (by decide)).trans k2
  have c3 : P4 k 3 = tm := (p4k 3 (by decide) (by decide)).trans k3
  have c4 : P4 k 4 = e := (p4k 4 (by decide) (by decide)).trans k4
  have c5 : P4 k 5 = v := by rw [hP4, if_neg (fun q => absurd q.2 (by decide)), if_pos ⟨rfl, rfl⟩]
  have c6 : P4 k 6 = nI (s + 1) := (p4k 6 (by decide) (by decide)).trans k6
  have c7 : P4 k 7 = p_pl r c tm := (p4k 7 (by decide) (by decide)).trans k7
  have c8 : P4 k 8 = -1 := (p4k 8 (by decide) (by decide)).trans k8
  have c9 : P4 k 9 = o := by rw [hP4, if_pos ⟨rfl, rfl⟩]
  have c10 : P4 k 10 = 0 := (p4k 10 (by decide) (by decide)).trans k10
  have c11 : P4 k 11 = 0 := (p4k 11 (by decide) (by decide)).trans k11
  have hcv34 : ∀ a ∈ L, p_cv P3 k a = p_cv P4 k a := fun a ha => by
    unfold p_cv
    rw [p4a a ha, p4a a ha, p4a a ha, p4a a ha, p4k 0 (by decide) (by decide), p4k 1 (by decide) (by decide), p4k 3 (by decide) (by decide), p4k 6 (by decide) (by decide)]
  have pne : ∀ a ∈ L, ∀ g, g ≠ 10 → P4 a g = x_P σ a g := fun a ha g hg => by rw [p4a a ha, hP3 a ha, if_neg (fun q => hg q.1)]
  have p10 : ∀ a ∈ L, P4 a 10 = if p_cv P4 k a = true then 1 else x_P σ a 10 := fun a ha => by
    rw [p4a a ha, hP3 a ha, hcv34 a ha]
    by_cases q : p_cv P4 k a = true
    · rw [if_pos ⟨rfl, q⟩, if_pos q]
    · rw [if_neg (fun z => q z.2), if_neg q]
  have hmem : ∀ a, a ∈ A0 ++ k :: Bs ↔ a = k ∨ a ∈ L := fun a => by
    rw [hAB, List.mem_append, List.mem_append, List.mem_cons]
    constructor
    · intro q
      rcases q with q | q | q
      · exact Or.inr (Or.inl q)
      · exact Or.inl q
      · exact Or.inr (Or.inr q)
    · intro q
      rcases q with q | q | q
      · exact Or.inr (Or.inl q)
      · exact Or.inl q
      · exact Or.inr (Or.inr q)
  have hperm : (A0 ++ k :: Bs).Perm (k :: L) := by rw [hAB]; exact List.perm_middle
  have hlen : (A0 ++ k :: Bs).length = L.length + 1 := by rw [hperm.length_eq]; rfl
  have hs6 : (P4 k 6).toInt = s + 1 := by rw [c6, nI_toInt (by omega)]; omega
  have hkok : p_ok P4 k := by
    refine ⟨by rw [c0]; exact hr.1, by rw [c0]; exact hr.2, by rw [c1]; exact bc.1, by rw [c1]; exact bc.2, by rw [c3]; exact bt.1, by rw [c3]; exact bt.2, by rw [c4]; exact be, by rw [c1, c3]; exact b4, by rw [c3, c4]; exact b5, by rw [c1, c2], ?_, c11, by rw [c9]; exact ho1, Or.inl c10⟩
    rw [c7, c0, c1, c3]
    exact p_pl_i hr bc bt
  have haok : ∀ a ∈ L, p_ok P4 a := fun a ha => by
    obtain ⟨o0, o1, o2, o3, o4, o5, o6, o7, o8, o9, o10, o11, o12, o13⟩ := (h7 a ha).1
    have z := pne a ha
    unfold p_ok
    rw [z 0 (by decide), z 1 (by decide), z 2 (by decide), z 3 (by decide), z 4 (by decide), z 7 (by decide), z 9 (by decide), z 11 (by decide)]
    refine ⟨o0, o1, o2, o3, o4, o5, o6, o7, o8, o9, o10, o11, o12, ?_⟩
    rw [p10 a ha]
    by_cases q : p_cv P4 k a = true
    · rw [if_pos q]; exact Or.inr rfl
    · rw [if_neg q]; exact o13
  have hcva : ∀ a ∈ L, ∀ b ∈ L, p_cv P4 a b = p_cv (x_P σ) a b := fun a ha b hb => p_cv_c (pne a ha) (pne b hb)
  have hcvk : ∀ a ∈ A0 ++ k :: Bs, p_cv P4 a k = false := fun a ha => by
    cases q : p_cv P4 a k with
    | false => rfl
    | true =>
      have z := p_cv_seq q
      rw [hs6] at z
      rcases (hmem a).mp ha with y | y
      · rw [y, hs6] at z; omega
      · rw [pne a y 6 (by decide)] at z
        have := (h7 a y).2.2
        omega
  have hB' : ∀ a ∈ L, va_up B k (m_S τ 27) a = B a := fun a ha => if_neg (hne a ha)
  have hBk : va_up B k (m_S τ 27) k = m_S τ 27 := if_pos rfl
  refine ⟨k, A0 ++ k :: Bs, va_up B k (m_S τ 27), E, N3, P3, P4, _, x1, hEN _ _ (hE A0.length k (by rw [List.getElem?_append_right (Nat.le_refl _), Nat.sub_self]; rfl)), k5, k9, hw, m1, ⟨?_, ?_, ?_, ?_, ?_, ?_⟩, hperm, hBk, ⟨c0, c1, c3, c4, hs6⟩, pne, fun a ha => ?_⟩
  · -- the lists
    refine ⟨⟨by rw [hlen]; rfl, by omega, fun i a ha => ⟨hE i a ha, hEN i a (hE i a ha)⟩⟩, hperm.trans ((List.perm_append_singleton k R).symm.trans (List.Perm.refl _) |>.symm.trans (List.Perm.refl _) |> fun _ => (List.Perm.cons k hp).trans (List.perm_append_singleton k R).symm), nodup_ins (by rw [← hAB]; exact hn) (by rw [← hAB]; exact hkL), ⟨hEN, hEi⟩, rfl, hs, fun a ha => ?_, ?_, ?_⟩
    · rcases (hmem a).mp ha with q | q
      · rw [q]
        refine ⟨hkok, ?_, ?_⟩
        · show 0 < (P4 k 6).toInt
          omega
        · show (P4 k 6).toInt ≤ _
          omega
      · refine ⟨haok a q, ?_, ?_⟩
        · show 0 < (P4 a 6).toInt
          rw [pne a q 6 (by decide)]
          exact (h7 a q).2.1
        · show (P4 a 6).toInt ≤ _
          rw [pne a q 6 (by decide)]
          have := (h7 a q).2.2
          omega
    · have hmA : ∀ a ∈ A0, a ∈ L := fun a ha => by rw [hAB]; exact List.mem_append.mpr (Or.inl ha)
      have hmB : ∀ a ∈ Bs, a ∈ L := fun a ha => by rw [hAB]; exact List.mem_append.mpr (Or.inr ha)
      have hord' : (A0 ++ Bs).Pairwise (p_ord P4) := by
        rw [← hAB]
        refine List.Pairwise.imp_of_mem (fun {a b} ha hb q => ?_) hord
        unfold p_ord
        rw [pne a ha 7 (by decide), pne b hb 7 (by decide), pne a ha 6 (by decide), pne b hb 6 (by decide)]
        exact q
      obtain ⟨q1, q2, q3⟩ := List.pairwise_append.mp hord'
      refine List.pairwise_append.mpr ⟨q1, List.pairwise_cons.mpr ⟨fun b hb => ?_, q2⟩, fun a ha b hb => ?_⟩
      · have z := hB b hb
        show (P4 k 7).toInt < (P4 b 7).toInt ∨ (P4 k 7 = P4 b 7 ∧ (P4 b 6).toInt < (P4 k 6).toInt)
        rw [c7, pne b (hmB b hb) 7 (by decide), pne b (hmB b hb) 6 (by decide), hs6]
        rw [i_lt] at z
        by_cases w : (p_pl r c tm).toInt < (x_P σ b 7).toInt
        · exact Or.inl w
        · refine Or.inr ⟨by rw [i_eq]; omega, ?_⟩
          have := (h7 b (hmB b hb)).2.2
          omega
      · rcases List.mem_cons.mp hb with y | y
        · rw [y]
          refine Or.inl ?_
          show (P4 a 7).toInt < (P4 k 7).toInt
          rw [c7, pne a (hmA a ha) 7 (by decide)]
          have := hA a ha
          rw [i_lt] at this
          exact this
        · exact q3 a ha b y
    · refine List.pairwise_append.mpr ⟨?_, List.pairwise_singleton _ _, fun a ha b hb => ?_⟩
      · refine List.Pairwise.imp_of_mem (fun {a b} ha hb q => ?_) hseq
        show (P4 a 6).toInt < (P4 b 6).toInt
        rw [pne a (hp.mem_iff.mpr ha) 6 (by decide), pne b (hp.mem_iff.mpr hb) 6 (by decide)]
        exact q
      · rw [List.mem_singleton] at hb
        rw [hb]
        show (P4 a 6).toInt < (P4 k 6).toInt
        rw [hs6, pne a (hp.mem_iff.mpr ha) 6 (by decide)]
        have := (h7 a (hp.mem_iff.mpr ha)).2.2
        omega
  · -- tablets, tables
    refine ⟨t1, t2, hf, hfr, ⟨?_, ?_, fun i a ha => ?_⟩, fun t' ht' => ⟨(htc t' ht').1, fun a ha => ?_, fun i hi => ?_⟩⟩
    · rw [List.length_append, List.length_singleton, hRl]
      rfl
    · rw [List.length_append, List.length_singleton, hRl]
      omega
    · show upd (m_I τ 1) L.length _ i = p_kind P4 a ∧ upd (m_I τ 2) L.length _ i = P4 a 0 ∧ upd (m_I τ 3) L.length _ i = P4 a 1 ∧ upd (m_I τ 4) L.length _ i = P4 a 3 ∧ upd (m_I τ 5) L.length _ i = P4 a 5 ∧ upd (m_I τ 8) L.length _ i = P4 a 8 ∧ ∃ t : Nat, t < T ∧ upd (m_I τ 7) L.length _ i = nI t ∧ x_I σ 4 t ≤ P4 a 0 ∧ P4 a 0 < x_I σ 4 (t + 1)
      by_cases q : i = L.length
      · rw [q, ← hRl, List.getElem?_append_right (Nat.le_refl _), Nat.sub_self] at ha
        obtain rfl : k = a := Option.some.inj ha
        rw [q, upd_s, upd_s, upd_s, upd_s, upd_s, upd_s, upd_s, c0, c1, c3, c5, c8]
        refine ⟨?_, rfl, rfl, rfl, rfl, rfl, t, ht, rfl, f1, f2⟩
        show r_kd c tm e = p_kind P4 k
        unfold r_kd p_kind
        rw [c1, c3, c4]
      · have hi : i < R.length := by
          have := (List.getElem?_eq_some_iff.mp ha).1
          rw [List.length_append, List.length_singleton] at this
          omega
        rw [List.getElem?_append_left hi] at ha
        have haL := hp.mem_iff.mpr (List.mem_of_getElem? ha)
        have z := pne a haL
        rw [pk_un q, pk_un q, pk_un q, pk_un q, pk_un q, pk_un q, pk_un q, z 0 (by decide), z 1 (by decide), z 3 (by decide), z 5 (by decide), z 8 (by decide)]
        have hkd : p_kind P4 a = p_kind (x_P σ) a := by
          unfold p_kind
          rw [z 1 (by decide), z 3 (by decide), z 4 (by decide)]
        rw [hkd]
        exact hLM.2.2 i a ha
    · obtain ⟨q1, q2, q3⟩ := x_sg_mem.mp ha
      show -1 ≤ (P4 a 8).toInt ∧ (P4 a 8).toInt < _
      rcases (hmem a).mp q1 with q | q
      · rw [q, c8, i_m1]
        omega
      · rw [pne a q 8 (by decide)]
        have w0 : x_P (x_g σ (va_up (va_up σ.1 5 (nI (s + 1))) 4 (nI (L.length + 1))) E N3 P4) a 0 = x_P σ a 0 := pne a q 0 (by decide)
        rw [w0] at q2 q3
        exact (htc t' ht').2.1 a (x_sg_mem.mpr ⟨q, q2, q3⟩)
    · obtain ⟨a, ha, q⟩ := (htc t' ht').2.2 i hi
      obtain ⟨q1, q2, q3⟩ := x_sg_mem.mp ha
      refine ⟨a, x_sg_mem.mpr ⟨(hmem a).mpr (Or.inr q1), ?_⟩, ?_⟩
      · have w0 : x_P (x_g σ (va_up (va_up σ.1 5 (nI (s + 1))) 4 (nI (L.length + 1))) E N3 P4) a 0 = x_P σ a 0 := pne a q1 0 (by decide)
        rw [w0]
        exact ⟨q2, q3⟩
      · show P4 a 8 = nI i
        rw [pne a q1 8 (by decide)]
        exact q
  · -- covered
    intro a ha h4 hold
    have h4' : P4 a 4 = 0 := h4
    have hold' : p_old P4 (x_I σ 2) (x_S σ 2) a = false := hold
    show P4 a 10 = 0 ↔ ∀ b ∈ A0 ++ k :: Bs, p_cv P4 b a = false
    rcases (hmem a).mp ha with q | q
    · rw [q]
      exact ⟨fun _ => hcvk, fun _ => c10⟩
    · have z := pne a q
      rw [z 4 (by decide)] at h4'
      rw [p_old_c (z 2 (by decide)) (z 3 (by decide)) (z 4 (by decide))] at hold'
      have hc := hcov a q h4' hold'
      rw [p10 a q]
      cases w : p_cv P4 k a with
      | true =>
        rw [if_pos rfl]
        refine ⟨fun y => absurd y (by decide), fun y => ?_⟩
        have := y k ((hmem k).mpr (Or.inl rfl))
        rw [w] at this
        exact absurd this (by decide)
      | false =>
        rw [if_neg (by decide), hc]
        constructor
        · intro y b hb
          rcases (hmem b).mp hb with x | x
          · rw [x]; exact w
          · rw [hcva b x a q]; exact y b x
        · intro y b hb
          rw [← hcva b hb a q]
          exact y b ((hmem b).mpr (Or.inr hb))
  · intro i a ha
    show upd (m_I τ 6) L.length (m_S τ 27) i = va_up B k (m_S τ 27) a
    by_cases q : i = L.length
    · rw [q, ← hRl, List.getElem?_append_right (Nat.le_refl _), Nat.sub_self] at ha
      obtain rfl : k = a := Option.some.inj ha
      rw [q, upd_s, hBk]
    · have hi : i < R.length := by
        have := (List.getElem?_eq_some_iff.mp ha).1
        rw [List.length_append, List.length_singleton] at this
        omega
      rw [List.getElem?_append_left hi] at ha
      rw [pk_un q, hB' a (hp.mem_iff.mpr (List.mem_of_getElem? ha))]
      exact h6 i a ha
  · -- batches
    have hcase : ∀ a, a ∈ A0 ++ k :: Bs → (a = k ∧ va_up B k (m_S τ 27) a = m_S τ 27) ∨ (a ∈ L ∧ va_up B k (m_S τ 27) a = B a) := fun a ha => by
      rcases (hmem a).mp ha with q | q
      · exact Or.inl ⟨q, by rw [q]; exact hBk⟩
      · exact Or.inr ⟨q, hB' a q⟩
    refine ⟨fun a ha => ?_, fun a ha b hb q => ?_, fun a ha h8 => ?_⟩
    · show 0 < (va_up B k (m_S τ 27) a).toInt ∧ (va_up B k (m_S τ 27) a).toInt ≤ (m_S τ 27).toInt
      rcases hcase a ha with ⟨_, z⟩ | ⟨y, z⟩
      · rw [z]; exact ⟨hap, Int.le_refl _⟩
      · rw [z]; exact hbat.1 a y
    · show P4 a 0 = P4 b 0
      rcases hcase a ha with ⟨y, z⟩ | ⟨y, z⟩ <;> rcases hcase b hb with ⟨y', z'⟩ | ⟨y', z'⟩
      · rw [y, y']
      · rw [z, z'] at q
        rw [y, c0, pne b y' 0 (by decide)]
        exact (hrow b y' q.symm).1.symm
      · rw [z, z'] at q
        rw [y', c0, pne a y 0 (by decide)]
        exact (hrow a y q).1
      · rw [z, z'] at q
        rw [pne a y 0 (by decide), pne b y' 0 (by decide)]
        exact hbat.2.1 a y b y' q
    · have h8' : P4 a 8 = -1 := h8
      show P4 a 9 = 0 ↔ ∃ b ∈ A0 ++ k :: Bs, (P4 b 6).toInt < (P4 a 6).toInt ∧ P4 b 8 = -1 ∧ va_up B k (m_S τ 27) b = va_up B k (m_S τ 27) a
      rcases hcase a ha with ⟨y, z⟩ | ⟨y, z⟩
      · rw [z, y, c9, ho, hs6]
        constructor
        · intro ⟨b, hb, w⟩
          refine ⟨b, (hmem b).mpr (Or.inr hb), ?_, ?_, ?_⟩
          · rw [pne b hb 6 (by decide)]
            have := (h7 b hb).2.2
            omega
          · rw [pne b hb 8 (by decide)]
            exact (hrow b hb w).2
          · rw [hB' b hb]; exact w
        · intro ⟨b, hb, w1, w2, w3⟩
          rcases hcase b hb with ⟨u, _⟩ | ⟨u, u'⟩
          · rw [u, hs6] at w1
            omega
          · exact ⟨b, u, by rw [← u']; exact w3⟩
      · rw [pne a y 8 (by decide)] at h8'
        rw [pne a y 9 (by decide), hbat.2.2 a y h8', z, pne a y 6 (by decide)]
        constructor
        · intro ⟨b, hb, w1, w2, w3⟩
          exact ⟨b, (hmem b).mpr (Or.inr hb), by rw [pne b hb 6 (by decide)]; exact w1, by rw [pne b hb 8 (by decide)]; exact w2, by rw [hB' b hb]; exact w3⟩
        · intro ⟨b, hb, w1, w2, w3⟩
          rcases hcase b hb with ⟨u, _⟩ | ⟨u, u'⟩
          · rw [u, hs6] at w1
            have := (h7 a y).2.2
            omega
          · rw [pne b u 6 (by decide)] at w1
            rw [pne b u 8 (by decide)] at w2
            exact ⟨b, u, w1, w2, by rw [← u']; exact w3⟩
  · intro a ha q
    show P4 a 0 = r ∧ P4 a 8 = -1
    rcases (hmem a).mp ha with y | y
    · rw [y]; exact ⟨c0, c8⟩
    · rw [hB' a y] at q
      rw [pne a y 0 (by decide), pne a y 8 (by decide)]
      exact hrow a y q
  · have z := pne a ha
    unfold p_live
    rw [p_old_c (z 2 (by decide)) (z 3 (by decide)) (z 4 (by decide)), z 4 (by decide), p10 a ha]
    cases w : p_cv P4 k a with
    | true => rw [if_pos rfl, decide_eq_false (show ¬ (1 : Int32) = 0 by decide), Bool.false_and, Bool.and_false, Bool.not_true, Bool.and_false]
    | false => rw [if_neg (by decide), Bool.not_false, Bool.and_true]
