/-! apply: what a column holds beyond its number is erased. -/
def x_fr (σ σ' : x_T) : Prop := σ'.2.1 = σ.2.1 ∧ σ'.2.2.1 = σ.2.2.1 ∧ ∀ i : Nat, i ≠ 4 → i ≠ 5 → x_S σ' i = x_S σ i
def m_fr (τ τ' : m_T) : Prop := (∀ i : Nat, i ≠ 0 → m_S τ' i = m_S τ i) ∧ ∀ a : Nat, ¬ (1 ≤ a ∧ a ≤ 8) → m_I τ' a = m_I τ a
theorem x_fr.I {σ σ' : x_T} (h : x_fr σ σ') (a : Nat) : x_I σ' a = x_I σ a := congrFun h.1 a
theorem x_fr.L {σ σ' : x_T} (h : x_fr σ σ') (a : Nat) : x_L σ' a = x_L σ a := congrFun h.2.1 a
theorem x_fr.trans {a b c : x_T} (h : x_fr a b) (h' : x_fr b c) : x_fr a c := ⟨h'.1.trans h.1, h'.2.1.trans h.2.1, fun i q1 q2 => (h'.2.2 i q1 q2).trans (h.2.2 i q1 q2)⟩
theorem m_fr.trans {a b c : m_T} (h : m_fr a b) (h' : m_fr b c) : m_fr a c := ⟨fun i q => (h'.1 i q).trans (h.1 i q), fun i q => (h'.2 i q).trans (h.2 i q)⟩
theorem x_fr_id (σ : x_T) : x_fr σ σ := ⟨rfl, rfl, fun _ _ _ => rfl⟩
theorem m_fr_id (τ : m_T) : m_fr τ τ := ⟨fun _ _ => rfl, fun _ _ => rfl⟩
theorem x_fr_g {σ : x_T} {a b : Int32} {E : Nat → Option Nat} {N : Nat} {P : Nat → Nat → Int32} : x_fr σ (x_g σ (va_up (va_up σ.1 5 a) 4 b) E N P) := ⟨rfl, rfl, fun i h4 h5 => by
  show (if i = 4 then b else if i = 5 then a else σ.1 i) = σ.1 i
  rw [if_neg h4, if_neg h5]⟩
theorem m_fr_g {τ : m_T} {A : Nat → Nat → Int32} {v : Int32} : m_fr τ (m_sS (m_e8 τ A) 0 v) := ⟨fun i h => by
  show (if i = 0 then v else τ.1 i) = τ.1 i
  rw [if_neg h], fun a h => by
  show (if 1 ≤ a ∧ a ≤ 8 then A a else τ.2 a) = τ.2 a
  rw [if_neg h]⟩
theorem r_A.fr {j : Nat} {σ σ' : x_T} {τ τ' : m_T} (h : r_A j σ τ) (hx : x_fr σ σ') (hm : m_fr τ τ') : r_A j σ' τ' := by
  unfold r_A at *
  rw [hx.2.2 2 (by decide) (by decide), hx.2.2 9 (by decide) (by decide), hx.2.2 13 (by decide) (by decide), hx.I 1, hx.I 2, hm.1 14 (by decide), hm.1 26 (by decide), hm.1 31 (by decide), hm.2 11 (by decide), hm.2 12 (by decide)]
  exact h
theorem r_F.fr {σ σ' : x_T} {τ τ' : m_T} (h : r_F σ τ) (hx : x_fr σ σ') (hm : m_fr τ τ') : r_F σ' τ' := by
  unfold r_F at *
  rw [hx.2.2 11 (by decide) (by decide), hx.L 10, hm.1 28 (by decide), hm.2 17 (by decide), hm.2 18 (by decide)]
  exact h
theorem r_S.fr {σ σ' : x_T} (h : r_S σ) (hx : x_fr σ σ') : r_S σ' := by
  unfold r_S at *
  rw [hx.2.2 41 (by decide) (by decide), hx.L 12, hx.I 13, hx.I 14]
  exact h
theorem x_sP_id {σ : x_T} {k f : Nat} {v : Int32} (h : x_P σ k f = v) : x_sP σ k f v = σ := by
  obtain ⟨a, b, c, d, e, P⟩ := σ
  have h' : P k f = v := h
  show (a, b, c, d, e, va_up P k (va_up (P k) f v)) = _
  rw [← h', va_up_id, va_up_id]
theorem countP_lt1 {p q : Nat → Bool} {d : Nat} : ∀ {l : List Nat}, (∀ x ∈ l, p x = true → q x = true) → d ∈ l → q d = true → p d = false → l.countP p + 1 ≤ l.countP q := by
  intro l
  induction l with
  | nil => intro _ h; exact absurd h List.not_mem_nil
  | cons a l ih =>
    intro h hd hq hp
    have hl : ∀ x ∈ l, p x = true → q x = true := fun x hx => h x (List.mem_cons_of_mem _ hx)
    rw [List.countP_cons, List.countP_cons]
    rcases List.mem_cons.mp hd with e | e
    · rw [← e, hp, hq]
      have := List.countP_mono_left hl
      simp only [Bool.false_eq_true, if_false, if_true]
      omega
    · have := ih hl e hq hp
      have h1 := h a List.mem_cons_self
      cases pa : p a with
      | true =>
        rw [h1 pa]
        simp only [if_true]
        omega
      | false =>
        simp only [Bool.false_eq_true, if_false]
        omega
/-- the live cells of a column -/
def p_cnt (P : Nat → Nat → Int32) (ag : Nat → Int32) (cl : Int32) (L : List Nat) (r c : Int32) : Nat := L.countP (fun k => decide (P k 0 = r) && (decide (P k 1 = c) && p_live P ag cl k))
theorem p_cnt_col {P : Nat → Nat → Int32} {ag : Nat → Int32} {cl : Int32} {L : List Nat} {r c : Int32} : p_cnt P ag cl L r c = (p_col P ag cl L r c).length := List.countP_eq_length_filter
theorem p_cnt_m {P Q : Nat → Nat → Int32} {ag : Nat → Int32} {cl : Int32} {L : List Nat} {k : Nat} (hne : ∀ a ∈ L, ∀ g, g ≠ 10 → Q a g = P a g) (hlv : ∀ a ∈ L, p_live Q ag cl a = (p_live P ag cl a && !p_cv Q k a)) (r c : Int32) : ∀ a ∈ L, (decide (Q a 0 = r) && (decide (Q a 1 = c) && p_live Q ag cl a)) = true → (decide (P a 0 = r) && (decide (P a 1 = c) && p_live P ag cl a)) = true := fun a ha => by
  rw [hne a ha 0 (by decide), hne a ha 1 (by decide), hlv a ha]
  simp only [Bool.and_eq_true]
  exact fun h => ⟨h.1, h.2.1, h.2.2.1⟩
theorem p_cnt_make {P Q : Nat → Nat → Int32} {ag : Nat → Int32} {cl : Int32} {L L' : List Nat} {k : Nat} {r c e : Int32} (hp : L'.Perm (k :: L)) (h0 : Q k 0 = r) (h1 : Q k 1 = c) (h4 : Q k 4 = e) (hne : ∀ a ∈ L, ∀ g, g ≠ 10 → Q a g = P a g) (hlv : ∀ a ∈ L, p_live Q ag cl a = (p_live P ag cl a && !p_cv Q k a)) (r' c' : Int32) : p_cnt Q ag cl L' r' c' ≤ p_cnt P ag cl L r' c' + (if e = 0 ∧ r' = r ∧ c' = c then 1 else 0) := by
  unfold p_cnt
  rw [hp.countP_eq, List.countP_cons]
  have m := List.countP_mono_left (p_cnt_m hne hlv r' c')
  by_cases q : e = 0 ∧ r' = r ∧ c' = c
  · rw [if_pos q]
    split <;> omega
  · rw [if_neg q, if_neg]
    · omega
    · simp only [Bool.and_eq_true, decide_eq_true_eq]
      intro ⟨z0, z1, z2⟩
      exact q ⟨h4.symm.trans (p_live_4 z2).1, z0.symm.trans h0, z1.symm.trans h1⟩
theorem p_cnt_cut {P Q : Nat → Nat → Int32} {ag : Nat → Int32} {cl : Int32} {L L' : List Nat} {k d : Nat} {r c : Int32} (hp : L'.Perm (k :: L)) (h4 : Q k 4 = 1) (hne : ∀ a ∈ L, ∀ g, g ≠ 10 → Q a g = P a g) (hlv : ∀ a ∈ L, p_live Q ag cl a = (p_live P ag cl a && !p_cv Q k a)) (hd : d ∈ p_col P ag cl L r c) (hcv : p_cv Q k d = true) : p_cnt Q ag cl L' r c + 1 ≤ p_cnt P ag cl L r c := by
  obtain ⟨hdL, d0, d1, d2⟩ := p_col_mem.mp hd
  unfold p_cnt
  rw [hp.countP_eq, List.countP_cons, if_neg]
  · refine countP_lt1 (p_cnt_m hne hlv r c) hdL ?_ ?_
    · rw [decide_eq_true d0, decide_eq_true d1, d2]
      rfl
    · rw [hlv d hdL, hcv, Bool.not_true, Bool.and_false, Bool.and_false, Bool.and_false]
  · simp only [Bool.and_eq_true]
    intro ⟨_, _, z⟩
    have := (p_live_4 z).1
    rw [h4] at this
    exact absurd this (by decide)
theorem e_trimL {τ : m_T} {P : Nat → Nat → Int32} {R : List Nat} {fr : Nat → Int32} {T : Nat} {ag : Nat → Int32} {cl : Int32} (h : r_bl τ P R fr T ag cl) {N : Nat} (hN : 247 < N) (r c : Int32) {S : List Nat} (hS : ∀ k, k ∈ S ↔ k ∈ R ∧ P k 0 = r ∧ P k 1 = c ∧ p_live P ag cl k = true) (hd : S.Pairwise (fun a b => (P b 3).toInt < (P a 3).toInt)) (u : Int32) (K : Int32 → Int32 → Option m_T) : ∀ (D : List Nat) (n s : Nat) (v v5 lim : Int32), S.filter (fun k => decide (P k 3 < lim)) = D → D.length < n → q_ix R D.head? v → ∃ w, f_M_trim_L26 N τ r c u K n (nI s) v5 v = K (nI (s + D.length)) w ∧ ((D = [] ∧ w = v5) ∨ ∃ k i, D.getLast? = some k ∧ R[i]? = some k ∧ w = nI i) := by
  intro D
  induction D with
  | nil =>
    intro n s v v5 lim hD hn hv
    obtain ⟨n, rfl⟩ : ∃ a, n = a + 1 := ⟨n - 1, by simp at hn; omega⟩
    refine ⟨v5, ?_, Or.inl ⟨rfl, rfl⟩⟩
    rw [f_M_trim_L26, if_pos]
    · rfl
    · rcases hv with ⟨_, rfl⟩ | ⟨k, i, e, _⟩
      · decide
      · cases e
  | cons k D ih =>
    intro n s v v5 lim hD hn hv
    obtain ⟨n, rfl⟩ : ∃ a, n = a + 1 := ⟨n - 1, by simp at hn; omega⟩
    rw [f_M_trim_L26]
    rcases hv with ⟨e, _⟩ | ⟨k', i, e, hi, rfl⟩
    · cases e
    · cases e
      obtain ⟨a1, a2, a3, a4⟩ := h.1.at hi
      rw [if_neg (nI_pos (by omega)), q_gd_t a1, a2, (h.1.2.2 i k hi).2.2.2.1]
      have hnx := p_next hd hD
      obtain ⟨v', e1, e2⟩ := e_belowI h hN r c (P k 3) hS hd
      rw [e1, Option.bind_some, ← nI_succ]
      rw [hnx] at e2
      obtain ⟨w, e3, e4⟩ := ih n (s + 1) v' (nI i) (P k 3) hnx (by simp at hn; omega) e2
      refine ⟨w, ?_, ?_⟩
      · rw [e3, List.length_cons, show s + 1 + D.length = s + (D.length + 1) by omega]
      · rcases e4 with ⟨q, rfl⟩ | ⟨k2, i2, q1, q2, q3⟩
        · subst q
          exact Or.inr ⟨k, i, rfl, hi, rfl⟩
        · refine Or.inr ⟨k2, i2, ?_, q2, q3⟩
          cases D with
          | nil => cases q1
          | cons b D => rw [List.getLast?_cons_cons]; exact q1
theorem p_fam2 {c : Nat} (hc : c < 8) : ∃ f : Nat, f < 2 ∧ (if nI c < 4 then 0 else 1) = f ∧ f_T_familyOf (nI c) = some (nI f) ∧ nI c / 4 = nI f := by
  unfold f_T_familyOf
  rw [show (4 : Int32) = nI 4 from rfl, pk_div (by omega) (by omega) (by omega)]
  by_cases q : nI c < nI 4
  · have q' := q
    rw [i_lt, nI_toInt (by omega), nI_toInt (by omega)] at q'
    refine ⟨0, by omega, if_pos q, ?_, by congr 1; omega⟩
    rw [if_neg (by rw [i_le, nI_toInt (by omega), nI_toInt (by omega)]; omega), nI_0]
  · have q' := q
    rw [i_lt, nI_toInt (by omega), nI_toInt (by omega)] at q'
    refine ⟨1, by omega, if_neg q, ?_, by congr 1; omega⟩
    rw [if_pos (by rw [i_le, nI_toInt (by omega), nI_toInt (by omega)]; omega)]
    rfl
theorem e_trimM {τ : m_T} {P : Nat → Nat → Int32} {R : List Nat} {fr : Nat → Int32} {T : Nat} {ag : Nat → Int32} {cl : Int32} (h : r_bl τ P R fr T ag cl) {N : Nat} (hN : 247 < N) (r : Int32) {c f m : Nat} (hf : f < 2) (ef : nI c / 4 = nI f) (em : m_I τ 11 f = nI m) {S : List Nat} (hS : ∀ k, k ∈ S ↔ k ∈ R ∧ P k 0 = r ∧ P k 1 = nI c ∧ p_live P ag cl k = true) (hd : S.Pairwise (fun a b => (P b 3).toInt < (P a 3).toInt)) (hlen : S.length ≤ 247) (hlim : S.filter (fun k => decide (P k 3 < 10000)) = S) : ∃ w, f_M_trim N τ r (nI c) = (if nI m = 0 then some τ else if nI S.length ≤ nI m then some τ else q_gd (q_in w 256) <| (f_M_make N τ 1 r (nI c) (m_I τ 4 w.toNatClampNeg) 0).bind fun s9 => some s9) ∧ ((S = [] ∧ w = -1) ∨ ∃ k i, S.getLast? = some k ∧ R[i]? = some k ∧ w = nI i) := by
  obtain ⟨v, b1, b2⟩ := e_belowI h hN r (nI c) 10000 hS hd
  rw [hlim] at b2
  unfold f_M_trim
  rw [ef, q_gd_t (q_in_of hf (by omega)), b1, Option.bind_some, nI_cl (by omega), em]
  obtain ⟨w, e3, e4⟩ := e_trimL h hN r (nI c) hS hd (nI m) (fun v4 v5 => (if nI m = 0 then some τ else (if v4 ≤ nI m then some τ else q_gd (q_in v5 256) <| (f_M_make N τ 1 r (nI c) (m_I τ 4 v5.toNatClampNeg) 0).bind fun s9 => some s9))) S N 0 v (-1) 10000 hlim (by omega) b2
  rw [nI_0, Nat.zero_add] at e3
  exact ⟨w, e3, e4⟩
def p_num1 (P : Nat → Nat → Int32) (ag nu : Nat → Int32) (cl : Int32) (L : List Nat) (r c : Int32) : Prop := ∀ r' c' : Int32, 0 ≤ c'.toInt → c'.toInt < 8 → ¬ nu (if c' < 4 then 0 else 1) = 0 → (p_cnt P ag cl L r' c' : Int) ≤ (nu (if c' < 4 then 0 else 1)).toInt + (if r' = r ∧ c' = c then 1 else 0)
theorem r_trim {j i s T : Nat} {σ : x_T} {τ : m_T} {L R : List Nat} {tc : Nat → Nat} {B : Nat → Int32} {r c : Int32} (hM : r_M (j + 1) σ τ L R s T tc B r) (hA : r_A i σ τ) (hl : L.length < 247) (hs : s + 1 ≤ 8 * (j + 1)) (hj : j < 512) (hr : 0 ≤ r.toInt ∧ r.toInt < 64) (hc0 : 0 ≤ c.toInt) (hc8 : c.toInt < 8) (hb : ∃ b ∈ L, B b = m_S τ 27) (hap : 0 < (m_S τ 27).toInt) (hn : p_num1 (x_P σ) (x_I σ 2) (x_I σ 1) (x_S σ 2) L r c) :
    ∃ (σ' : x_T) (τ' : m_T) (L' R' : List Nat) (s' : Nat) (B' : Nat → Int32), f_T_eraseBeyondNumber 1000 σ r c = some σ' ∧ f_M_trim 1000 τ r c = some τ' ∧ r_M (j + 1) σ' τ' L' R' s' T tc B' r ∧ p_num (x_P σ') (x_I σ 2) (x_I σ 1) (x_S σ 2) L' ∧ L'.length ≤ L.length + 1 ∧ s' ≤ s + 1 ∧ x_fr σ σ' ∧ m_fr τ τ' ∧ ∃ b ∈ L', B' b = m_S τ 27 := by
  have hL := hM.1
  have hT := hM.2.1
  have hcov := hM.2.2.1
  have hok : ∀ k ∈ L, p_ok (x_P σ) k := fun k hk => (hL.2.2.2.2.2.2.1 k hk).1
  have hbl : r_bl τ (x_P σ) R (x_I σ 4) T (x_I σ 2) (x_S σ 2) := ⟨hT.2.2.2.2.1, hL.2.2.2.2.2.2.2.2, fun k hk => hok k (hL.2.1.mem_iff.mpr hk), fun i hi => (hA.2.2.1 i hi).2.1, hA.2.1, hcov.perm hL.2.1⟩
  obtain ⟨c, hc, rfl⟩ : ∃ y : Nat, y < 8 ∧ c = nI y := ⟨c.toInt.toNat, by omega, by rw [i_eq, nI_toInt (by omega)]; omega⟩
  obtain ⟨f, hf, f1, f2, f3⟩ := p_fam2 hc
  obtain ⟨g1, g2, g3, g4, _⟩ := hA.2.2.1 f hf
  obtain ⟨m, hm, em⟩ : ∃ m : Nat, m ≤ 5 ∧ x_I σ 1 f = nI m := ⟨(x_I σ 1 f).toInt.toNat, by omega, by rw [i_eq, nI_toInt (by omega)]; omega⟩
  have hcs := p_col_perm (P := x_P σ) (ag := x_I σ 2) (cl := x_S σ 2) hL.2.1 r (nI c)
  have hcd := p_col_sorted (ag := x_I σ 2) (cl := x_S σ 2) hL.2.2.2.2.2.2.2.1 hok hcov r (nI c)
  have hlen : (p_col (x_P σ) (x_I σ 2) (x_S σ 2) L r (nI c)).length ≤ 247 := Nat.le_trans (List.length_filter_le _ _) hL.1.2.1
  have hcnt := p_cnt_col (P := x_P σ) (ag := x_I σ 2) (cl := x_S σ 2) (L := L) (r := r) (c := nI c)
  have htm : ∀ k ∈ p_col (x_P σ) (x_I σ 2) (x_S σ 2) L r (nI c), k ∈ L ∧ x_P σ k 0 = r ∧ x_P σ k 1 = nI c ∧ 0 ≤ (x_P σ k 3).toInt ∧ (x_P σ k 3).toInt < 10000 := fun k hk => by
    obtain ⟨k1, k2, k3, k4⟩ := p_col_mem.mp hk
    obtain ⟨_, t1, t2⟩ := p_live_t (hok k k1) k4
    exact ⟨k1, k2, k3, t1, t2⟩
  have hlt : (p_col (x_P σ) (x_I σ 2) (x_S σ 2) L r (nI c)).filter (fun k => decide (x_P σ k 3 < 10000)) = p_col (x_P σ) (x_I σ 2) (x_S σ 2) L r (nI c) := List.filter_eq_self.mpr (fun k hk => by rw [decide_eq_true_eq, i_lt, i_10000]; exact (htm k hk).2.2.2.2)
  have hle : (p_col (x_P σ) (x_I σ 2) (x_S σ 2) L r (nI c)).filter (fun k => decide (x_P σ k 3 ≤ 10000)) = p_col (x_P σ) (x_I σ 2) (x_S σ 2) L r (nI c) := List.filter_eq_self.mpr (fun k hk => by rw [decide_eq_true_eq, i_le, i_10000]; exact Int.le_of_lt (htm k hk).2.2.2.2)
  obtain ⟨w, m1, m2⟩ := e_trimM hbl (N := 1000) (by omega) r hf f3 (g1.trans em) hcs hcd hlen hlt
  have x0 : f_T_liveCell 1000 σ r (nI c) 10000 (nI m) = some (p_col (x_P σ) (x_I σ 2) (x_S σ 2) L r (nI c))[m]? := by
    rw [e_liveCell hL.1 hL.rows hok (by omega), hle, q_pick_n (by omega) _ 0 (by omega) (by omega), Nat.sub_zero]
  have hsame : (nI m = 0 ∨ (p_col (x_P σ) (x_I σ 2) (x_S σ 2) L r (nI c)).length ≤ m) → p_num (x_P σ) (x_I σ 2) (x_I σ 1) (x_S σ 2) L := fun q r' c' a1 a2 a3 => by
    have z := hn r' c' a1 a2 a3
    by_cases y : r' = r ∧ c' = nI c
    · obtain ⟨rfl, rfl⟩ := y
      rw [f1, em] at a3 ⊢
      rcases q with q | q
      · exact absurd q a3
      · show (p_cnt (x_P σ) (x_I σ 2) (x_S σ 2) L r' (nI c) : Int) ≤ _
        rw [hcnt, nI_toInt (by omega)]
        omega
    · rw [if_neg y, Int.add_zero] at z
      exact z
  by_cases q0 : nI m = 0
  · refine ⟨σ, τ, L, R, s, B, ?_, ?_, hM, hsame (Or.inl q0), by omega, by omega, x_fr_id σ, m_fr_id τ, hb⟩
    · unfold f_T_eraseBeyondNumber
      rw [f2, Option.bind_some, q_gd_t (q_in_of hf (by omega)), nI_cl (by omega), em, if_pos q0]
    · rw [m1, if_pos q0]
  by_cases q1 : (p_col (x_P σ) (x_I σ 2) (x_S σ 2) L r (nI c)).length ≤ m
  · refine ⟨σ, τ, L, R, s, B, ?_, ?_, hM, hsame (Or.inr q1), by omega, by omega, x_fr_id σ, m_fr_id τ, hb⟩
    · unfold f_T_eraseBeyondNumber
      rw [f2, Option.bind_some, q_gd_t (q_in_of hf (by omega)), nI_cl (by omega), em, if_neg q0, x0, Option.bind_some, q_om_n (List.getElem?_eq_none q1)]
    · rw [m1, if_neg q0, if_pos (nI_le q1 (by omega))]
  have hz := hn r (nI c) hc0 hc8 (by rw [f1, em]; exact q0)
  rw [if_pos (show r = r ∧ nI c = nI c from ⟨rfl, rfl⟩), f1, em, hcnt, nI_toInt (by omega)] at hz
  have hlm : (p_col (x_P σ) (x_I σ 2) (x_S σ 2) L r (nI c)).length = m + 1 := by omega
  obtain ⟨d, hd⟩ : ∃ d, (p_col (x_P σ) (x_I σ 2) (x_S σ 2) L r (nI c))[m]? = some d := ⟨_, List.getElem?_eq_getElem (by omega)⟩
  rcases m2 with ⟨y, _⟩ | ⟨d', i', l1, l2, l3⟩
  · rw [y] at hlm
    exact absurd hlm (by simp)
  rw [List.getLast?_eq_getElem?, hlm, Nat.add_sub_cancel, hd] at l1
  obtain rfl : d = d' := Option.some.inj l1
  have hdm := List.mem_of_getElem? hd
  obtain ⟨dL, d0, d1, t0, t1⟩ := htm d hdm
  have tm1 : ¬ x_P σ d 3 = -1 := by rw [i_eq, i_m1]; omega
  obtain ⟨k', L', B', E, N3, P3, P4, A, e1, e2, e3, e4, e5, e6, e7, e8, e9, ⟨p0, p1, p3, p4, p6⟩, hne, hlv⟩ := r_make (j' := j + 1) (c := nI c) (tm := x_P σ d 3) (e := 1) (v := 0) (o := 0) hM hl hs (by omega) hr (Or.inr ⟨rfl, Or.inr ⟨hc0, hc8, by omega, t1⟩⟩) (Or.inl rfl) ⟨fun _ => hb, fun _ => rfl⟩ hap
  rw [x_sP_id (show x_P (x_g σ (va_up (va_up σ.1 5 (nI (s + 1))) 4 (nI (L.length + 1))) E N3 P3) k' 5 = 0 from e3), x_sP_id (show x_P (x_g σ (va_up (va_up σ.1 5 (nI (s + 1))) 4 (nI (L.length + 1))) E N3 P3) k' 9 = 0 from e4)] at e5
  rw [e5] at e1
  have hkd : r_kd (nI c) (x_P σ d 3) 1 = 1 := by
    unfold r_kd
    rw [if_neg (by decide), if_neg (nI_m1 (by omega)), if_neg tm1]
  rw [hkd] at e6
  obtain ⟨jj, hjj⟩ := List.getElem?_of_mem dL
  obtain ⟨i1, i2, i3, i4⟩ := hbl.1.at l2
  obtain ⟨_, _, _, x4, _⟩ := hbl.1.2.2 i' d l2
  refine ⟨_, _, L', R ++ [k'], s + 1, B', ?_, ?_, e7, ?_, ?_, Nat.le_refl _, x_fr_g, m_fr_g, k', e8.mem_iff.mpr List.mem_cons_self, e9⟩
  · unfold f_T_eraseBeyondNumber
    rw [f2, Option.bind_some, q_gd_t (q_in_of hf (by omega)), nI_cl (by omega), em, if_neg q0, x0, Option.bind_some, hd, q_om_s rfl, q_gd_t (q_lt_of (hL.1.2.2 jj d hjj).2), e1]
    rfl
  · rw [m1, if_neg q0, if_neg (nI_ge (by omega) (by omega)), l3, q_gd_t i1, i2, x4, e6]
    rfl
  · intro r' c' a1 a2 a3
    show (p_cnt P4 (x_I σ 2) (x_S σ 2) L' r' c' : Int) ≤ _
    by_cases y : r' = r ∧ c' = nI c
    · obtain ⟨rfl, rfl⟩ := y
      have hcv : p_cv P4 k' d = true := by
        unfold p_cv
        rw [hne d dL 0 (by decide), hne d dL 1 (by decide), hne d dL 3 (by decide), hne d dL 6 (by decide), p0, p1, p3, decide_eq_true (show x_P σ d 6 < P4 k' 6 by
          rw [i_lt, p6]
          have := (hL.2.2.2.2.2.2.1 d dL).2.2
          omega), d0, d1]
        simp
      have z := p_cnt_cut e8 p4 hne hlv hdm hcv
      rw [hcnt, hlm] at z
      rw [f1, em, nI_toInt (by omega)]
      omega
    · have z := p_cnt_make e8 p0 p1 p4 hne hlv r' c'
      have u := hn r' c' a1 a2 a3
      rw [if_neg (fun w => y w.2)] at z
      rw [if_neg y] at u
      omega
  · rw [e8.length_eq]
    exact Nat.le_refl _
