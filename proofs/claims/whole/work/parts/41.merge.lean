/-! compact, major. -/
theorem p_ins_c {P : Nat → Nat → Int32} {S S' : List Nat} {u : Int32} {k : Nat} (h : k ∈ S ↔ k ∈ S') : p_ins P S u k = p_ins P S' u k := by
  unfold p_ins
  rw [decide_eq_decide.mpr h]
theorem p_gone_S {P : Nat → Nat → Int32} {S S' : List Nat} {u : Int32} {d : Nat → Bool} {k : Nat} (h : k ∈ S ↔ k ∈ S') : p_gone P S u d k = p_gone P S' u d k := by
  unfold p_gone
  rw [decide_eq_decide.mpr h]
theorem r_merge {j s T t : Nat} {σ : x_T} {τ : m_T} {L R : List Nat} {tc : Nat → Nat} {B : Nat → Int32} (hL : r_L j σ L R s) (hT : r_T σ τ L R T tc) (hC : r_C σ τ L R B) (ht : t < T) (f : Nat) (hfc : f ≤ tc t) (dead : Nat → Bool) (u3 : Int32) (hcov : p_cov (x_P σ) (x_I σ 2) (x_S σ 2) (L.filter (fun k => !p_gone (x_P σ) (x_sg σ L t) (nI f) dead k)))
    (hmark : ∀ K : m_T → Option (Int32 × m_T), ∃ g, f_M_merge_L3 1000 (nI t) (nI f) u3 K 1000 0 τ = K (m_wI τ 6 g) ∧ ∀ i k : Nat, R[i]? = some k → g i = if p_gone (x_P σ) (x_sg σ L t) (nI f) dead k = true then -2 else m_I τ 6 i) :
    ∃ (m n : Nat) (E : Nat → Option Nat) (A : Nat → Nat → Int32) (v : Int32) (tc' : Nat → Nat), f_T_mergeTables 1000 (x_wP σ (p_lv (x_P σ) (x_sg σ L t) (fun k => if p_gone (x_P σ) (x_sg σ L t) (nI f) dead k = true then 1 else 0))) (nI t) (nI f) = some (nI m, x_sS (x_eE (x_wP σ (p_mg (x_P σ) (x_sg σ L t) (nI f) dead)) E) 4 (nI n)) ∧ f_M_merge 1000 τ (nI t) (nI f) u3 = some (nI m, m_sI (m_sS (m_e8 τ A) 0 (nI n)) 10 t v) ∧ r_L j (x_sS (x_eE (x_wP σ (p_mg (x_P σ) (x_sg σ L t) (nI f) dead)) E) 4 (nI n)) (L.filter (fun k => !p_gone (x_P σ) (x_sg σ L t) (nI f) dead k)) (R.filter (fun k => !p_gone (x_P σ) (x_sg σ L t) (nI f) dead k)) s ∧ r_T (x_sS (x_eE (x_wP σ (p_mg (x_P σ) (x_sg σ L t) (nI f) dead)) E) 4 (nI n)) (m_sI (m_sS (m_e8 τ A) 0 (nI n)) 10 t v) (L.filter (fun k => !p_gone (x_P σ) (x_sg σ L t) (nI f) dead k)) (R.filter (fun k => !p_gone (x_P σ) (x_sg σ L t) (nI f) dead k)) T tc' ∧ r_C (x_sS (x_eE (x_wP σ (p_mg (x_P σ) (x_sg σ L t) (nI f) dead)) E) 4 (nI n)) (m_sI (m_sS (m_e8 τ A) 0 (nI n)) 10 t v) (L.filter (fun k => !p_gone (x_P σ) (x_sg σ L t) (nI f) dead k)) (R.filter (fun k => !p_gone (x_P σ) (x_sg σ L t) (nI f) dead k)) B := by
  have hf := hT.2.2.1
  have hT8 := hf.2.1
  have hp := hL.2.1
  have htc := hT.tc hL.1 ht
  have hLM := hT.2.2.2.2.1
  have h7 := hL.2.2.2.2.2.2.1
  have hmem : ∀ k, k ∈ p_seg (x_P σ) R (x_I σ 4 t) (x_I σ 4 (t + 1)) ↔ k ∈ x_sg σ L t := fun k => (List.Perm.mem_iff (seg_perm hp _ _)).symm
  obtain ⟨E, x1, x2, x3⟩ := e_mergeX hL.1 hL.2.2.1 hL.rows hL.2.2.2.1 (fun k hk => (h7 k hk).1.2.2.2.2.2.2.2.2.2.2.2.1) (N := 1000) (by omega) (t := t) (by omega) (hf.le ht) (nI f) dead
  have hBm : ∀ k ∈ R, ¬ B k = -2 := fun k hk q => by
    have := (hC.2.2.2.1 k (hp.mem_iff.mpr hk)).1
    rw [q] at this
    exact absurd this (by decide)
  obtain ⟨A, m1, m2⟩ := e_mergeM hLM hf (N := 1000) (by omega) ht f u3 hBm hC.2.2.1 (gone := fun k => p_gone (x_P σ) (x_sg σ L t) (nI f) dead k) hmark
  generalize hS : x_sg σ L t = S at *
  have hSm : ∀ k, k ∈ S ↔ k ∈ L ∧ x_P σ k 0 < x_I σ 4 (t + 1) ∧ x_I σ 4 t ≤ x_P σ k 0 := fun k => by rw [← hS]; exact x_sg_mem
  have hcnt : (R.filter (fun k => !p_gone (x_P σ) S (nI f) dead k)).countP (p_ins (x_P σ) (p_seg (x_P σ) R (x_I σ 4 t) (x_I σ 4 (t + 1))) (nI f)) = S.countP (fun k => !decide (x_P σ k 8 < nI f) && !p_gone (x_P σ) S (nI f) dead k) := by
    have hSL : ∀ c : Nat → Bool, S.countP c = L.countP (fun k => c k && (decide (x_P σ k 0 < x_I σ 4 (t + 1)) && !decide (x_P σ k 0 < x_I σ 4 t))) := fun c => by
      rw [← hS]
      exact List.countP_filter
    rw [← List.Perm.countP_eq _ (List.Perm.filter _ hp), List.countP_filter, hSL]
    refine List.countP_congr (fun k hk => ?_)
    rw [p_ins_c (hmem k)]
    unfold p_ins
    have hd : (decide (x_P σ k 0 < x_I σ 4 (t + 1)) && !decide (x_P σ k 0 < x_I σ 4 t)) = decide (k ∈ S) := by
      rw [Bool.eq_iff_iff, decide_eq_true_eq, ← hS]
      exact (p_seg_mem hk).symm
    rw [hd]
    cases decide (k ∈ S) <;> cases decide (x_P σ k 8 < nI f) <;> cases p_gone (x_P σ) S (nI f) dead k <;> decide
  have hlen : (L.filter (fun k => !p_gone (x_P σ) S (nI f) dead k)).length = (R.filter (fun k => !p_gone (x_P σ) S (nI f) dead k)).length := List.Perm.length_eq (List.Perm.filter _ hp)
  rw [hcnt, ← hlen] at m1
  have hng : ∀ {k}, k ∈ L.filter (fun k => !p_gone (x_P σ) S (nI f) dead k) → k ∈ L ∧ p_gone (x_P σ) S (nI f) dead k = false := fun {k} hk => by
    obtain ⟨q1, q2⟩ := List.mem_filter.mp hk
    rw [Bool.not_eq_true'] at q2
    exact ⟨q1, q2⟩
  have hmk : ∀ {k}, k ∈ L → p_gone (x_P σ) S (nI f) dead k = false → k ∈ L.filter (fun k => !p_gone (x_P σ) S (nI f) dead k) := fun {k} hk q => List.mem_filter.mpr ⟨hk, by rw [q]; rfl⟩
  have hgo : ∀ {k}, p_gone (x_P σ) S (nI f) dead k = true → k ∈ S ∧ ¬ x_P σ k 8 < nI f := fun {k} q => by
    unfold p_gone at q
    rw [Bool.and_eq_true, Bool.and_eq_true, decide_eq_true_eq, Bool.not_eq_true', decide_eq_false_iff_not] at q
    exact ⟨q.1, q.2.1⟩
  have hg0 : ∀ {k}, ¬ (k ∈ S ∧ ¬ x_P σ k 8 < nI f) → p_gone (x_P σ) S (nI f) dead k = false := fun {k} q => by
    cases z : p_gone (x_P σ) S (nI f) dead k with
    | false => rfl
    | true => exact absurd (hgo z) q
  have fi := nI_toInt (show f < 2 ^ 31 by omega)
  refine ⟨_, (L.filter (fun k => !p_gone (x_P σ) S (nI f) dead k)).length, E, A, _, fun t' => if t' = t then (if S.countP (fun k => !decide (x_P σ k 8 < nI f) && !p_gone (x_P σ) S (nI f) dead k) = 0 then f else f + 1) else tc t', x1, m1, ?_, ?_, ?_⟩
  · refine ⟨x2, List.Perm.filter _ hp, List.Pairwise.filter _ hL.2.2.1, x3, hL.2.2.2.2.1, hL.2.2.2.2.2.1, fun k hk => ?_, List.Pairwise.filter _ hL.2.2.2.2.2.2.2.1, List.Pairwise.filter _ hL.2.2.2.2.2.2.2.2⟩
    obtain ⟨q1, q2⟩ := hng hk
    obtain ⟨⟨o0, o1, o2, o3, o4, o5, o6, o7, o8, o9, o10, o11, o12, o13⟩, p1, p2⟩ := h7 k q1
    exact ⟨⟨o0, o1, o2, o3, o4, o5, o6, o7, o8, o9, o10, (p_mg_11 o11).mpr q2, o12, o13⟩, p1, p2⟩
  · refine ⟨hT.1, hT.2.1, hf, hT.2.2.2.1, ⟨by rw [← hlen]; rfl, by rw [← hlen]; exact x2.2.1, fun i k hk => ?_⟩, fun t' ht' => ?_⟩
    · obtain ⟨w1, w2, w3, w4, w5, w6, w7, w8⟩ := m2 i k hk
      refine ⟨w1, w2, w3, w4, w5, ?_, w7⟩
      have q2 : p_gone (x_P σ) S (nI f) dead k = false := by
        have := (List.mem_filter.mp (List.mem_of_getElem? hk)).2
        rw [Bool.not_eq_true'] at this
        exact this
      refine w6.trans ?_
      show _ = p_mg (x_P σ) S (nI f) dead k 8
      rw [p_mg_8 q2, p_ins_c (hmem k)]
      unfold p_ins
      by_cases c : k ∈ S ∧ ¬ x_P σ k 8 < nI f
      · rw [if_pos c, decide_eq_true c.1, decide_eq_false c.2]
        rfl
      · rw [if_neg c, if_neg]
        intro z
        rw [Bool.and_eq_true, decide_eq_true_eq, Bool.not_eq_true', decide_eq_false_iff_not] at z
        exact c z
    · show upd (m_I τ 10) t _ t' = nI (if t' = t then _ else tc t') ∧ p_tc (p_mg (x_P σ) S (nI f) dead) (x_sg (x_sS (x_eE (x_wP σ (p_mg (x_P σ) S (nI f) dead)) E) 4 (nI (L.filter (fun k => !p_gone (x_P σ) S (nI f) dead k)).length)) (L.filter (fun k => !p_gone (x_P σ) S (nI f) dead k)) t') (if t' = t then _ else tc t')
      have hsg : ∀ k, k ∈ x_sg (x_sS (x_eE (x_wP σ (p_mg (x_P σ) S (nI f) dead)) E) 4 (nI (L.filter (fun k => !p_gone (x_P σ) S (nI f) dead k)).length)) (L.filter (fun k => !p_gone (x_P σ) S (nI f) dead k)) t' ↔ k ∈ x_sg σ L t' ∧ p_gone (x_P σ) S (nI f) dead k = false := fun k => by
        rw [x_sg_mem, x_sg_mem]
        constructor
        · intro ⟨q1, q2, q3⟩
          exact ⟨⟨(hng q1).1, q2, q3⟩, (hng q1).2⟩
        · intro ⟨⟨q1, q2, q3⟩, q4⟩
          exact ⟨hmk q1 q4, q2, q3⟩
      by_cases e : t' = t
      · subst e
        rw [upd_s, if_pos rfl]
        refine ⟨rfl, ?_⟩
        obtain ⟨c1, c2⟩ := hT.2.2.2.2.2 t' ht'
        rw [hS] at c2
        rw [hS] at hsg
        refine ⟨fun k hk => ?_, fun i hi => ?_⟩
        · obtain ⟨q1, q2⟩ := (hsg k).mp hk
          have b1 := c2.1 k q1
          rw [p_mg_8 q2]
          by_cases c : k ∈ S ∧ ¬ x_P σ k 8 < nI f
          · rw [if_pos c, fi]
            have hpos : S.countP (fun k => !decide (x_P σ k 8 < nI f) && !p_gone (x_P σ) S (nI f) dead k) ≠ 0 := fun z => by
              have := List.countP_eq_zero.mp z k q1
              rw [decide_eq_false c.2, q2] at this
              exact this rfl
            rw [if_neg hpos]
            omega
          · rw [if_neg c]
            have c' : x_P σ k 8 < nI f := by
              refine Decidable.byContradiction (fun z => c ⟨q1, z⟩)
            rw [i_lt, fi] at c'
            split <;> omega
        · by_cases hif : i < f
          · obtain ⟨k, hk, q⟩ := c2.2 i (by omega)
            have hlt : x_P σ k 8 < nI f := by rw [q, i_lt, fi, nI_toInt (by omega)]; omega
            have q2 := hg0 (k := k) (fun z => z.2 hlt)
            exact ⟨k, (hsg k).mpr ⟨hk, q2⟩, by rw [p_mg_8 q2, if_neg (fun z => z.2 hlt)]; exact q⟩
          · have hpos : S.countP (fun k => !decide (x_P σ k 8 < nI f) && !p_gone (x_P σ) S (nI f) dead k) ≠ 0 := fun z => by
              rw [if_pos z] at hi
              omega
            rw [if_neg hpos] at hi
            obtain ⟨k, hk, q⟩ := List.countP_pos_iff.mp (Nat.pos_of_ne_zero hpos)
            rw [Bool.and_eq_true, Bool.not_eq_true', decide_eq_false_iff_not, Bool.not_eq_true'] at q
            refine ⟨k, (hsg k).mpr ⟨hk, q.2⟩, ?_⟩
            rw [p_mg_8 q.2, if_pos ⟨hk, q.1⟩]
            congr 1
            omega
      · rw [pk_un e, if_neg e]
        obtain ⟨c1, c2⟩ := hT.2.2.2.2.2 t' ht'
        have hout : ∀ k, k ∈ x_sg σ L t' → k ∉ S := fun k q z => by
          rw [← hS] at z
          exact e (x_sg_one hf ht' ht q z)
        refine ⟨c1, fun k hk => ?_, fun i hi => ?_⟩
        · obtain ⟨q1, q2⟩ := (hsg k).mp hk
          rw [p_mg_8 q2, if_neg (fun z => hout k q1 z.1)]
          exact c2.1 k q1
        · obtain ⟨k, hk, q⟩ := c2.2 i hi
          have q2 := hg0 (k := k) (fun z => hout k hk z.1)
          exact ⟨k, (hsg k).mpr ⟨hk, q2⟩, by rw [p_mg_8 q2, if_neg (fun z => hout k hk z.1)]; exact q⟩
  · refine ⟨hcov, fun r c c0 c8 hn => ?_, fun i k hk => (m2 i k hk).2.2.2.2.2.2.2, fun k hk => hC.2.2.2.1 k (hng hk).1, fun a ha k hk => hC.2.2.2.2.1 a (hng ha).1 k (hng hk).1, fun k hk h8 => ?_⟩
    · have h1 := hC.2.1 r c c0 c8 hn
      have h2 : (L.filter (fun k => !p_gone (x_P σ) S (nI f) dead k)).countP (fun k => decide (x_P σ k 0 = r) && (decide (x_P σ k 1 = c) && p_live (x_P σ) (x_I σ 2) (x_S σ 2) k)) ≤ L.countP (fun k => decide (x_P σ k 0 = r) && (decide (x_P σ k 1 = c) && p_live (x_P σ) (x_I σ 2) (x_S σ 2) k)) := List.Sublist.countP_le List.filter_sublist
      show ((L.filter (fun k => !p_gone (x_P σ) S (nI f) dead k)).countP (fun k => decide (x_P σ k 0 = r) && (decide (x_P σ k 1 = c) && p_live (x_P σ) (x_I σ 2) (x_S σ 2) k)) : Int) ≤ _
      exact Int.le_trans (Int.ofNat_le.mpr h2) h1
    · obtain ⟨q1, q2⟩ := hng hk
      have m1f : ¬ nI f = -1 := nI_m1 (by omega)
      have h8m : ∀ a, p_gone (x_P σ) S (nI f) dead a = false → (p_mg (x_P σ) S (nI f) dead a 8 = -1 ↔ x_P σ a 8 = -1) := fun a ga => by
        rw [p_mg_8 ga]
        by_cases c : a ∈ S ∧ ¬ x_P σ a 8 < nI f
        · rw [if_pos c]
          refine ⟨fun z => absurd z m1f, fun z => ?_⟩
          have := c.2
          rw [z, i_lt, i_m1, fi] at this
          omega
        · rw [if_neg c]
      have h8' : x_P σ k 8 = -1 := (h8m k q2).mp h8
      have hb := hC.2.2.2.2.2 k q1 h8'
      refine hb.trans ⟨fun ⟨a, ha, z1, z2, z3⟩ => ?_, fun ⟨a, ha, z1, z2, z3⟩ => ⟨a, (hng ha).1, z1, (h8m a (hng ha).2).mp z2, z3⟩⟩
      have ga := hg0 (k := a) (fun z => z.2 (by rw [z2, i_lt, i_m1, fi]; omega))
      exact ⟨a, hmk ha ga, z1, (h8m a ga).mpr z2, z3⟩
theorem p_cv_tr {P : Nat → Nat → Int32} {a m k : Nat} (h1 : p_cv P a m = true) (h2 : p_cv P m k = true) : p_cv P a k = true := by
  unfold p_cv at *
  simp only [Bool.and_eq_true, Bool.or_eq_true, decide_eq_true_eq] at *
  obtain ⟨a1, a2, a3⟩ := h1
  obtain ⟨b1, b2, b3⟩ := h2
  refine ⟨by rw [i_lt] at a1 b1 ⊢; omega, a2.trans b2, ?_⟩
  rcases a3 with a3 | ⟨a3, a4⟩
  · exact Or.inl a3
  · rcases b3 with b3 | ⟨b3, b4⟩
    · exact Or.inl (a3.trans b3)
    · refine Or.inr ⟨a3.trans b3, ?_⟩
      rcases a4 with a4 | a4
      · exact Or.inl a4
      · rcases b4 with b4 | b4
        · exact Or.inl (a4.trans b4)
        · exact Or.inr (a4.trans b4)
theorem q_max (P : Nat → Nat → Int32) : ∀ (l : List Nat), l ≠ [] → ∃ m ∈ l, ∀ a ∈ l, (P a 6).toInt ≤ (P m 6).toInt := by
  intro l
  induction l with
  | nil => intro h; exact absurd rfl h
  | cons k l ih =>
    intro _
    by_cases hl : l = []
    · subst hl
      exact ⟨k, List.mem_cons_self, fun a ha => by rw [List.mem_singleton] at ha; rw [ha]; exact Int.le_refl _⟩
    · obtain ⟨m, hm, h⟩ := ih hl
      by_cases c : (P k 6).toInt ≤ (P m 6).toInt
      · refine ⟨m, List.mem_cons_of_mem _ hm, fun a ha => ?_⟩
        rcases List.mem_cons.mp ha with rfl | ha
        · exact c
        · exact h a ha
      · refine ⟨k, List.mem_cons_self, fun a ha => ?_⟩
        rcases List.mem_cons.mp ha with rfl | ha
        · exact Int.le_refl _
        · have := h a ha
          omega
theorem cov_compact {P : Nat → Nat → Int32} {ag : Nat → Int32} {cl f : Int32} {L S : List Nat} (hok : ∀ k ∈ L, p_ok P k) (h : p_cov P ag cl L) : p_cov P ag cl (L.filter (fun k => !p_gone P S f (p_deadC P ag cl L f) k)) := by
  intro k hk h4 ho
  have hkL := (List.mem_filter.mp hk).1
  have hc := h k hkL h4 ho
  refine ⟨fun q a ha => hc.mp q a (List.mem_filter.mp ha).1, fun q => hc.mpr (fun a ha => ?_)⟩
  cases hcv : p_cv P a k with
  | false => rfl
  | true =>
    exfalso
    obtain ⟨m, hm, hmax⟩ := q_max P (L.filter (fun a => p_cv P a k)) (fun z => by
      have : a ∈ L.filter (fun a => p_cv P a k) := List.mem_filter.mpr ⟨ha, hcv⟩
      rw [z] at this
      cases this)
    obtain ⟨hmL, hmk⟩ := List.mem_filter.mp hm
    cases hg : p_gone P S f (p_deadC P ag cl L f) m with
    | false =>
      have := q m (List.mem_filter.mpr ⟨hmL, by rw [hg]; rfl⟩)
      rw [this] at hmk
      exact absurd hmk (by decide)
    | true =>
      unfold p_gone p_deadC at hg
      simp only [Bool.and_eq_true, Bool.or_eq_true] at hg
      rcases hg.2.2 with g | g
      · -- old
        have gm := g
        unfold p_old at g
        simp only [Bool.and_eq_true, decide_eq_true_eq] at g
        have okm := hok m hmL
        have m1 : ¬ P m 1 = -1 := fun z => by
          have := okm.2.2.2.2.2.2.2.2.1 (okm.2.2.2.2.2.2.2.1 z)
          rw [g.1] at this
          exact absurd this (by decide)
        have m3 : ¬ P m 3 = -1 := fun z => by
          have := okm.2.2.2.2.2.2.2.2.1 z
          rw [g.1] at this
          exact absurd this (by decide)
        unfold p_cv at hmk
        simp only [Bool.and_eq_true, Bool.or_eq_true, decide_eq_true_eq] at hmk
        have c1 := (hmk.2.2.resolve_left m1).1
        have c3 := (hmk.2.2.resolve_left m1).2.resolve_left m3
        have c2 : P m 2 = P k 2 := by
          rw [okm.2.2.2.2.2.2.2.2.2.1, (hok k hkL).2.2.2.2.2.2.2.2.2.1, c1]
        have : p_old P ag cl k = true := by
          unfold p_old at gm ⊢
          rw [h4, ← c2, ← c3]
          rw [g.1] at gm
          exact gm
        rw [this] at ho
        exact absurd ho (by decide)
      · obtain ⟨b, hb, z⟩ := List.any_eq_true.mp g
        rw [Bool.and_eq_true] at z
        have h1 := hmax b (List.mem_filter.mpr ⟨hb, p_cv_tr z.2 hmk⟩)
        have h2 := p_cv_seq z.2
        omega
theorem cov_major {P : Nat → Nat → Int32} {ag : Nat → Int32} {cl : Int32} {L S : List Nat} (hS : ∀ a ∈ L, ∀ k ∈ L, P a 0 = P k 0 → a ∈ S → k ∈ S) (h8 : ∀ k ∈ S, ¬ P k 8 < nI 0) (h : p_cov P ag cl L) : p_cov P ag cl (L.filter (fun k => !p_gone P S (nI 0) (p_deadM P ag cl) k)) := by
  intro k hk h4 ho
  obtain ⟨hkL, hkg⟩ := List.mem_filter.mp hk
  have hc := h k hkL h4 ho
  by_cases hkS : k ∈ S
  · have hlv : p_live P ag cl k = true := by
      unfold p_gone p_deadM at hkg
      rw [decide_eq_true hkS, decide_eq_false (h8 k hkS)] at hkg
      simpa using hkg
    have h10 := (p_live_4 hlv).2.1
    exact ⟨fun q a ha => hc.mp q a (List.mem_filter.mp ha).1, fun _ => h10⟩
  · refine hc.trans ⟨fun q a ha => q a (List.mem_filter.mp ha).1, fun q a ha => ?_⟩
    cases hcv : p_cv P a k with
    | false => rfl
    | true =>
      have haS : a ∉ S := fun z => hkS (hS a ha k hkL (p_cv_row hcv) z)
      have := q a (List.mem_filter.mpr ⟨ha, by unfold p_gone; rw [decide_eq_false haS]; rfl⟩)
      rw [hcv] at this
      exact this
theorem nI_sub {a b : Nat} (h : b ≤ a) : nI a - nI b = nI (a - b) := by
  have e : nI (a - b) + nI b = nI a := by rw [nI_add]; congr 1; omega
  rw [← e, Int32.add_sub_cancel]
theorem sim_compact : s_compact r_R := fun j σ τ hj h a1 a2 => by
  have hm := sim_mono j σ τ h
  obtain ⟨hA, hB, hX, hF, hS, L, R, s, T, tc, B, hL, hT, hC, h4, h5⟩ := h
  have hf := hT.2.2.1
  have hT8 := hf.2.1
  unfold f_T_compact f_M_compact
  rcases e_isTablet hT8 hT.1 hT.2.1 1000 a1 with ⟨t, ht, rfl, e1, e2⟩ | ⟨e1, e2⟩
  · rw [e1, e2, Option.bind_some, Option.bind_some, if11, if11]
    by_cases c2 : a2 < 2
    · rw [if_pos c2, if_pos c2]
      exact ⟨-1, σ, τ, rfl, rfl, hm⟩
    · rw [if_neg c2, if_neg c2]
      have htc := hT.tc hL.1 ht
      obtain ⟨d1, d2⟩ := hT.2.2.2.2.2 t ht
      have hok : ∀ k ∈ L, p_ok (x_P σ) k := fun k hk => (hL.2.2.2.2.2.2.1 k hk).1
      rw [e_tableCount hL.1 hL.rows (by omega) (by omega) (hf.le ht) (by omega) d2, Option.bind_some, q_gd_t (q_in_of (show t < 9 by omega) (by omega)), nI_cl (by omega), d1]
      by_cases c3 : a2 ≤ nI (tc t)
      · rw [if_pos c3, if_pos c3, e_endOf hL.1 hL.rows (by omega) (by omega), Option.bind_some, e_startOf hL.1 hL.rows (by omega) (by omega), Option.bind_some, Option.bind_some]
        rw [i_lt] at c2
        rw [i_le, nI_toInt (by omega)] at c3
        have i2 : (2 : Int32).toInt = 2 := rfl
        obtain ⟨q, hq, rfl⟩ : ∃ q : Nat, q ≤ tc t ∧ a2 = nI q := ⟨a2.toInt.toNat, by omega, by rw [i_eq, nI_toInt (by omega)]; omega⟩
        rw [nI_sub hq, e_flagC hL.1 hL.rows hok hL.2.2.2.2.2.2.2.1 (by omega) (hf.le ht)]
        have hbl := r_R.bl hA hL hT hC
        have hmem : ∀ k, k ∈ p_seg (x_P σ) R (x_I σ 4 t) (x_I σ 4 (t + 1)) ↔ k ∈ x_sg σ L t := fun k => (List.Perm.mem_iff (seg_perm hL.2.1 _ _)).symm
        obtain ⟨m, n, E, A, v, tc', g1, g2, g3, g4, g5⟩ := r_merge hL hT hC ht (tc t - q) (by omega) (p_deadC (x_P σ) (x_I σ 2) (x_S σ 2) L (nI (tc t - q))) 0 (cov_compact hok hC.1) (fun K => by
          obtain ⟨g, k1, k2⟩ := e_markC hbl hf (N := 1000) (by omega) ht (nI (tc t - q)) K
          refine ⟨g, k1, fun i k hk => ?_⟩
          rw [k2 i k hk, p_gone_S (hmem k)]
          have hd : p_deadC (x_P σ) (x_I σ 2) (x_S σ 2) R (nI (tc t - q)) k = p_deadC (x_P σ) (x_I σ 2) (x_S σ 2) L (nI (tc t - q)) k := by
            unfold p_deadC
            congr 1
            rw [Bool.eq_iff_iff, List.any_eq_true, List.any_eq_true]
            exact ⟨fun ⟨a, ha, z⟩ => ⟨a, hL.2.1.mem_iff.mpr ha, z⟩, fun ⟨a, ha, z⟩ => ⟨a, hL.2.1.mem_iff.mp ha, z⟩⟩
          unfold p_gone
          rw [hd])
        rw [g1, q_gd_t (q_in_of (show t < 9 by omega) (by omega)), g2, Option.bind_some, Option.bind_some]
        exact ⟨nI m, _, _, rfl, rfl, hA.mono, hB, hX, hF, hS, _, _, s, T, tc', B, g3.mono, g4, g5, h4, by show (m_S τ 27).toInt ≤ _; omega⟩
      · rw [if_neg c3, if_neg c3]
        exact ⟨-1, σ, τ, rfl, rfl, hm⟩
  · rw [e1, e2, Option.bind_some, Option.bind_some, if01, if01]
    exact ⟨-1, σ, τ, rfl, rfl, hm⟩
theorem sim_major : s_major r_R := fun j σ τ hj h a1 => by
  have hm := sim_mono j σ τ h
  obtain ⟨hA, hB, hX, hF, hS, L, R, s, T, tc, B, hL, hT, hC, h4, h5⟩ := h
  have hf := hT.2.2.1
  have hT8 := hf.2.1
  unfold f_T_major f_M_major
  rcases e_isTablet hT8 hT.1 hT.2.1 1000 a1 with ⟨t, ht, rfl, e1, e2⟩ | ⟨e1, e2⟩
  · rw [e1, e2, Option.bind_some, Option.bind_some, if11, if11]
    have htc := hT.tc hL.1 ht
    obtain ⟨m0, f0, v0, tc0, q1, q2, q3, q4, q5, q6⟩ := r_flush hL hT hC ht
    rw [q1, q2, Option.bind_some, Option.bind_some]
    have h8 : ∀ k ∈ x_sg (x_wP σ (p_map (x_P σ) (x_sg σ L t) (p_fl (tc t)))) L t, ¬ x_P (x_wP σ (p_map (x_P σ) (x_sg σ L t) (p_fl (tc t)))) k 8 < 0 := fun k hk => by
      have z1 := (q4.2.2.2.2.2 t ht).2.1 k hk
      have z2 : ¬ x_P (x_wP σ (p_map (x_P σ) (x_sg σ L t) (p_fl (tc t)))) k 8 = -1 := by
        show ¬ p_map (x_P σ) (x_sg σ L t) (p_fl (tc t)) k 8 = -1
        rw [p_map_in (show k ∈ x_sg σ L t from hk)]
        exact p_fl_m1 (by omega)
      rw [i_eq, i_m1] at z2
      rw [i_lt, i_0]
      omega
    have hA1 : r_A j (x_wP σ (p_map (x_P σ) (x_sg σ L t) (p_fl (tc t)))) (m_sI (m_wI τ 8 f0) 10 t v0) := hA
    have hB1 : r_B (x_wP σ (p_map (x_P σ) (x_sg σ L t) (p_fl (tc t)))) (m_sI (m_wI τ 8 f0) 10 t v0) := hB
    have hX1 : r_X (x_wP σ (p_map (x_P σ) (x_sg σ L t) (p_fl (tc t)))) (m_sI (m_wI τ 8 f0) 10 t v0) := hX
    have hF1 : r_F (x_wP σ (p_map (x_P σ) (x_sg σ L t) (p_fl (tc t)))) (m_sI (m_wI τ 8 f0) 10 t v0) := hF
    have hS1 : r_S (x_wP σ (p_map (x_P σ) (x_sg σ L t) (p_fl (tc t)))) := hS
    have h41 : 0 ≤ (m_S (m_sI (m_wI τ 8 f0) 10 t v0) 27).toInt := h4
    have h51 : (m_S (m_sI (m_wI τ 8 f0) 10 t v0) 27).toInt ≤ j := h5
    clear q1 q2 hm hA hB hX hF hS hL hT hC h4 h5 hf htc e1 e2
    generalize x_wP σ (p_map (x_P σ) (x_sg σ L t) (p_fl (tc t))) = σ1 at *
    generalize m_sI (m_wI τ 8 f0) 10 t v0 = τ1 at *
    have hf := q4.2.2.1
    have hok : ∀ k ∈ L, p_ok (x_P σ1) k := fun k hk => (q3.2.2.2.2.2.2.1 k hk).1
    have hbl := r_R.bl hA1 q3 q4 q5
    have hmem : ∀ k, k ∈ p_seg (x_P σ1) R (x_I σ1 4 t) (x_I σ1 4 (t + 1)) ↔ k ∈ x_sg σ1 L t := fun k => (List.Perm.mem_iff (seg_perm q3.2.1 _ _)).symm
    rw [if_neg (show ¬ (nI m0, τ1).1 < 0 from nI_pos (by omega))]
    obtain ⟨m, n, E, A, v, tc', g1, g2, g3, g4, g5⟩ := r_merge q3 q4 q5 ht 0 (by omega) (p_deadM (x_P σ1) (x_I σ1 2) (x_S σ1 2)) 1 (cov_major (fun a ha k hk hr hz => by
      obtain ⟨_, z1, z2⟩ := x_sg_mem.mp hz
      rw [hr] at z1 z2
      exact x_sg_mem.mpr ⟨hk, z1, z2⟩) (by rw [nI_0]; exact h8) q5.1) (fun K => by
      obtain ⟨g, k1, k2⟩ := e_markM hbl hf (N := 1000) (by omega) ht (nI 0) K
      refine ⟨g, k1, fun i k hk => ?_⟩
      rw [k2 i k hk, p_gone_S (hmem k)])
    have e3 := e_endOf q3.1 q3.rows (N := 1000) (by omega) (show t < 8 by omega)
    have e4 := e_startOf q3.1 q3.rows (N := 1000) (by omega) (show t < 9 by omega)
    have e5 := e_flagM q3.1 q3.rows hok (N := 1000) (by omega) (hf.le ht) h8 (nI t) (fun t21 => (f_T_mergeTables 1000 t21 (nI t) 0).bind fun q23 => some (q23.1, q23.2))
    rw [nI_0] at g1 g2 g3 g4 g5
    have hx : f_T_major_L28 1000 (nI t) (nI (p_pre (x_P σ1) L (x_I σ1 4 (t + 1))).length) (fun t21 => (f_T_mergeTables 1000 t21 (nI t) 0).bind fun q23 => some (q23.1, q23.2)) 1000 (nI (p_pre (x_P σ1) L (x_I σ1 4 t)).length) σ1 = some (nI m, _) := e5.trans (by rw [g1, Option.bind_some])
    rw [e3, Option.bind_some, e4, Option.bind_some, hx, g2, Option.bind_some]
    exact ⟨nI m, _, _, rfl, rfl, hA1.mono, hB1, hX1, hF1, hS1, _, _, s, T, tc', B, g3.mono, g4, g5, h41, by show (m_S τ1 27).toInt ≤ _; omega⟩
  · rw [e1, e2, Option.bind_some, Option.bind_some, if01, if01]
    exact ⟨-1, σ, τ, rfl, rfl, hm⟩
