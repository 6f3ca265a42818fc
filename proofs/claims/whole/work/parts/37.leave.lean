/-! The class: what leaves, and how it leaves. -/
theorem p_cv_ord {P : Nat → Nat → Int32} {a k : Nat} (ha : p_ok P a) (hk : p_ok P k) (h : p_cv P a k = true) : ¬ p_ord P k a := by
  unfold p_cv at h
  simp only [Bool.and_eq_true, Bool.or_eq_true, decide_eq_true_eq] at h
  obtain ⟨h1, h2, h3⟩ := h
  obtain ⟨p1, p2, p3⟩ := ha.bh
  obtain ⟨q1, q2, q3⟩ := hk.bh
  have ck := hk.2.2.1
  rw [i_lt] at h1
  rw [h2] at p3
  intro q
  have hle : (P a 7).toInt ≤ (P k 7).toInt := by
    rcases h3 with h3 | ⟨h3, h4⟩
    · have h5 := ha.2.2.2.2.2.2.2.1 h3
      have h6 : p_bh P a = 0 := by unfold p_bh; rw [if_pos h5]
      rw [h3, i_m1] at p3
      omega
    · rw [h3] at p3
      rcases h4 with h4 | h4
      · have h6 : p_bh P a = 0 := by unfold p_bh; rw [if_pos h4]
        omega
      · have h6 : p_bh P a = p_bh P k := by unfold p_bh; rw [h4]
        omega
  rcases q with q | ⟨_, q⟩
  · omega
  · omega
theorem p_cv_row {P : Nat → Nat → Int32} {a k : Nat} (h : p_cv P a k = true) : P a 0 = P k 0 := by
  unfold p_cv at h
  simp only [Bool.and_eq_true, Bool.or_eq_true, decide_eq_true_eq] at h
  exact h.2.1
theorem p_cv_seq {P : Nat → Nat → Int32} {a k : Nat} (h : p_cv P a k = true) : (P k 6).toInt < (P a 6).toInt := by
  unfold p_cv at h
  rw [Bool.and_eq_true, decide_eq_true_eq, i_lt] at h
  exact h.1
theorem nI_dec (m : Nat) : nI m + (-1) = nI m - 1 := (Int32.sub_eq_add_neg _ _).symm
theorem e_cvdL {σ : x_T} {L : List Nat} (hX : LX σ L) (hr : p_rows (x_P σ) L) (N : Nat) {j k : Nat} (hj : L[j]? = some k) (f : Int32) : ∀ (m n : Nat), m ≤ j → m < n → f_T_isCoveredInTables_L12 N σ f k (some 0) n (nI m - 1) = some (if (L.take m).any (fun a => !decide (x_P σ a 8 < f) && p_cv (x_P σ) a k) = true then 1 else 0) := by
  have hkN := (hX.2.2 j k hj).2
  have hjl : j < L.length := (List.getElem?_eq_some_iff.mp hj).1
  have hL := hX.2.1
  intro m
  induction m with
  | zero =>
    intro n _ hn
    obtain ⟨n, rfl⟩ : ∃ a, n = a + 1 := ⟨n - 1, by omega⟩
    rw [f_T_isCoveredInTables_L12, if_pos (by decide)]
    rfl
  | succ m ih =>
    intro n hm hn
    obtain ⟨n, rfl⟩ : ∃ a, n = a + 1 := ⟨n - 1, by omega⟩
    obtain ⟨a, ha⟩ : ∃ a, L[m]? = some a := ⟨_, List.getElem?_eq_getElem (by omega)⟩
    obtain ⟨h1, h2, h3, h4⟩ := hX.at ha
    have haN := (hX.2.2 m a ha).2
    have e := ih n (by omega) (by omega)
    rw [nI_pred, f_T_isCoveredInTables_L12, if_neg (nI_pos (by omega)), q_gd_t h1, q_om_s h2, q_gd_t h3, q_gd_t (q_lt_of hkN), q_gd_t h1, q_om_s h2, q_gd_t h3, q_gd_t h1, q_om_s h2, q_gd_t h3, e_cvX haN hkN, Option.bind_some, nI_dec, e, take_s ha, List.any_append]
    have hrow : ∀ b ∈ L.take (m + 1), x_P σ b 0 ≤ x_P σ a 0 := fun b hb => by
      rw [take_s ha] at hb
      rcases List.mem_append.mp hb with q | q
      · have hp := hr
        unfold p_rows at hp
        have hsp : L = L.take m ++ L.drop m := (List.take_append_drop m L).symm
        rw [hsp] at hp
        have had : a ∈ L.drop m := by
          refine List.mem_of_getElem? (i := 0) ?_
          rw [List.getElem?_drop]
          exact ha
        exact (List.pairwise_append.mp hp).2.2 b q a had
      · rw [List.mem_singleton] at q
        rw [q, i_le]
        exact Int.le_refl _
    have hak : x_P σ a 0 ≤ x_P σ k 0 := by
      obtain ⟨l1, e1⟩ := List.getElem?_eq_some_iff.mp ha
      obtain ⟨l2, e2⟩ := List.getElem?_eq_some_iff.mp hj
      have := List.pairwise_iff_getElem.mp hr m j l1 l2 (by omega)
      rw [e1, e2] at this
      exact this
    by_cases c1 : x_P σ a 0 = x_P σ k 0
    · rw [if_pos c1]
      by_cases c2 : x_P σ a 8 < f
      · rw [if_pos c2]
        simp only [List.any_cons, List.any_nil, decide_eq_true c2, Bool.not_true, Bool.false_and, Bool.or_false]
      · rw [if_neg c2]
        simp only [List.any_cons, List.any_nil, decide_eq_false c2, Bool.not_false, Bool.true_and, Bool.or_false]
        cases p_cv (x_P σ) a k with
        | true => rw [if_neg (by decide), Bool.or_true, if_pos rfl]
        | false => rw [if_pos (show (if false = true then (1 : Int32) else 0) = 0 by decide), Bool.or_false]
    · rw [if_neg c1]
      have hno : (L.take (m + 1)).any (fun a => !decide (x_P σ a 8 < f) && p_cv (x_P σ) a k) = false := by
        rw [List.any_eq_false]
        intro b hb z
        rw [Bool.and_eq_true] at z
        have h5 := p_cv_row z.2
        have h6 := hrow b hb
        rw [h5] at h6
        exact c1 (by rw [i_eq]; rw [i_le] at h6 hak; omega)
      rw [take_s ha, List.any_append] at hno
      rw [hno]
      rfl
theorem e_cvd {σ : x_T} {L : List Nat} (hX : LX σ L) (hr : p_rows (x_P σ) L) (hco : ∀ a ∈ L, ∀ k ∈ L, p_cv (x_P σ) a k = true → ¬ p_ord (x_P σ) k a) (ho : L.Pairwise (p_ord (x_P σ))) {N : Nat} (hN : 247 < N) {j k : Nat} (hj : L[j]? = some k) (f : Int32) : f_T_isCoveredInTables N σ (nI j) f = some (if L.any (fun a => !decide (x_P σ a 8 < f) && p_cv (x_P σ) a k) = true then 1 else 0) := by
  obtain ⟨h1, h2, h3, h4⟩ := hX.at hj
  have hjl : j < L.length := (List.getElem?_eq_some_iff.mp hj).1
  have hL := hX.2.1
  unfold f_T_isCoveredInTables
  rw [q_gd_t h1, q_om_s h2, e_cvdL hX hr N hj f j N (Nat.le_refl _) (by omega)]
  have e : (L.take j).any (fun a => !decide (x_P σ a 8 < f) && p_cv (x_P σ) a k) = L.any (fun a => !decide (x_P σ a 8 < f) && p_cv (x_P σ) a k) := by
    rw [Bool.eq_iff_iff, List.any_eq_true, List.any_eq_true]
    constructor
    · intro ⟨a, ha, q⟩
      exact ⟨a, List.mem_of_mem_take ha, q⟩
    · intro ⟨a, ha, q⟩
      refine ⟨a, ?_, q⟩
      obtain ⟨i, hi⟩ := List.getElem?_of_mem ha
      have hcv := (Bool.and_eq_true _ _ ▸ q).2
      have hij : i < j := by
        refine Nat.not_le.mp (fun z => ?_)
        rcases Nat.lt_or_eq_of_le z with z | z
        · obtain ⟨l1, e1⟩ := List.getElem?_eq_some_iff.mp hi
          obtain ⟨l2, e2⟩ := List.getElem?_eq_some_iff.mp hj
          have := List.pairwise_iff_getElem.mp ho j i l2 l1 z
          rw [e1, e2] at this
          exact hco a ha k (List.mem_of_getElem? hj) hcv this
        · subst z
          obtain rfl : a = k := Option.some.inj (hi.symm.trans hj)
          have := p_cv_seq hcv
          omega
      refine List.mem_of_getElem? (i := i) ?_
      rw [List.getElem?_take, if_pos hij]
      exact hi
  rw [e]
theorem x_sP_at {σ : x_T} {k f a g : Nat} {v : Int32} : x_P (x_sP σ k f v) a g = if a = k ∧ g = f then v else x_P σ a g := by
  show (if a = k then (fun j => if j = f then v else σ.2.2.2.2.2 k j) else σ.2.2.2.2.2 a) g = _
  by_cases ha : a = k
  · subst ha
    by_cases hg : g = f
    · rw [if_pos rfl]
      exact (if_pos hg).trans (if_pos ⟨rfl, hg⟩).symm
    · rw [if_pos rfl]
      exact (if_neg hg).trans (if_neg (fun q => hg q.2)).symm
  · rw [if_neg ha]
    exact (if_neg (fun q => ha q.1)).symm
/-- the flags of the entries in l -/
def p_lv (P : Nat → Nat → Int32) (l : List Nat) (b : Nat → Int32) : Nat → Nat → Int32 := fun k f => if f = 11 ∧ k ∈ l then b k else P k f
theorem p_lv_fold (b : Nat → Int32) : ∀ (l : List Nat) (σ : x_T), l.foldl (fun s k => x_sP s k 11 (b k)) σ = x_wP σ (p_lv (x_P σ) l b) := by
  intro l
  induction l with
  | nil =>
    intro σ
    unfold x_wP p_lv
    refine Prod.ext rfl (Prod.ext rfl (Prod.ext rfl (Prod.ext rfl (Prod.ext rfl ?_))))
    funext a f
    exact (if_neg (fun q => by cases q.2)).symm
  | cons k l ih =>
    intro σ
    rw [List.foldl_cons, ih]
    unfold x_wP p_lv
    refine Prod.ext rfl (Prod.ext rfl (Prod.ext rfl (Prod.ext rfl (Prod.ext rfl ?_))))
    funext a f
    show (if f = 11 ∧ a ∈ l then b a else x_P (x_sP σ k 11 (b k)) a f) = if f = 11 ∧ a ∈ k :: l then b a else x_P σ a f
    rw [x_sP_at]
    by_cases hf : f = 11
    · by_cases ha : a ∈ l
      · exact (if_pos (And.intro hf ha)).trans (if_pos (And.intro hf (List.mem_cons_of_mem _ ha))).symm
      · refine (if_neg (fun q => ha q.2)).trans ?_
        by_cases hak : a = k
        · subst hak
          exact (if_pos (And.intro rfl hf)).trans (if_pos (And.intro hf List.mem_cons_self)).symm
        · exact (if_neg (fun q => hak q.1)).trans (if_neg (fun q => (List.mem_cons.mp q.2).elim hak ha)).symm
    · exact (if_neg (fun q => hf q.1)).trans ((if_neg (fun q => hf q.2)).trans (if_neg (fun q => hf q.1)).symm)
/-- a loop over a tablet's entries that sets their flags -/
theorem x_lvloop {σ : x_T} {L : List Nat} (hX : LX σ L) (hr : p_rows (x_P σ) L) {t : Nat} (hf : x_I σ 4 t ≤ x_I σ 4 (t + 1)) {R : Type} (F : Nat → x_T → Int32 → Option R) (K : x_T → Option R) (b : Nat → Int32) {N : Nat} (hN : 247 < N)
    (hend : ∀ n s, F (n + 1) s (nI (p_pre (x_P σ) L (x_I σ 4 (t + 1))).length) = K s)
    (hstep : ∀ n P' j k, (∀ a f, f ≠ 11 → P' a f = x_P σ a f) → L[j]? = some k → j < (p_pre (x_P σ) L (x_I σ 4 (t + 1))).length → F (n + 1) (x_wP σ P') (nI j) = F n (x_sP (x_wP σ P') k 11 (b k)) (nI (j + 1))) :
    F N σ (nI (p_pre (x_P σ) L (x_I σ 4 t)).length) = K (x_wP σ (p_lv (x_P σ) (x_sg σ L t) b)) := by
  have hl := p_pre_le (x_P σ) L (x_I σ 4 (t + 1))
  have h := q_loop L F K (fun s k => x_sP s k 11 (b k)) (fun s => ∃ P', s = x_wP σ P' ∧ ∀ a f, f ≠ 11 → P' a f = x_P σ a f) _ hl (fun n s _ => hend n s) (fun n s j k hI hj hje => by
      obtain ⟨P', rfl, hP⟩ := hI
      refine ⟨hstep n P' j k hP hj hje, x_P (x_sP (x_wP σ P') k 11 (b k)), rfl, fun a f hne => ?_⟩
      show (if a = k then (fun j => if j = 11 then b k else P' k j) else P' a) f = _
      by_cases ha : a = k
      · rw [if_pos ha]
        refine (if_neg hne).trans ?_
        rw [ha]
        exact hP k f hne
      · rw [if_neg ha]
        exact hP a f hne)
    (x_sg σ L t) (p_pre (x_P σ) L (x_I σ 4 t)) N σ (p_split hr hf) (by have := x_sg_len hX t; omega) ⟨x_P σ, rfl, fun _ _ _ => rfl⟩
  exact h.1.trans (congrArg K (p_lv_fold b (x_sg σ L t) σ))
/-- tables of those that stay become f -/
def p_st (P : Nat → Nat → Int32) (f : Int32) (k : Nat) : Bool := !decide (P k 8 < f) && decide (P k 11 = 0)
def p_mt (P : Nat → Nat → Int32) (l : List Nat) (f : Int32) : Nat → Nat → Int32 := fun k g => if g = 8 ∧ k ∈ l ∧ p_st P f k = true then f else P k g
theorem p_mt_fold (f : Int32) : ∀ (l : List Nat) (v : Nat) (σ : x_T), l.Nodup → l.foldl (fun (s : Int32 × x_T) k => if p_st (x_P s.2) f k = true then (s.1 + 1, x_sP s.2 k 8 f) else s) (nI v, σ) = (nI (v + l.countP (p_st (x_P σ) f)), x_wP σ (p_mt (x_P σ) l f)) := by
  intro l
  induction l with
  | nil =>
    intro v σ _
    refine Prod.ext rfl ?_
    unfold x_wP p_mt
    refine Prod.ext rfl (Prod.ext rfl (Prod.ext rfl (Prod.ext rfl (Prod.ext rfl ?_))))
    funext a g
    exact (if_neg (fun q => by cases q.2.1)).symm
  | cons k l ih =>
    intro v σ hn
    obtain ⟨hk, hl⟩ := List.nodup_cons.mp hn
    rw [List.foldl_cons, List.countP_cons]
    by_cases c : p_st (x_P σ) f k = true
    · rw [if_pos c, if_pos c, ← nI_succ, ih _ _ hl]
      have hst : ∀ a ∈ l, p_st (x_P (x_sP σ k 8 f)) f a = p_st (x_P σ) f a := fun a ha => by
        have hak : ¬ a = k := fun q => hk (q ▸ ha)
        unfold p_st
        rw [show x_P (x_sP σ k 8 f) a = x_P σ a from if_neg hak]
      refine Prod.ext ?_ ?_
      · show nI (v + 1 + l.countP _) = nI _
        congr 1
        rw [List.countP_congr (q := p_st (x_P σ) f) (fun a ha => by rw [hst a ha])]
        omega
      · unfold x_wP p_mt
        refine Prod.ext rfl (Prod.ext rfl (Prod.ext rfl (Prod.ext rfl (Prod.ext rfl ?_))))
        funext a g
        show (if g = 8 ∧ a ∈ l ∧ p_st (x_P (x_sP σ k 8 f)) f a = true then f else x_P (x_sP σ k 8 f) a g) = if g = 8 ∧ a ∈ k :: l ∧ p_st (x_P σ) f a = true then f else x_P σ a g
        rw [x_sP_at]
        by_cases hak : a = k
        · subst hak
          refine (if_neg (fun q => hk q.2.1)).trans ?_
          by_cases hg : g = 8
          · exact (if_pos (And.intro rfl hg)).trans (if_pos ⟨hg, List.mem_cons_self, c⟩).symm
          · exact (if_neg (fun q => hg q.2)).trans (if_neg (fun q => hg q.1)).symm
        · by_cases ha : a ∈ l
          · rw [hst a ha]
            by_cases hg : g = 8 ∧ p_st (x_P σ) f a = true
            · exact (if_pos ⟨hg.1, ha, hg.2⟩).trans (if_pos ⟨hg.1, List.mem_cons_of_mem _ ha, hg.2⟩).symm
            · exact (if_neg (fun q => hg ⟨q.1, q.2.2⟩)).trans ((if_neg (fun q => hak q.1)).trans (if_neg (fun q => hg ⟨q.1, q.2.2⟩)).symm)
          · exact (if_neg (fun q => ha q.2.1)).trans ((if_neg (fun q => hak q.1)).trans (if_neg (fun q => (List.mem_cons.mp q.2.1).elim hak ha)).symm)
    · rw [if_neg c, if_neg c, ih _ _ hl]
      refine Prod.ext rfl ?_
      unfold x_wP p_mt
      refine Prod.ext rfl (Prod.ext rfl (Prod.ext rfl (Prod.ext rfl (Prod.ext rfl ?_))))
      funext a g
      by_cases hak : a = k
      · subst hak
        exact (if_neg (fun q => hk q.2.1)).trans (if_neg (fun q => c q.2.2)).symm
      · by_cases ha : a ∈ l
        · by_cases hg : g = 8 ∧ p_st (x_P σ) f a = true
          · exact (if_pos ⟨hg.1, ha, hg.2⟩).trans (if_pos ⟨hg.1, List.mem_cons_of_mem _ ha, hg.2⟩).symm
          · exact (if_neg (fun q => hg ⟨q.1, q.2.2⟩)).trans (if_neg (fun q => hg ⟨q.1, q.2.2⟩)).symm
        · exact (if_neg (fun q => ha q.2.1)).trans (if_neg (fun q => (List.mem_cons.mp q.2.1).elim hak ha)).symm
def x_eE (σ : x_T) (E : Nat → Option Nat) : x_T := (σ.1, σ.2.1, σ.2.2.1, E, σ.2.2.2.2)
def q_sw (q j i : Nat) : Nat := if i = q then j else if i = j then q else i
theorem q_sw_q {q j i : Nat} (h : i = q) : q_sw q j i = j := if_pos h
theorem q_sw_j {q j i : Nat} (h1 : ¬ i = q) (h : i = j) : q_sw q j i = q := (if_neg h1).trans (if_pos h)
theorem q_sw_n {q j i : Nat} (h1 : ¬ i = q) (h : ¬ i = j) : q_sw q j i = i := (if_neg h1).trans (if_neg h)
theorem q_sw_inj {q j a b : Nat} (h : q_sw q j a = q_sw q j b) : a = b := by
  by_cases a1 : a = q
  · by_cases b1 : b = q
    · omega
    · by_cases b2 : b = j
      · rw [q_sw_q a1, q_sw_j b1 b2] at h; omega
      · rw [q_sw_q a1, q_sw_n b1 b2] at h; omega
  · by_cases a2 : a = j
    · by_cases b1 : b = q
      · rw [q_sw_j a1 a2, q_sw_q b1] at h; omega
      · by_cases b2 : b = j
        · omega
        · rw [q_sw_j a1 a2, q_sw_n b1 b2] at h; omega
    · by_cases b1 : b = q
      · rw [q_sw_n a1 a2, q_sw_q b1] at h; omega
      · by_cases b2 : b = j
        · rw [q_sw_n a1 a2, q_sw_j b1 b2] at h; omega
        · rw [q_sw_n a1 a2, q_sw_n b1 b2] at h; omega
theorem e_remove {σ : x_T} {L : List Nat} (hX : LX σ L) (hP : r_P σ) {N : Nat} (hN : 247 < N) : ∃ E, f_T_removeLeaving N σ = some (x_sS (x_eE σ E) 4 (nI (L.filter (fun k => decide (x_P σ k 11 = 0))).length)) ∧ LX (x_sS (x_eE σ E) 4 (nI (L.filter (fun k => decide (x_P σ k 11 = 0))).length)) (L.filter (fun k => decide (x_P σ k 11 = 0))) ∧ r_P (x_sS (x_eE σ E) 4 (nI (L.filter (fun k => decide (x_P σ k 11 = 0))).length)) := by
  have hL := hX.2.1
  generalize hcd : (fun k => decide (x_P σ k 11 = 0)) = cd
  obtain ⟨s', e1, E, e2, e3, e4, e5, e6, e7⟩ := q_inv (fun n (s : Int32 × x_T) i => f_T_removeLeaving_L4 N (fun v1 t15 => q_let (x_sS t15 4 v1) fun s16 => some s16) n s.1 i s.2) (fun s => some (x_sS s.2 4 s.1)) (fun j s => ∃ E, s = (nI ((L.take j).filter cd).length, x_eE σ E) ∧ (∀ i k : Nat, ((L.take j).filter cd)[i]? = some k → E i = some k) ∧ (∀ i k : Nat, j ≤ i → L[i]? = some k → E i = some k) ∧ (∀ i : Nat, i < L.length → ∃ k, E i = some k) ∧ (∀ i k : Nat, E i = some k → k < x_N σ) ∧ ∀ i i' k : Nat, E i = some k → E i' = some k → i = i') L.length
    (fun n s hI => by
      obtain ⟨E, rfl, _⟩ := hI
      show f_T_removeLeaving_L4 N _ (n + 1) _ _ _ = _
      rw [f_T_removeLeaving_L4, if_pos (show x_S (x_eE σ E) 4 ≤ nI L.length from hX.end)]
      rfl)
    (fun n s j hj hI => by
      obtain ⟨E, rfl, f1, f2, f3, f4, f5⟩ := hI
      obtain ⟨k, hk⟩ : ∃ k, L[j]? = some k := ⟨_, List.getElem?_eq_getElem hj⟩
      have hEj := f2 j k (Nat.le_refl _) hk
      have hkN := f4 j k hEj
      obtain ⟨h1, _, _, h4⟩ := hX.at hk
      have hq : ((L.take j).filter cd).length ≤ j := Nat.le_trans (List.length_filter_le _ _) (by simp; omega)
      show ∃ s' : Int32 × x_T, f_T_removeLeaving_L4 N _ (n + 1) _ _ _ = f_T_removeLeaving_L4 N _ n s'.1 _ s'.2 ∧ _
      rw [f_T_removeLeaving_L4, if_neg (show ¬ x_S (x_eE σ E) 4 ≤ nI j from h4), q_gd_t h1, q_om_s (show x_E (x_eE σ E) (nI j).toNatClampNeg = some k by rw [nI_cl (by omega)]; exact hEj), q_gd_t (show q_lt k (x_N (x_eE σ E)) = true from q_lt_of hkN), ← nI_succ, ← nI_succ]
      have hcdk : cd k = decide (x_P σ k 11 = 0) := by rw [← hcd]
      by_cases c : x_P σ k 11 = 0
      · rw [decide_eq_true c] at hcdk
        obtain ⟨k5, hk5⟩ := f3 ((L.take j).filter cd).length (by omega)
        have h2 : q_in (nI ((L.take j).filter cd).length) 247 = true := q_in_of (by omega) (by omega)
        have etk : (L.take (j + 1)).filter cd = (L.take j).filter cd ++ [k] := by
          rw [take_s hk, List.filter_append, List.filter_cons_of_pos hcdk]
          rfl
        rw [if_pos (show x_P (x_eE σ E) k 11 = 0 from c), q_gd_t h2, q_om_s (show x_E (x_eE σ E) (nI ((L.take j).filter cd).length).toNatClampNeg = some k5 by rw [nI_cl (by omega)]; exact hk5), q_gd_t (show q_lt k5 (x_N (x_eE σ E)) = true from q_lt_of (f4 _ _ hk5)), q_gd_t h1, nI_cl (by omega), nI_cl (by omega)]
        have hE : ∀ i, x_E (x_sE (x_sE (x_eE σ E) j k5) ((L.take j).filter cd).length k) i = E (q_sw ((L.take j).filter cd).length j i) := fun i => by
          show (if i = ((L.take j).filter cd).length then some k else if i = j then some k5 else E i) = _
          unfold q_sw
          by_cases q1 : i = ((L.take j).filter cd).length
          · rw [if_pos q1, if_pos q1, hEj]
          · rw [if_neg q1, if_neg q1]
            by_cases q2 : i = j
            · rw [if_pos q2, if_pos q2, hk5]
            · rw [if_neg q2, if_neg q2]
        refine ⟨(nI (((L.take j).filter cd).length + 1), x_sE (x_sE (x_eE σ E) j k5) ((L.take j).filter cd).length k), ?_, x_E (x_sE (x_sE (x_eE σ E) j k5) ((L.take j).filter cd).length k), ?_, fun i a ha => ?_, fun i a hi ha => ?_, fun i hi => ?_, fun i a ha => ?_, fun i i' a ha ha' => ?_⟩
        · exact q_gd_t h2
        · rw [etk, List.length_append, List.length_singleton]
          rfl
        · rw [hE]
          rw [etk] at ha
          by_cases hi : i = ((L.take j).filter cd).length
          · subst hi
            rw [List.getElem?_append_right (Nat.le_refl _), Nat.sub_self] at ha
            obtain rfl : k = a := Option.some.inj ha
            unfold q_sw
            rw [if_pos rfl]
            exact hEj
          · have hl : i < ((L.take j).filter cd).length := by
              have := (List.getElem?_eq_some_iff.mp ha).1
              rw [List.length_append, List.length_singleton] at this
              omega
            rw [List.getElem?_append_left hl] at ha
            unfold q_sw
            rw [if_neg hi, if_neg (by omega)]
            exact f1 i a ha
        · rw [hE]
          unfold q_sw
          rw [if_neg (by omega), if_neg (by omega)]
          exact f2 i a (by omega) ha
        · obtain ⟨b, hb⟩ := f3 (q_sw ((L.take j).filter cd).length j i) (by unfold q_sw; split <;> (try split) <;> omega)
          exact ⟨b, by rw [hE]; exact hb⟩
        · rw [hE] at ha
          exact f4 _ a ha
        · rw [hE] at ha ha'
          exact q_sw_inj (f5 _ _ a ha ha')
      · rw [decide_eq_false c] at hcdk
        have etk : (L.take (j + 1)).filter cd = (L.take j).filter cd := by
          rw [take_s hk, List.filter_append, List.filter_cons_of_neg (by rw [hcdk]; decide)]
          simp
        rw [if_neg (show ¬ x_P (x_eE σ E) k 11 = 0 from c)]
        refine ⟨(nI ((L.take j).filter cd).length, x_eE σ E), rfl, E, by rw [etk], by rw [etk]; exact f1, fun i a hi ha => f2 i a (by omega) ha, f3, f4, f5⟩)
    L.length 0 N (nI 0, σ) (by omega) (by omega) ⟨x_E σ, rfl, fun i k hk => by simp at hk, fun i k _ hk => (hX.2.2 i k hk).1, fun i hi => by
      obtain ⟨k, hk⟩ : ∃ k, L[i]? = some k := ⟨_, List.getElem?_eq_getElem hi⟩
      exact ⟨k, (hX.2.2 i k hk).1⟩, hP.1, hP.2⟩
  rw [List.take_length] at e2 e3
  refine ⟨E, ?_, ⟨rfl, Nat.le_trans (List.length_filter_le _ _) hL, fun i k hk => ⟨e3 i k hk, e6 i k (e3 i k hk)⟩⟩, e6, e7⟩
  unfold f_T_removeLeaving
  rw [nI_0] at e1
  rw [e2] at e1
  exact e1
