/-! Old, covered, live: the same on both sides. -/
theorem q_b2 {b : Bool} : (if b = true then (1 : Int32) else 0) = 0 ↔ b = false := by cases b <;> decide
theorem p_fam {P : Nat → Nat → Int32} {k : Nat} (h : p_ok P k) : ∃ f : Nat, f < 2 ∧ P k 2 = nI f ∧ f = if P k 1 < 4 then 0 else 1 := by
  have h2 := h.2.2.2.2.2.2.2.2.2.1
  by_cases q : P k 1 < 4
  · rw [if_pos q] at h2 ⊢; exact ⟨0, by omega, h2, rfl⟩
  · rw [if_neg q] at h2 ⊢; exact ⟨1, by omega, h2, rfl⟩
theorem e_oldX {σ : x_T} {k : Nat} (hk : k < x_N σ) (h : p_ok (x_P σ) k) (N : Nat) : f_T_isOldCell N σ k = some (if p_old (x_P σ) (x_I σ 2) (x_S σ 2) k = true then 1 else 0) := by
  unfold f_T_isOldCell p_old
  rw [q_gd_t (q_lt_of hk)]
  obtain ⟨f, hf, e, -⟩ := p_fam h
  by_cases h0 : x_P σ k 4 = 0
  · rw [if_pos h0, q_gd_t (by rw [e]; exact q_in_of hf (by omega)), decide_eq_true h0, Bool.true_and]
    by_cases h1 : x_I σ 2 (x_P σ k 2).toNatClampNeg = 0
    · rw [if_pos h1, decide_eq_true h1, Bool.not_true, Bool.false_and, if_neg (by decide)]
    · rw [if_neg h1, decide_eq_false h1, Bool.not_false, Bool.true_and]
      by_cases h2 : x_P σ k 3 + x_I σ 2 (x_P σ k 2).toNatClampNeg ≤ x_S σ 2
      · rw [if_neg (by rw [i_lt]; rw [i_le] at h2; omega), decide_eq_true h2, if_pos rfl]
      · rw [if_pos (by rw [i_lt]; rw [i_le] at h2; omega), decide_eq_false h2, if_neg (by decide)]
  · rw [if_neg h0, decide_eq_false h0, Bool.false_and, if_neg (by decide)]
theorem e_liveX {σ : x_T} {k : Nat} (hk : k < x_N σ) (h : p_ok (x_P σ) k) (N : Nat) : f_T_isLive N σ k = some (if p_live (x_P σ) (x_I σ 2) (x_S σ 2) k = true then 1 else 0) := by
  unfold f_T_isLive p_live
  rw [q_gd_t (q_lt_of hk), e_oldX hk h, Option.bind_some]
  by_cases h0 : x_P σ k 4 = 0
  · rw [if_pos h0, decide_eq_true h0, Bool.true_and]
    by_cases h1 : x_P σ k 10 = 0
    · rw [if_pos h1, decide_eq_true h1, Bool.true_and]
      cases p_old (x_P σ) (x_I σ 2) (x_S σ 2) k <;> decide
    · rw [if_neg h1, decide_eq_false h1, Bool.false_and, if_neg (by decide)]
  · rw [if_neg h0, decide_eq_false h0, Bool.false_and, if_neg (by decide)]
theorem e_cvX {σ : x_T} {a k : Nat} (ha : a < x_N σ) (hk : k < x_N σ) (N : Nat) : f_E_covers N σ a k = some (if p_cv (x_P σ) a k = true then 1 else 0) := by
  unfold f_E_covers p_cv
  rw [q_gd_t (q_lt_of ha), q_gd_t (q_lt_of hk)]
  by_cases h0 : x_P σ a 6 ≤ x_P σ k 6
  · rw [if_pos h0, decide_eq_false (by rw [i_lt]; rw [i_le] at h0; omega), Bool.false_and, if_neg (by decide)]
  · rw [if_neg h0, decide_eq_true (show x_P σ k 6 < x_P σ a 6 by rw [i_lt]; rw [i_le] at h0; omega), Bool.true_and]
    by_cases h1 : x_P σ a 0 = x_P σ k 0
    · rw [if_pos h1, decide_eq_true h1, Bool.true_and]
      by_cases h2 : x_P σ a 1 = -1
      · rw [if_pos h2, decide_eq_true h2, Bool.true_or, if_pos rfl]
      · rw [if_neg h2, decide_eq_false h2, Bool.false_or]
        by_cases h3 : x_P σ a 1 = x_P σ k 1
        · rw [if_pos h3, decide_eq_true h3, Bool.true_and]
          by_cases h4 : x_P σ a 3 = -1
          · rw [if_pos h4, decide_eq_true h4, Bool.true_or, if_pos rfl]
          · rw [if_neg h4, decide_eq_false h4, Bool.false_or]
            by_cases h5 : x_P σ a 3 = x_P σ k 3
            · rw [if_pos h5, decide_eq_true h5, if_pos rfl]
            · rw [if_neg h5, decide_eq_false h5, if_neg (by decide)]
        · rw [if_neg h3, decide_eq_false h3, Bool.false_and, if_neg (by decide)]
    · rw [if_neg h1, decide_eq_false h1, Bool.false_and, if_neg (by decide)]
theorem p_kind_3 {P : Nat → Nat → Int32} {k : Nat} (h : p_ok P k) : p_kind P k = 3 ↔ P k 1 = -1 := by
  obtain ⟨_, _, _, _, _, _, h4, h5, h6, _⟩ := h
  unfold p_kind
  by_cases e : P k 1 = -1
  · have h7 := h6 (h5 e)
    rw [if_neg (by rw [h7]; decide), if_pos e]
    exact ⟨fun _ => e, fun _ => rfl⟩
  · rw [if_neg e]
    refine ⟨fun q => ?_, fun q => absurd q e⟩
    by_cases e0 : P k 4 = 0
    · rw [if_pos e0] at q; exact absurd q (by decide)
    · rw [if_neg e0] at q
      by_cases e3 : P k 3 = -1
      · rw [if_pos e3] at q; exact absurd q (by decide)
      · rw [if_neg e3] at q; exact absurd q (by decide)
theorem p_kind_2 {P : Nat → Nat → Int32} {k : Nat} (h : p_ok P k) (h1 : ¬ P k 1 = -1) : p_kind P k = 2 ↔ P k 3 = -1 := by
  obtain ⟨_, _, _, _, _, _, h4, h5, h6, _⟩ := h
  unfold p_kind
  by_cases e : P k 3 = -1
  · rw [if_neg (by rw [h6 e]; decide), if_neg h1, if_pos e]
    exact ⟨fun _ => e, fun _ => rfl⟩
  · rw [if_neg e, if_neg h1]
    refine ⟨fun q => ?_, fun q => absurd q e⟩
    by_cases e0 : P k 4 = 0
    · rw [if_pos e0] at q; exact absurd q (by decide)
    · rw [if_neg e0] at q; exact absurd q (by decide)
theorem p_kind_le {P : Nat → Nat → Int32} {k : Nat} (h1 : ¬ P k 1 = -1) (h3 : ¬ P k 3 = -1) : ¬ (1 : Int32) < p_kind P k := by
  unfold p_kind
  by_cases e0 : P k 4 = 0
  · rw [if_pos e0]; decide
  · rw [if_neg e0, if_neg h1, if_neg h3]; decide
theorem p_kind_gt {P : Nat → Nat → Int32} {k : Nat} (h : p_ok P k) (h1 : ¬ P k 1 = -1) (h3 : P k 3 = -1) : (1 : Int32) < p_kind P k := by
  rw [(p_kind_2 h h1).mpr h3]; decide
theorem seq_lt {P : Nat → Nat → Int32} {R : List Nat} (h : R.Pairwise (fun a b => (P a 6).toInt < (P b 6).toInt)) {a b x y : Nat} (ha : R[a]? = some x) (hb : R[b]? = some y) : a < b ↔ (P x 6).toInt < (P y 6).toInt := by
  obtain ⟨la, ea⟩ := List.getElem?_eq_some_iff.mp ha
  obtain ⟨lb, eb⟩ := List.getElem?_eq_some_iff.mp hb
  have hp := List.pairwise_iff_getElem.mp h
  constructor
  · intro q
    have := hp a b la lb q
    rw [ea, eb] at this
    exact this
  · intro q
    refine Nat.not_le.mp (fun z => ?_)
    rcases Nat.lt_or_eq_of_le z with z | z
    · have := hp b a lb la z
      rw [ea, eb] at this
      omega
    · subst z
      rw [ea] at eb
      subst eb
      omega
theorem e_cvM {τ : m_T} {P : Nat → Nat → Int32} {R : List Nat} {fr : Nat → Int32} {T : Nat} (h : LM τ P R fr T) (hs : R.Pairwise (fun a b => (P a 6).toInt < (P b 6).toInt)) (hok : ∀ k ∈ R, p_ok P k) (N : Nat) {a b x y : Nat} (ha : R[a]? = some x) (hb : R[b]? = some y) : f_M_covers N τ (nI a) (nI b) = some (if p_cv P x y = true then 1 else 0) := by
  obtain ⟨a1, a2, a3, a4⟩ := h.at ha
  obtain ⟨b1, b2, b3, b4⟩ := h.at hb
  obtain ⟨x1, x2, x3, x4, _⟩ := h.2.2 a x ha
  obtain ⟨y1, y2, y3, y4, _⟩ := h.2.2 b y hb
  have okx := hok x (List.mem_of_getElem? ha)
  have oky := hok y (List.mem_of_getElem? hb)
  have hlt := seq_lt hs hb ha
  unfold f_M_covers p_cv
  simp only [q_gd_t a1, q_gd_t b1, a2, b2, x1, x2, x3, x4, y1, y2, y3, y4]
  by_cases h0 : nI a ≤ nI b
  · have h1 : ¬ P y 6 < P x 6 := by rw [i_lt, ← hlt]; rw [nI_leI (by omega) (by omega)] at h0; omega
    rw [if_pos h0, decide_eq_false h1, Bool.false_and, if_neg (by decide)]
  · have h1 : P y 6 < P x 6 := by rw [i_lt, ← hlt]; rw [nI_leI (by omega) (by omega)] at h0; omega
    rw [if_neg h0, decide_eq_true h1, Bool.true_and]
    by_cases h2 : P x 0 = P y 0
    · rw [if_pos h2, decide_eq_true h2, Bool.true_and]
      by_cases h3 : P x 1 = -1
      · rw [if_pos ((p_kind_3 okx).mpr h3), decide_eq_true h3, Bool.true_or, if_pos rfl]
      · rw [if_neg (fun q => h3 ((p_kind_3 okx).mp q)), decide_eq_false h3, Bool.false_or]
        by_cases h4 : P x 1 = P y 1
        · have h5 : ¬ P y 1 = -1 := fun q => h3 (h4.trans q)
          rw [if_pos h4, decide_eq_true h4, Bool.true_and]
          by_cases h6 : P x 3 = -1
          · rw [if_pos ((p_kind_2 okx h3).mpr h6), if_neg (fun q => h5 ((p_kind_3 oky).mp q)), decide_eq_true h6, Bool.true_or, if_pos rfl]
          · rw [if_neg (fun q => h6 ((p_kind_2 okx h3).mp q)), decide_eq_false h6, Bool.false_or]
            by_cases h7 : P y 3 = -1
            · rw [if_pos (p_kind_gt oky h5 h7), decide_eq_false (fun q => h6 (q.trans h7)), if_neg (by decide)]
            · rw [if_neg (p_kind_le h5 h7)]
              by_cases h8 : P x 3 = P y 3
              · rw [if_pos h8, decide_eq_true h8, if_pos rfl]
              · rw [if_neg h8, decide_eq_false h8, if_neg (by decide)]
        · rw [if_neg h4, decide_eq_false h4, Bool.false_and, if_neg (by decide)]
    · rw [if_neg h2, decide_eq_false h2, Bool.false_and, if_neg (by decide)]
/-- the reference's word for old, of cells and erasures alike -/
def p_oldM (P : Nat → Nat → Int32) (ag : Nat → Int32) (cl : Int32) (k : Nat) : Bool := !decide (ag (P k 1 / 4).toNatClampNeg = 0) && decide (P k 3 + ag (P k 1 / 4).toNatClampNeg ≤ cl)
theorem p_fam4 {P : Nat → Nat → Int32} {k : Nat} (h : p_ok P k) : ∃ f : Nat, f < 2 ∧ P k 1 / 4 = nI f ∧ (¬ P k 1 = -1 → P k 2 = nI f) := by
  obtain ⟨f, hf, e, ef⟩ := p_fam h
  by_cases h1 : P k 1 = -1
  · exact ⟨0, by omega, by rw [h1]; decide, fun q => absurd h1 q⟩
  · have h2 := h.2.2.1
    have h3 := h.2.2.2.1
    have h4 : ¬ (P k 1).toInt = -1 := fun q => h1 (by rw [i_eq, i_m1]; exact q)
    obtain ⟨c, hc, e1⟩ : ∃ c : Nat, c < 8 ∧ P k 1 = nI c := ⟨(P k 1).toInt.toNat, by omega, by rw [i_eq, nI_toInt (by omega)]; omega⟩
    refine ⟨f, hf, ?_, fun _ => e⟩
    rw [e1, show (4 : Int32) = nI 4 from rfl, pk_div (by omega) (by omega) (by omega)]
    congr 1
    rw [e1] at ef
    by_cases q : nI c < 4
    · rw [if_pos q] at ef
      rw [i_lt, i_4, nI_toInt (by omega)] at q
      omega
    · rw [if_neg q] at ef
      rw [i_lt, i_4, nI_toInt (by omega)] at q
      omega
theorem p_oldM_cell {P : Nat → Nat → Int32} {ag : Nat → Int32} {cl : Int32} {k : Nat} (h : p_ok P k) (h4 : P k 4 = 0) : p_oldM P ag cl k = p_old P ag cl k := by
  obtain ⟨f, hf, e1, e2⟩ := p_fam4 h
  have h1 : ¬ P k 1 = -1 := fun q => by
    have := h.2.2.2.2.2.2.2.2.1 (h.2.2.2.2.2.2.2.1 q)
    rw [h4] at this
    exact absurd this (by decide)
  unfold p_oldM p_old
  rw [e1, e2 h1, decide_eq_true h4, Bool.true_and]
theorem e_oldM {τ : m_T} {P : Nat → Nat → Int32} {R : List Nat} {fr : Nat → Int32} {T : Nat} (h : LM τ P R fr T) {ag : Nat → Int32} {cl : Int32} (hag : ∀ i : Nat, i < 2 → m_I τ 12 i = ag i) (hcl : m_S τ 14 = cl) (N : Nat) {i k : Nat} (hi : R[i]? = some k) (hok : p_ok P k) : f_M_isOld N τ (nI i) = some (if p_oldM P ag cl k = true then 1 else 0) := by
  obtain ⟨a1, a2, a3, a4⟩ := h.at hi
  obtain ⟨x1, x2, x3, x4, _⟩ := h.2.2 i k hi
  obtain ⟨f, hf, e1, _⟩ := p_fam4 hok
  unfold f_M_isOld p_oldM
  simp only [q_gd_t a1, a2, x3, x4, e1, q_gd_t (q_in_of hf (show 2 < 2 ^ 31 by omega)), nI_cl (show f < 2 ^ 31 by omega), hag f hf, hcl]
  by_cases h1 : ag f = 0
  · rw [if_pos h1, decide_eq_true h1, Bool.not_true, Bool.false_and, if_neg (by decide)]
  · rw [if_neg h1, decide_eq_false h1, Bool.not_false, Bool.true_and]
    by_cases h2 : P k 3 + ag f ≤ cl
    · rw [if_neg (by rw [i_lt]; rw [i_le] at h2; omega), decide_eq_true h2, if_pos rfl]
    · rw [if_pos (by rw [i_lt]; rw [i_le] at h2; omega), decide_eq_false h2, if_neg (by decide)]
/-- the reference's live cells are the class's -/
theorem e_liveM {τ : m_T} {P : Nat → Nat → Int32} {R : List Nat} {fr : Nat → Int32} {T : Nat} (h : LM τ P R fr T) (hs : R.Pairwise (fun a b => (P a 6).toInt < (P b 6).toInt)) (hok : ∀ k ∈ R, p_ok P k) {ag : Nat → Int32} {cl : Int32} (hag : ∀ i : Nat, i < 2 → m_I τ 12 i = ag i) (hcl : m_S τ 14 = cl) (hcov : p_cov P ag cl R) {N : Nat} (hN : 247 < N) {i k : Nat} (hi : R[i]? = some k) : f_M_isLive N τ (nI i) = some (if p_live P ag cl k = true then 1 else 0) := by
  obtain ⟨a1, a2, a3, a4⟩ := h.at hi
  obtain ⟨x1, x2, x3, x4, _⟩ := h.2.2 i k hi
  have hkm := List.mem_of_getElem? hi
  have hk := hok k hkm
  have hL := h.2.1
  have hil : i < R.length := (List.getElem?_eq_some_iff.mp hi).1
  unfold f_M_isLive p_live
  rw [q_gd_t a1, a2, x1]
  by_cases h0 : P k 4 = 0
  · rw [if_pos (p_kind0.mpr h0), e_oldM h hag hcl N hi hk, Option.bind_some, p_oldM_cell hk h0, decide_eq_true h0, Bool.true_and]
    cases ho : p_old P ag cl k with
    | true => rw [if_pos rfl, if_neg (by decide), Bool.not_true, Bool.and_false, if_neg (by decide)]
    | false =>
      rw [if_pos (show (if false = true then (1 : Int32) else 0) = 0 by decide), Bool.not_false, Bool.and_true, ← nI_succ]
      have hf := q_find R (fun n v => f_M_isLive_L23 N τ (nI i) (some 1) n v) (some 1) (fun a => p_cv P a k) (fun _ => some 0) R.length (Nat.le_refl _)
        (fun n => by show f_M_isLive_L23 N τ _ _ (n + 1) _ = _; rw [f_M_isLive_L23, if_pos h.end])
        (fun n j a hj hje => by
          obtain ⟨b1, b2, b3, b4⟩ := h.at hj
          show f_M_isLive_L23 N τ _ _ (n + 1) _ = if _ then _ else f_M_isLive_L23 N τ _ _ n _
          rw [f_M_isLive_L23, if_neg b3, e_cvM h hs hok N hj hi, Option.bind_some, ← nI_succ]
          cases p_cv P a k with
          | true => rw [if_pos rfl, if_neg (by decide), if_pos rfl]
          | false => rw [if_pos (show (if false = true then (1 : Int32) else 0) = 0 by decide), if_neg (by decide)])
        (R.drop (i + 1)) (R.take (i + 1)) N (by rw [List.take_length, List.take_append_drop]) (by simp; omega)
      rw [show (R.take (i + 1)).length = i + 1 by simp; omega] at hf
      refine Eq.trans hf ?_
      have hc := hcov k hkm h0 ho
      have hkk : p_cv P k k = false := by
        unfold p_cv
        rw [decide_eq_false (by rw [i_lt]; omega), Bool.false_and]
      have hdrop : (R.drop (i + 1)).find? (fun a => p_cv P a k) = none ↔ P k 10 = 0 := by
        rw [hc, List.find?_eq_none]
        constructor
        · intro q a ha
          cases hcv : p_cv P a k with
          | false => rfl
          | true =>
            exfalso
            obtain ⟨b, hb⟩ := List.getElem?_of_mem ha
            have hlt : (P k 6).toInt < (P a 6).toInt := by
              unfold p_cv at hcv
              rw [Bool.and_eq_true, decide_eq_true_eq, i_lt] at hcv
              exact hcv.1
            have hib := (seq_lt hs hi hb).mpr hlt
            refine q a (List.mem_of_getElem? (i := b - (i + 1)) ?_) hcv
            rw [List.getElem?_drop, show i + 1 + (b - (i + 1)) = b by omega]
            exact hb
        · intro q a ha
          rw [q a (List.mem_of_mem_drop ha)]
          decide
      by_cases h10 : P k 10 = 0
      · rw [hdrop.mpr h10, decide_eq_true h10, if_pos rfl]
      · rw [decide_eq_false h10, if_neg (by decide)]
        cases hfd : (R.drop (i + 1)).find? (fun a => p_cv P a k) with
        | none => exact absurd (hdrop.mp hfd) h10
        | some b => rfl
  · rw [if_neg (fun q => h0 (p_kind0.mp q)), decide_eq_false h0, Bool.false_and, if_neg (by decide)]
