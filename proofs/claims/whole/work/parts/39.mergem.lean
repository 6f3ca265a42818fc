/-! The reference's merge of tables. -/
theorem m_tab {fr : Nat → Int32} {T : Nat} (hf : p_fr fr T) {x r : Int32} (h : ∃ t : Nat, t < T ∧ x = nI t ∧ fr t ≤ r ∧ r < fr (t + 1)) {t : Nat} (ht : t < T) : x = nI t ↔ (decide (r < fr (t + 1)) && !decide (r < fr t)) = true := by
  obtain ⟨s, hs, e, h1, h2⟩ := h
  have hT := hf.2.1
  rw [Bool.and_eq_true, Bool.not_eq_true', decide_eq_true_eq, decide_eq_false_iff_not]
  constructor
  · intro q
    rw [e, nI_eq (by omega) (by omega)] at q
    subst q
    exact ⟨h2, by rw [i_lt]; rw [i_le] at h1; omega⟩
  · intro q
    rw [e]
    congr 1
    exact p_fr_one hf hs ht h1 h2 (by rw [i_le]; have := q.2; rw [i_lt] at this; omega) q.1
theorem p_seg_mem {P : Nat → Nat → Int32} {R : List Nat} {lo hi : Int32} {k : Nat} (hk : k ∈ R) : k ∈ p_seg P R lo hi ↔ (decide (P k 0 < hi) && !decide (P k 0 < lo)) = true := ⟨fun q => (List.mem_filter.mp q).2, fun q => List.mem_filter.mpr ⟨hk, q⟩⟩
def p_ins (P : Nat → Nat → Int32) (S : List Nat) (u : Int32) (k : Nat) : Bool := decide (k ∈ S) && !decide (P k 8 < u)
theorem e_isIn {τ : m_T} {P : Nat → Nat → Int32} {R : List Nat} {fr : Nat → Int32} {T : Nat} (h : LM τ P R fr T) (hf : p_fr fr T) (N : Nat) {t : Nat} (ht : t < T) (u : Int32) {i k : Nat} (hi : R[i]? = some k) : f_M_isIn N τ (nI i) (nI t) u = some (if p_ins P (p_seg P R (fr t) (fr (t + 1))) u k = true then 1 else 0) := by
  obtain ⟨g1, g2, g3, g4⟩ := h.at hi
  have ht2 := h.tab hf hi ht
  have hm := p_seg_mem (P := P) (lo := fr t) (hi := fr (t + 1)) (List.mem_of_getElem? hi)
  unfold f_M_isIn p_ins
  rw [q_gd_t g1, q_gd_t g1, g2, (h.2.2 i k hi).2.2.2.2.2.1]
  by_cases c1 : m_I τ 7 i = nI t
  · rw [if_pos c1, decide_eq_true (hm.mpr (ht2.mp c1)), Bool.true_and]
    by_cases c2 : P k 8 < u
    · rw [if_pos c2, decide_eq_true c2]; rfl
    · rw [if_neg c2, decide_eq_false c2]; rfl
  · rw [if_neg c1, decide_eq_false (fun q => c1 (ht2.mpr (hm.mp q)))]; rfl
theorem e_L57 {τ : m_T} {P : Nat → Nat → Int32} {R : List Nat} {fr : Nat → Int32} {T : Nat} (h : LM τ P R fr T) (hf : p_fr fr T) (hs : R.Pairwise (fun a b => (P a 6).toInt < (P b 6).toInt)) (hok : ∀ k ∈ R, p_ok P k) {N : Nat} (hN : 247 < N) {t : Nat} (ht : t < T) (u : Int32) {i k : Nat} (hi : R[i]? = some k) (K : Int32 → Option (Int32 × m_T)) (b : Bool) : f_M_merge_L57 N τ (nI t) u 0 (nI i) K N (if b = true then 0 else 1) (nI (i + 1)) = K (if (b || R.any (fun a => p_ins P (p_seg P R (fr t) (fr (t + 1))) u a && p_cv P a k)) = true then 0 else 1) := by
  have hL := h.2.1
  have hil : i < R.length := (List.getElem?_eq_some_iff.mp hi).1
  have h0 := q_loop R (fun n (v : Int32) j => f_M_merge_L57 N τ (nI t) u 0 (nI i) K n v j) K (fun v a => if v = 0 then 0 else if (p_ins P (p_seg P R (fr t) (fr (t + 1))) u a && p_cv P a k) = true then 0 else 1) (fun v => v = 0 ∨ v = 1) R.length (Nat.le_refl _)
    (fun n v _ => by show f_M_merge_L57 N τ _ _ _ _ K (n + 1) v _ = _; rw [f_M_merge_L57, if_pos h.end])
    (fun n v j a hv hj hje => by
      obtain ⟨g1, g2, g3, g4⟩ := h.at hj
      show f_M_merge_L57 N τ _ _ _ _ K (n + 1) v _ = f_M_merge_L57 N τ _ _ _ _ K n _ _ ∧ _
      rw [f_M_merge_L57, if_neg g3, if01, e_isIn h hf N ht u hj, Option.bind_some, e_cvM h hs hok N hj hi, Option.bind_some, ← nI_succ]
      rcases hv with rfl | rfl
      · rw [if01, if01]
        exact ⟨rfl, Or.inl rfl⟩
      · rw [if11, if11]
        cases p_ins P (p_seg P R (fr t) (fr (t + 1))) u a with
        | false =>
          rw [if_pos (show (if false = true then (1 : Int32) else 0) = 0 by decide)]
          exact ⟨rfl, Or.inr rfl⟩
        | true =>
          rw [if_neg (show ¬ (if true = true then (1 : Int32) else 0) = 0 by decide)]
          cases p_cv P a k with
          | false =>
            rw [if_pos (show (if false = true then (1 : Int32) else 0) = 0 by decide)]
            exact ⟨rfl, Or.inr rfl⟩
          | true =>
            rw [if_neg (show ¬ (if true = true then (1 : Int32) else 0) = 0 by decide)]
            exact ⟨rfl, Or.inl rfl⟩)
    (R.drop (i + 1)) (R.take (i + 1)) N (if b = true then 0 else 1) (by rw [List.take_length, List.take_append_drop]) (by simp; omega) (by cases b <;> simp)
  rw [show (R.take (i + 1)).length = i + 1 by simp; omega, q_flag] at h0
  refine h0.1.trans (congrArg K ?_)
  have e : (R.drop (i + 1)).any (fun a => p_ins P (p_seg P R (fr t) (fr (t + 1))) u a && p_cv P a k) = R.any (fun a => p_ins P (p_seg P R (fr t) (fr (t + 1))) u a && p_cv P a k) := by
    rw [Bool.eq_iff_iff, List.any_eq_true, List.any_eq_true]
    constructor
    · intro ⟨a, ha, q⟩
      exact ⟨a, List.mem_of_mem_drop ha, q⟩
    · intro ⟨a, ha, q⟩
      refine ⟨a, ?_, q⟩
      obtain ⟨d, hd⟩ := List.getElem?_of_mem ha
      have hcv := (Bool.and_eq_true _ _ ▸ q).2
      have hid := (seq_lt hs hi hd).mpr (p_cv_seq hcv)
      refine List.mem_of_getElem? (i := d - (i + 1)) ?_
      rw [List.getElem?_drop, show i + 1 + (d - (i + 1)) = d by omega]
      exact hd
  rw [← e]
  cases b with
  | true => rfl
  | false =>
    rw [Bool.false_or, if_neg (show ¬ (if false = true then (0 : Int32) else 1) = 0 by decide)]
    by_cases hd : R.drop (i + 1) = []
    · rw [if_pos hd, hd]
      rfl
    · rw [if_neg hd]
theorem e_markK {τ : m_T} {P : Nat → Nat → Int32} {R : List Nat} {fr : Nat → Int32} {T : Nat} (h : LM τ P R fr T) (hf : p_fr fr T) (N : Nat) {t : Nat} (ht : t < T) (u u3 : Int32) (K : m_T → Option (Int32 × m_T)) {j k : Nat} (hk : R[j]? = some k) (g : Nat → Int32) (v5 : Int32) (dd : Bool) (hv : v5 = 0 ↔ dd = true) (n : Nat) : ((f_M_isIn N (m_wI τ 6 g) (nI j) (nI t) u).bind fun r37 => (if (r37 : Int32) = (0 : Int32) then q_gd (q_in (nI j) 256) <| q_gd (q_in (nI j) 256) <| q_let (m_sI (m_wI τ 6 g) 6 ((nI j : Int32).toNatClampNeg) (m_I (m_wI τ 6 g) 6 ((nI j : Int32).toNatClampNeg))) fun s40 => f_M_merge_L3 N (nI t) u u3 K n (nI j + 1) s40 else (if (v5 : Int32) = (0 : Int32) then q_gd (q_in (nI j) 256) <| q_let (m_sI (m_wI τ 6 g) 6 ((nI j : Int32).toNatClampNeg) (-2)) fun s45 => f_M_merge_L3 N (nI t) u u3 K n (nI j + 1) s45 else q_gd (q_in (nI j) 256) <| q_gd (q_in (nI j) 256) <| q_let (m_sI (m_wI τ 6 g) 6 ((nI j : Int32).toNatClampNeg) (m_I (m_wI τ 6 g) 6 ((nI j : Int32).toNatClampNeg))) fun s43 => f_M_merge_L3 N (nI t) u u3 K n (nI j + 1) s43))) = f_M_merge_L3 N (nI t) u u3 K n (nI (j + 1)) (m_wI τ 6 (upd g j (if p_gone P (p_seg P R (fr t) (fr (t + 1))) u (fun _ => dd) k = true then -2 else g j))) := by
  obtain ⟨g1, g2, g3, g4⟩ := h.at hk
  have hi := e_isIn (τ := m_wI τ 6 g) (P := P) (R := R) (fr := fr) (T := T) h hf N ht u hk
  rw [hi, Option.bind_some, g2, ← nI_succ]
  simp only [q_gd_t g1, q_let, m_wI_s, show m_I (m_wI τ 6 g) 6 j = g j from rfl]
  unfold p_gone p_ins
  cases decide (k ∈ p_seg P R (fr t) (fr (t + 1))) with
  | false => rw [Bool.false_and, if_pos (show (if false = true then (1 : Int32) else 0) = 0 by decide), Bool.false_and, if_neg (show ¬ false = true by decide)]
  | true =>
    cases decide (P k 8 < u) with
    | true =>
      rw [Bool.not_true, Bool.and_false, if_pos (show (if false = true then (1 : Int32) else 0) = 0 by decide), Bool.false_and, Bool.and_false, if_neg (show ¬ false = true by decide)]
    | false =>
      rw [Bool.not_false, Bool.and_true, if_neg (show ¬ (if true = true then (1 : Int32) else 0) = 0 by decide), Bool.true_and, Bool.true_and]
      by_cases c : v5 = 0
      · rw [if_pos c, if_pos (hv.mp c)]
      · rw [if_neg c, if_neg (fun q => c (hv.mpr q))]
/-- the marks -/
theorem e_mark {τ : m_T} {P : Nat → Nat → Int32} {R : List Nat} {fr : Nat → Int32} {T : Nat} (h : LM τ P R fr T) {N : Nat} (hN : 247 < N) {t : Nat} (u u3 : Int32) (K : m_T → Option (Int32 × m_T)) (dead : Nat → Bool)
    (hstep : ∀ (n j k : Nat) (g : Nat → Int32), R[j]? = some k → f_M_merge_L3 N (nI t) u u3 K (n + 1) (nI j) (m_wI τ 6 g) = f_M_merge_L3 N (nI t) u u3 K n (nI (j + 1)) (m_wI τ 6 (upd g j (if p_gone P (p_seg P R (fr t) (fr (t + 1))) u (fun _ => dead k) k = true then -2 else g j)))) : ∃ g, f_M_merge_L3 N (nI t) u u3 K N 0 τ = K (m_wI τ 6 g) ∧ ∀ i k : Nat, R[i]? = some k → g i = if p_gone P (p_seg P R (fr t) (fr (t + 1))) u dead k = true then -2 else m_I τ 6 i := by
  have hL := h.2.1
  obtain ⟨s', e1, g, rfl, e2⟩ := q_inv (fun n (s : m_T) i => f_M_merge_L3 N (nI t) u u3 K n i s) K (fun j s => ∃ g, s = m_wI τ 6 g ∧ ∀ i k : Nat, R[i]? = some k → g i = if i < j ∧ p_gone P (p_seg P R (fr t) (fr (t + 1))) u dead k = true then -2 else m_I τ 6 i) R.length
    (fun n s hI => by
      obtain ⟨g, rfl, _⟩ := hI
      show f_M_merge_L3 N _ u u3 K (n + 1) _ _ = _
      rw [f_M_merge_L3, if_pos (show m_S (m_wI τ 6 g) 0 ≤ nI R.length from h.end)])
    (fun n s j hj hI => by
      obtain ⟨g, rfl, hg⟩ := hI
      obtain ⟨k, hk⟩ : ∃ k, R[j]? = some k := ⟨_, List.getElem?_eq_getElem hj⟩
      refine ⟨_, hstep n j k g hk, _, rfl, fun i a ha => ?_⟩
      by_cases hij : i = j
      · subst hij
        obtain rfl : a = k := Option.some.inj (ha.symm.trans hk)
        have hgi : g i = m_I τ 6 i := by rw [hg i a ha, if_neg (fun q => absurd q.1 (by omega))]
        rw [upd_s, hgi]
        by_cases c : p_gone P (p_seg P R (fr t) (fr (t + 1))) u dead a = true
        · exact (if_pos c).trans (if_pos ⟨by omega, c⟩).symm
        · exact (if_neg c).trans (if_neg (fun q => c q.2)).symm
      · rw [pk_un hij, hg i a ha]
        by_cases c : p_gone P (p_seg P R (fr t) (fr (t + 1))) u dead a = true
        · by_cases q : i < j
          · rw [if_pos ⟨q, c⟩, if_pos ⟨by omega, c⟩]
          · rw [if_neg (fun z => q z.1), if_neg (fun z => absurd z.1 (by omega))]
        · rw [if_neg (fun q => c q.2), if_neg (fun q => c q.2)])
    R.length 0 N τ (by omega) (by omega) ⟨m_I τ 6, m_wI_id.symm, fun i k _ => by rw [if_neg (fun q => absurd q.1 (by omega))]⟩
  refine ⟨g, by rw [nI_0] at e1; exact e1, fun i k hk => ?_⟩
  have hi : i < R.length := (List.getElem?_eq_some_iff.mp hk).1
  rw [e2 i k hk]
  by_cases c : p_gone P (p_seg P R (fr t) (fr (t + 1))) u dead k = true
  · rw [if_pos ⟨hi, c⟩, if_pos c]
  · rw [if_neg (fun q => c q.2), if_neg c]
theorem p_gone_c {P : Nat → Nat → Int32} {R : List Nat} {lo hi u : Int32} {k : Nat} (hk : k ∈ R) {d d' : Bool} (h : k ∈ p_seg P R lo hi → d = d') : p_gone P (p_seg P R lo hi) u (fun _ => d) k = p_gone P (p_seg P R lo hi) u (fun _ => d') k := by
  unfold p_gone
  by_cases q : k ∈ p_seg P R lo hi
  · rw [h q]
  · rw [decide_eq_false q, Bool.false_and, Bool.false_and]
theorem e_markC {τ : m_T} {P : Nat → Nat → Int32} {R : List Nat} {fr : Nat → Int32} {T : Nat} {ag : Nat → Int32} {cl : Int32} (h : r_bl τ P R fr T ag cl) (hf : p_fr fr T) {N : Nat} (hN : 247 < N) {t : Nat} (ht : t < T) (u : Int32) (K : m_T → Option (Int32 × m_T)) : ∃ g, f_M_merge_L3 N (nI t) u 0 K N 0 τ = K (m_wI τ 6 g) ∧ ∀ i k : Nat, R[i]? = some k → g i = if p_gone P (p_seg P R (fr t) (fr (t + 1))) u (p_deadC P ag cl R u) k = true then -2 else m_I τ 6 i := by
  obtain ⟨h1, hs, hok, hag, hcl, hcov⟩ := h
  refine e_mark h1 hN u 0 K _ (fun n j k g hk => ?_)
  obtain ⟨g1, g2, g3, g4⟩ := h1.at hk
  have hkR := List.mem_of_getElem? hk
  have hkind : m_I (m_wI τ 6 g) 1 j = p_kind P k := (h1.2.2 j k hk).1
  have hold := e_oldM (τ := m_wI τ 6 g) (P := P) (R := R) (fr := fr) (T := T) h1 hag hcl N hk (hok k hkR)
  have hany : k ∈ p_seg P R (fr t) (fr (t + 1)) → R.any (fun a => p_ins P (p_seg P R (fr t) (fr (t + 1))) u a && p_cv P a k) = R.any (fun a => !decide (P a 8 < u) && p_cv P a k) := fun hkS => by
    rw [Bool.eq_iff_iff, List.any_eq_true, List.any_eq_true]
    constructor
    · intro ⟨a, ha, q⟩
      unfold p_ins at q
      simp only [Bool.and_eq_true] at q
      exact ⟨a, ha, by rw [Bool.and_eq_true]; exact ⟨q.1.2, q.2⟩⟩
    · intro ⟨a, ha, q⟩
      rw [Bool.and_eq_true] at q
      refine ⟨a, ha, ?_⟩
      unfold p_ins
      have hrow := p_cv_row q.2
      have : a ∈ p_seg P R (fr t) (fr (t + 1)) := (p_seg_mem ha).mpr (by rw [hrow]; exact (p_seg_mem hkR).mp hkS)
      rw [decide_eq_true this, Bool.true_and, Bool.and_eq_true]
      exact q
  have fin : ∀ b : Bool, (b = p_old P ag cl k) → f_M_merge_L57 N (m_wI τ 6 g) (nI t) u 0 (nI j) (fun v5 => (f_M_isIn N (m_wI τ 6 g) (nI j) (nI t) u).bind fun r37 => (if (r37 : Int32) = (0 : Int32) then q_gd (q_in (nI j) 256) <| q_gd (q_in (nI j) 256) <| q_let (m_sI (m_wI τ 6 g) 6 ((nI j : Int32).toNatClampNeg) (m_I (m_wI τ 6 g) 6 ((nI j : Int32).toNatClampNeg))) fun s40 => f_M_merge_L3 N (nI t) u 0 K n (nI j + 1) s40 else (if (v5 : Int32) = (0 : Int32) then q_gd (q_in (nI j) 256) <| q_let (m_sI (m_wI τ 6 g) 6 ((nI j : Int32).toNatClampNeg) (-2)) fun s45 => f_M_merge_L3 N (nI t) u 0 K n (nI j + 1) s45 else q_gd (q_in (nI j) 256) <| q_gd (q_in (nI j) 256) <| q_let (m_sI (m_wI τ 6 g) 6 ((nI j : Int32).toNatClampNeg) (m_I (m_wI τ 6 g) 6 ((nI j : Int32).toNatClampNeg))) fun s43 => f_M_merge_L3 N (nI t) u 0 K n (nI j + 1) s43))) N (if b = true then 0 else 1) (nI j + 1) = f_M_merge_L3 N (nI t) u 0 K n (nI (j + 1)) (m_wI τ 6 (upd g j (if p_gone P (p_seg P R (fr t) (fr (t + 1))) u (fun _ => p_deadC P ag cl R u k) k = true then -2 else g j))) := fun b hb => by
    refine Eq.trans (Eq.trans (congrArg (fun w => f_M_merge_L57 N (m_wI τ 6 g) (nI t) u 0 (nI j) _ N (if b = true then 0 else 1) w) (nI_succ j).symm) (e_L57 (τ := m_wI τ 6 g) (P := P) (R := R) (fr := fr) (T := T) h1 hf hs hok hN ht u hk _ b)) ?_
    refine Eq.trans (e_markK h1 hf N ht u 0 K hk g _ (b || R.any (fun a => p_ins P (p_seg P R (fr t) (fr (t + 1))) u a && p_cv P a k)) (by cases (b || R.any (fun a => p_ins P (p_seg P R (fr t) (fr (t + 1))) u a && p_cv P a k)) <;> decide) n) ?_
    rw [p_gone_c hkR (d' := p_deadC P ag cl R u k) (fun q => by rw [hany q, hb]; rfl)]
  rw [f_M_merge_L3, if_neg (show ¬ m_S (m_wI τ 6 g) 0 ≤ nI j from g3), if01]
  refine Eq.trans (q_gd_t g1) ?_
  rw [show m_I (m_wI τ 6 g) 1 (nI j).toNatClampNeg = p_kind P k by rw [g2]; exact hkind, hold, Option.bind_some]
  by_cases c : P k 4 = 0
  · rw [if_pos (p_kind0.mpr c), p_oldM_cell (hok k hkR) c]
    cases ho : p_old P ag cl k with
    | true =>
      rw [if_neg (show ¬ (if true = true then (1 : Int32) else 0) = 0 by decide)]
      exact fin true ho.symm
    | false =>
      rw [if_pos (show (if false = true then (1 : Int32) else 0) = 0 by decide)]
      exact fin false ho.symm
  · rw [if_neg (fun q => c (p_kind0.mp q))]
    exact fin false (by unfold p_old; rw [decide_eq_false c, Bool.false_and])
theorem e_markM {τ : m_T} {P : Nat → Nat → Int32} {R : List Nat} {fr : Nat → Int32} {T : Nat} {ag : Nat → Int32} {cl : Int32} (h : r_bl τ P R fr T ag cl) (hf : p_fr fr T) {N : Nat} (hN : 247 < N) {t : Nat} (ht : t < T) (u : Int32) (K : m_T → Option (Int32 × m_T)) : ∃ g, f_M_merge_L3 N (nI t) u 1 K N 0 τ = K (m_wI τ 6 g) ∧ ∀ i k : Nat, R[i]? = some k → g i = if p_gone P (p_seg P R (fr t) (fr (t + 1))) u (p_deadM P ag cl) k = true then -2 else m_I τ 6 i := by
  obtain ⟨h1, hs, hok, hag, hcl, hcov⟩ := h
  refine e_mark h1 hN u 1 K _ (fun n j k g hk => ?_)
  obtain ⟨g1, g2, g3, g4⟩ := h1.at hk
  have hlv := e_liveM (τ := m_wI τ 6 g) (P := P) (R := R) (fr := fr) (T := T) h1 hs hok hag hcl hcov hN hk
  rw [f_M_merge_L3, if_neg (show ¬ m_S (m_wI τ 6 g) 0 ≤ nI j from g3), if11, hlv, Option.bind_some]
  have h57 : ∀ (K57 : Int32 → Option (Int32 × m_T)) (v w : Int32), f_M_merge_L57 N (m_wI τ 6 g) (nI t) u 1 (nI j) K57 N v w = K57 v := fun K57 v w => by
    obtain ⟨N', rfl⟩ : ∃ m, N = m + 1 := ⟨N - 1, by omega⟩
    rw [f_M_merge_L57, if11]
    by_cases c : m_S (m_wI τ 6 g) 0 ≤ w
    · rw [if_pos c]
    · rw [if_neg c]
  rw [h57]
  exact e_markK h1 hf N ht u 1 K hk g _ (p_deadM P ag cl k) (by unfold p_deadM; cases p_live P ag cl k <;> decide) n
