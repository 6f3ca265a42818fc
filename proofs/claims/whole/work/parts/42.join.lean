/-! join. -/
def x_eI (σ : x_T) (a : Nat) (f : Nat → Int32) : x_T := (σ.1, va_up σ.2.1 a f, σ.2.2)
theorem x_eI_s {σ : x_T} {a j : Nat} {f : Nat → Int32} {v : Int32} : x_sI (x_eI σ a f) a j v = x_eI σ a (upd f j v) := by
  unfold x_sI x_eI
  refine Prod.ext rfl (Prod.ext ?_ rfl)
  show va_up (va_up σ.2.1 a f) a (upd (va_up σ.2.1 a f a) j v) = va_up σ.2.1 a (upd f j v)
  rw [bx_uu]
  congr 2
  exact if_pos rfl
theorem x_eI_id {σ : x_T} {a : Nat} : x_eI σ a (x_I σ a) = σ := by
  unfold x_eI
  refine Prod.ext rfl (Prod.ext ?_ rfl)
  funext i
  show (if i = a then σ.2.1 a else σ.2.1 i) = σ.2.1 i
  by_cases h : i = a
  · rw [if_pos h, h]
  · rw [if_neg h]
def m_e9 (τ : m_T) (g h : Nat → Int32) : m_T := (τ.1, va_up (va_up τ.2 9 g) 10 h)
theorem m_e9_s {τ : m_T} {g h : Nat → Int32} {i : Nat} {x y : Int32} : m_sI (m_sI (m_e9 τ g h) 9 i x) 10 i y = m_e9 τ (upd g i x) (upd h i y) := by
  unfold m_sI m_e9
  refine Prod.ext rfl ?_
  funext a
  by_cases h1 : a = 10
  · subst h1; rfl
  · by_cases h2 : a = 9
    · subst h2; rfl
    · simp only [va_up, h1, h2, if_false]
theorem m_e9_id {τ : m_T} : m_e9 τ (m_I τ 9) (m_I τ 10) = τ := by
  unfold m_e9
  refine Prod.ext rfl ?_
  funext a
  by_cases h1 : a = 10
  · subst h1; rfl
  · by_cases h2 : a = 9
    · subst h2; rfl
    · simp only [va_up, h1, h2, if_false]
def m_e7 (τ : m_T) (g h : Nat → Int32) : m_T := (τ.1, va_up (va_up τ.2 7 g) 8 h)
theorem m_e7_7 {τ : m_T} {g h : Nat → Int32} {i : Nat} {x : Int32} : m_sI (m_e7 τ g h) 7 i x = m_e7 τ (upd g i x) h := by
  unfold m_sI m_e7
  refine Prod.ext rfl ?_
  funext a
  by_cases h1 : a = 8
  · subst h1; rfl
  · by_cases h2 : a = 7
    · subst h2; rfl
    · simp only [va_up, h1, h2, if_false]
theorem m_e7_8 {τ : m_T} {g h : Nat → Int32} {i : Nat} {x : Int32} : m_sI (m_e7 τ g h) 8 i x = m_e7 τ g (upd h i x) := by
  unfold m_sI m_e7
  refine Prod.ext rfl ?_
  funext a
  by_cases h1 : a = 8
  · subst h1; rfl
  · simp only [va_up, h1, if_false]
theorem m_e7_id {τ : m_T} : m_e7 τ (m_I τ 7) (m_I τ 8) = τ := by
  unfold m_e7
  refine Prod.ext rfl ?_
  funext a
  by_cases h1 : a = 8
  · subst h1; rfl
  · by_cases h2 : a = 7
    · subst h2; rfl
    · simp only [va_up, h1, h2, if_false]
/-- batches don't ask for a table's number, only for the memtable -/
theorem p_bat.map {P Q : Nat → Nat → Int32} {B : Nat → Int32} {ap : Int32} {L : List Nat} (h : p_bat P B ap L) (h0 : ∀ k, Q k 0 = P k 0) (h6 : ∀ k, Q k 6 = P k 6) (h9 : ∀ k, Q k 9 = P k 9) (h8 : ∀ k ∈ L, Q k 8 = -1 ↔ P k 8 = -1) : p_bat Q B ap L := by
  refine ⟨h.1, fun a ha k hk q => ?_, fun k hk q => ?_⟩
  · rw [h0, h0]
    exact h.2.1 a ha k hk q
  · rw [h9, h.2.2 k hk ((h8 k hk).mp q)]
    constructor
    · intro ⟨a, ha, z1, z2, z3⟩
      exact ⟨a, ha, by rw [h6, h6]; exact z1, (h8 a ha).mpr z2, z3⟩
    · intro ⟨a, ha, z1, z2, z3⟩
      rw [h6, h6] at z1
      exact ⟨a, ha, z1, (h8 a ha).mp z2, z3⟩
def p_jn (c : Nat) (x : Int32) : Int32 := if x = -1 then x else x + nI c
theorem e_joinX {σ : x_T} {L : List Nat} (hX : LX σ L) (hn : L.Nodup) (hr : p_rows (x_P σ) L) {N : Nat} (hN : 247 < N) {t : Nat} (hf : x_I σ 4 t ≤ x_I σ 4 (t + 1)) (c : Nat) (a1 : Int32) (K : x_T → Option (Int32 × x_T)) : f_T_join_L39 N a1 (nI c) (nI (p_pre (x_P σ) L (x_I σ 4 (t + 1))).length) K N (nI (p_pre (x_P σ) L (x_I σ 4 t)).length) σ = K (x_wP σ (p_map (x_P σ) (x_sg σ L t) (p_jn c))) := by
  have hL := hX.2.1
  have hl := p_pre_le (x_P σ) L (x_I σ 4 (t + 1))
  exact x_tabloop hX hn hr hf (fun n s i => f_T_join_L39 N a1 (nI c) (nI (p_pre (x_P σ) L (x_I σ 4 (t + 1))).length) K n i s) K (p_jn c) hN
    (fun n s => by show f_T_join_L39 N _ _ _ _ (n + 1) _ s = _; rw [f_T_join_L39, if_pos (nI_le (Nat.le_refl _) (by omega))])
    (fun n s j k hI hj hje => by
      obtain ⟨h1, h2, h3, h4⟩ := hI.at hj
      show f_T_join_L39 N _ _ _ _ (n + 1) _ s = f_T_join_L39 N _ _ _ _ n _ _
      rw [f_T_join_L39, if_neg (nI_ge hje (by omega)), q_gd_t h1, q_om_s h2, q_gd_t h3, q_gd_t h1, q_om_s h2, q_gd_t h3, ← nI_succ]
      unfold q_let p_jn
      by_cases hc : x_P s k 8 = -1
      · rw [if_pos hc, if_pos hc, ← x_wP_id rfl]
      · rw [if_neg hc, x_sP_w, if_neg hc])
/-- a join's first rows -/
def p_frj (fr : Nat → Int32) (t T : Nat) : Nat → Int32 := fun i => if t + 1 ≤ i ∧ i < T then fr (i + 1) else fr i
theorem p_frj_lo {fr : Nat → Int32} {t T i : Nat} (h : i < t + 1) : p_frj fr t T i = fr i := if_neg (fun q => by omega)
theorem p_frj_hi {fr : Nat → Int32} {t T i : Nat} (h : t + 1 ≤ i) (h2 : i < T) : p_frj fr t T i = fr (i + 1) := if_pos ⟨h, h2⟩
theorem e_joinR {σ : x_T} {T t : Nat} (hT : T ≤ 8) (ht : t + 1 < T) (h7 : x_S σ 7 = nI (T - 1)) {N : Nat} (hN : 247 < N) (K : x_T → Option (Int32 × x_T)) : ∃ g, f_T_join_L96 N K N (nI (t + 1)) σ = K (x_eI σ 4 g) ∧ ∀ i, g i = p_frj (x_I σ 4) t T i := by
  obtain ⟨s', e1, g, rfl, _, e2⟩ := q_inv (fun n (s : x_T) i => f_T_join_L96 N K n i s) K (fun j s => ∃ g, s = x_eI σ 4 g ∧ t + 1 ≤ j ∧ ∀ i, g i = if t + 1 ≤ i ∧ i < j then x_I σ 4 (i + 1) else x_I σ 4 i) T
    (fun n s hI => by
      obtain ⟨g, rfl, _⟩ := hI
      show f_T_join_L96 N K (n + 1) _ _ = _
      rw [f_T_join_L96, if_pos (show x_S (x_eI σ 4 g) 7 < nI T by show x_S σ 7 < nI T; rw [h7]; exact nI_lt (by omega) (by omega))])
    (fun n s j hj hI => by
      obtain ⟨g, rfl, hjt, hg⟩ := hI
      show ∃ s', f_T_join_L96 N K (n + 1) _ _ = f_T_join_L96 N K n _ s' ∧ _
      rw [f_T_join_L96, if_neg (show ¬ x_S (x_eI σ 4 g) 7 < nI j by show ¬ x_S σ 7 < nI j; rw [h7]; exact nI_nlt (by omega) (by omega)), ← nI_succ, q_gd_t (q_in_of (show j + 1 < 9 by omega) (by omega)), q_gd_t (q_in_of (show j < 9 by omega) (by omega)), nI_cl (by omega), nI_cl (by omega)]
      refine ⟨_, congrArg (f_T_join_L96 N K n (nI (j + 1))) x_eI_s, _, rfl, by omega, fun i => ?_⟩
      show upd g j (g (j + 1)) i = _
      by_cases hij : i = j
      · subst hij
        rw [upd_s, hg, if_neg (by omega)]
        rw [if_pos ⟨hjt, by omega⟩]
      · rw [pk_un hij, hg]
        by_cases q : t + 1 ≤ i ∧ i < j
        · rw [if_pos q, if_pos ⟨q.1, by omega⟩]
        · rw [if_neg q, if_neg (by omega)])
    (T - (t + 1)) (t + 1) N σ (by omega) (by omega) ⟨x_I σ 4, x_eI_id.symm, by omega, fun i => by rw [if_neg (by omega)]⟩
  exact ⟨g, e1, e2⟩
theorem e_joinRM {τ : m_T} {T t : Nat} (hT : T ≤ 8) (ht : t + 1 < T) (h9 : m_S τ 9 = nI (T - 1)) {N : Nat} (hN : 247 < N) (K : m_T → Option (Int32 × m_T)) : ∃ g h, f_M_join_L123 N K N (nI (t + 1)) τ = K (m_e9 τ g h) ∧ ∀ i, g i = (if t + 1 ≤ i ∧ i < T - 1 then m_I τ 9 (i + 1) else m_I τ 9 i) ∧ h i = (if t + 1 ≤ i ∧ i < T - 1 then m_I τ 10 (i + 1) else m_I τ 10 i) := by
  obtain ⟨s', e1, g, h, rfl, _, e2⟩ := q_inv (fun n (s : m_T) i => f_M_join_L123 N K n i s) K (fun j s => ∃ g h, s = m_e9 τ g h ∧ t + 1 ≤ j ∧ ∀ i, g i = (if t + 1 ≤ i ∧ i < j then m_I τ 9 (i + 1) else m_I τ 9 i) ∧ h i = (if t + 1 ≤ i ∧ i < j then m_I τ 10 (i + 1) else m_I τ 10 i)) (T - 1)
    (fun n s hI => by
      obtain ⟨g, h, rfl, _⟩ := hI
      show f_M_join_L123 N K (n + 1) _ _ = _
      rw [f_M_join_L123, if_pos (show m_S (m_e9 τ g h) 9 ≤ nI (T - 1) by show m_S τ 9 ≤ _; rw [h9]; exact nI_le (by omega) (by omega))])
    (fun n s j hj hI => by
      obtain ⟨g, h, rfl, hjt, hg⟩ := hI
      have e9 : ∀ x, m_I (m_sI (m_e9 τ g h) 9 j x) 10 (j + 1) = h (j + 1) := fun _ => rfl
      show ∃ s', f_M_join_L123 N K (n + 1) _ _ = f_M_join_L123 N K n _ s' ∧ _
      rw [f_M_join_L123, if_neg (show ¬ m_S (m_e9 τ g h) 9 ≤ nI j by show ¬ m_S τ 9 ≤ _; rw [h9]; exact nI_ge (by omega) (by omega)), ← nI_succ]
      simp only [q_gd_t (q_in_of (show j + 1 < 9 by omega) (show 9 < 2 ^ 31 by omega)), q_gd_t (q_in_of (show j < 9 by omega) (show 9 < 2 ^ 31 by omega)), nI_cl (show j < 2 ^ 31 by omega), nI_cl (show j + 1 < 2 ^ 31 by omega), q_let, e9, m_e9_s]
      refine ⟨_, rfl, _, _, rfl, by omega, fun i => ?_⟩
      show upd g j (g (j + 1)) i = _ ∧ upd h j (h (j + 1)) i = _
      by_cases hij : i = j
      · subst hij
        refine ⟨?_, ?_⟩
        · rw [upd_s, (hg (i + 1)).1, if_neg (by omega), if_pos ⟨hjt, by omega⟩]
        · rw [upd_s, (hg (i + 1)).2, if_neg (by omega), if_pos ⟨hjt, by omega⟩]
      · rw [pk_un hij, pk_un hij, (hg i).1, (hg i).2]
        by_cases q : t + 1 ≤ i ∧ i < j
        · rw [if_pos q, if_pos q, if_pos ⟨q.1, by omega⟩, if_pos ⟨q.1, by omega⟩]
          exact ⟨rfl, rfl⟩
        · rw [if_neg q, if_neg q, if_neg (by omega), if_neg (by omega)]
          exact ⟨rfl, rfl⟩)
    (T - 1 - (t + 1)) (t + 1) N τ (by omega) (by omega) ⟨m_I τ 9, m_I τ 10, m_e9_id.symm, by omega, fun i => by rw [if_neg (by omega), if_neg (by omega)]; exact ⟨rfl, rfl⟩⟩
  exact ⟨g, h, e1, e2⟩
theorem e_joinM {τ : m_T} {P : Nat → Nat → Int32} {R : List Nat} {fr : Nat → Int32} {T : Nat} (h : LM τ P R fr T) (hf : p_fr fr T) {N : Nat} (hN : 247 < N) {t c : Nat} (ht : t + 1 < T) (hc : m_I τ 10 t = nI c) (h8 : ∀ k ∈ R, -1 ≤ (P k 8).toInt) (K : m_T → Option (Int32 × m_T)) : ∃ g g8, f_M_join_L22 N (nI t) K N 0 τ = K (m_e7 τ g g8) ∧ ∀ i k : Nat, R[i]? = some k → g8 i = (if k ∈ p_seg P R (fr (t + 1)) (fr (t + 2)) then p_jn c (P k 8) else P k 8) ∧ ∃ t' : Nat, t' < T ∧ fr t' ≤ P k 0 ∧ P k 0 < fr (t' + 1) ∧ g i = nI (if t' ≤ t then t' else t' - 1) := by
  have hL := h.2.1
  have hT8 := hf.2.1
  obtain ⟨s', e1, g, g8, rfl, e2⟩ := q_inv (fun n (s : m_T) i => f_M_join_L22 N (nI t) K n i s) K (fun j s => ∃ g g8, s = m_e7 τ g g8 ∧ ∀ i k : Nat, R[i]? = some k → g8 i = (if i < j ∧ k ∈ p_seg P R (fr (t + 1)) (fr (t + 2)) then p_jn c (P k 8) else P k 8) ∧ ∃ t' : Nat, t' < T ∧ fr t' ≤ P k 0 ∧ P k 0 < fr (t' + 1) ∧ g i = nI (if i < j ∧ t < t' then t' - 1 else t')) R.length
    (fun n s hI => by
      obtain ⟨g, g8, rfl, _⟩ := hI
      show f_M_join_L22 N _ K (n + 1) _ _ = _
      rw [f_M_join_L22, if_pos (show m_S (m_e7 τ g g8) 0 ≤ nI R.length from h.end)])
    (fun n s j hj hI => by
      obtain ⟨g, g8, rfl, hg⟩ := hI
      obtain ⟨k, hk⟩ : ∃ k, R[j]? = some k := ⟨_, List.getElem?_eq_getElem hj⟩
      obtain ⟨g1, g2, g3, g4⟩ := h.at hk
      have hkR := List.mem_of_getElem? hk
      obtain ⟨w8, t', ht', f1, f2, w7⟩ := hg j k hk
      rw [if_neg (fun q => absurd q.1 (by omega))] at w8
      rw [if_neg (fun q => absurd q.1 (by omega))] at w7
      have hmem : k ∈ p_seg P R (fr (t + 1)) (fr (t + 2)) ↔ t' = t + 1 := by
        rw [p_seg_mem hkR, Bool.and_eq_true, Bool.not_eq_true', decide_eq_true_eq, decide_eq_false_iff_not]
        constructor
        · intro q
          exact p_fr_one hf ht' ht f1 f2 (by rw [i_le]; have := q.2; rw [i_lt] at this; omega) q.1
        · intro q
          subst q
          exact ⟨f2, by rw [i_lt]; rw [i_le] at f1; omega⟩
      have r7 : m_I (m_e7 τ g g8) 7 j = nI t' := w7
      have r8 : m_I (m_e7 τ g g8) 8 j = P k 8 := w8
      have r10 : m_I (m_e7 τ g g8) 10 t = nI c := hc
      -- what the step comes to
      have step : ∃ x y, f_M_join_L22 N (nI t) K (n + 1) (nI j) (m_e7 τ g g8) = f_M_join_L22 N (nI t) K n (nI (j + 1)) (m_e7 τ (upd g j x) (upd g8 j y)) ∧ y = (if k ∈ p_seg P R (fr (t + 1)) (fr (t + 2)) then p_jn c (P k 8) else P k 8) ∧ x = nI (if t < t' then t' - 1 else t') := by
        have ug : ∀ x, x = g j → upd g j x = g := fun x hx => by
          funext i
          by_cases q : i = j
          · rw [q, upd_s]; exact hx
          · exact pk_un q
        have ug8 : ∀ x, x = g8 j → upd g8 j x = g8 := fun x hx => by
          funext i
          by_cases q : i = j
          · rw [q, upd_s]; exact hx
          · exact pk_un q
        rw [f_M_join_L22, if_neg (show ¬ m_S (m_e7 τ g g8) 0 ≤ nI j from g3)]
        simp only [q_gd_t g1, g2, r7, r8, q_gd_t (q_in_of (show t < 9 by omega) (show 9 < 2 ^ 31 by omega)), nI_cl (show t < 2 ^ 31 by omega), r10, ← nI_succ, q_let, m_e7_7, m_e7_8]
        by_cases c1 : t' = t + 1
        · subst c1
          have hlt : ¬ nI (t + 1) ≤ nI t := nI_ge (by omega) (by omega)
          rw [if_pos rfl]
          by_cases c2 : P k 8 < 0
          · rw [if_pos c2, if_neg hlt, nI_pred]
            have hm1 : P k 8 = -1 := by
              have := h8 k hkR
              rw [i_eq, i_m1]
              rw [i_lt, i_0] at c2
              omega
            refine ⟨nI t, P k 8, ?_, ?_, ?_⟩
            · rw [ug8 (P k 8) w8.symm]
            · rw [if_pos (hmem.mpr rfl)]
              unfold p_jn
              rw [if_pos hm1]
            · rw [if_pos (by omega)]
              rfl
          · rw [if_neg c2, show m_I (m_e7 τ g (upd g8 j (P k 8 + nI c))) 7 j = nI (t + 1) from w7, if_neg hlt, nI_pred]
            refine ⟨nI t, P k 8 + nI c, rfl, ?_, ?_⟩
            · rw [if_pos (hmem.mpr rfl)]
              unfold p_jn
              rw [if_neg (fun z => c2 (by rw [z]; decide))]
            · rw [if_pos (by omega)]
              rfl
        · rw [if_neg (show ¬ nI t' = nI (t + 1) by rw [nI_eq (by omega) (by omega)]; exact c1)]
          by_cases c2 : t < t'
          · rw [if_neg (nI_ge c2 (by omega))]
            refine ⟨nI (t' - 1), P k 8, ?_, ?_, ?_⟩
            · rw [ug8 (P k 8) w8.symm, show nI t' - 1 = nI (t' - 1) by conv => lhs; rw [show t' = (t' - 1) + 1 by omega]; rw [nI_pred]]
            · rw [if_neg (fun q => c1 (hmem.mp q))]
            · rw [if_pos c2]
          · rw [if_pos (nI_le (by omega) (by omega))]
            refine ⟨nI t', P k 8, ?_, ?_, ?_⟩
            · rw [ug8 (P k 8) w8.symm, ug (nI t') w7.symm]
            · rw [if_neg (fun q => c1 (hmem.mp q))]
            · rw [if_neg c2]
      obtain ⟨x, y, s1, s2, s3⟩ := step
      refine ⟨_, s1, _, _, rfl, fun i a ha => ?_⟩
      by_cases hij : i = j
      · subst hij
        obtain rfl : a = k := Option.some.inj (ha.symm.trans hk)
        rw [upd_s, upd_s, s2, s3]
        refine ⟨?_, t', ht', f1, f2, ?_⟩
        · by_cases q : a ∈ p_seg P R (fr (t + 1)) (fr (t + 2))
          · rw [if_pos q, if_pos ⟨by omega, q⟩]
          · rw [if_neg q, if_neg (fun z => q z.2)]
        · by_cases q : t < t'
          · rw [if_pos q, if_pos ⟨by omega, q⟩]
          · rw [if_neg q, if_neg (fun z => q z.2)]
      · rw [pk_un hij, pk_un hij]
        obtain ⟨v8, t2, ht2, u1, u2, v7⟩ := hg i a ha
        refine ⟨?_, t2, ht2, u1, u2, ?_⟩
        · rw [v8]
          by_cases q : i < j ∧ a ∈ p_seg P R (fr (t + 1)) (fr (t + 2))
          · rw [if_pos q, if_pos ⟨by omega, q.2⟩]
          · rw [if_neg q, if_neg (fun z => q ⟨by omega, z.2⟩)]
        · rw [v7]
          by_cases q : i < j ∧ t < t2
          · rw [if_pos q, if_pos ⟨by omega, q.2⟩]
          · rw [if_neg q, if_neg (fun z => q ⟨by omega, z.2⟩)])
    R.length 0 N τ (by omega) (by omega) ⟨m_I τ 7, m_I τ 8, m_e7_id.symm, fun i k hk => by
      obtain ⟨w1, w2, w3, w4, w5, w6, t', ht', w7, f1, f2⟩ := h.2.2 i k hk
      exact ⟨by rw [if_neg (fun q => absurd q.1 (by omega))]; exact w6, t', ht', f1, f2, by rw [if_neg (fun q => absurd q.1 (by omega))]; exact w7⟩⟩
  refine ⟨g, g8, by rw [nI_0] at e1; exact e1, fun i k hk => ?_⟩
  have hi : i < R.length := (List.getElem?_eq_some_iff.mp hk).1
  obtain ⟨w8, t', ht', f1, f2, w7⟩ := e2 i k hk
  refine ⟨?_, t', ht', f1, f2, ?_⟩
  · rw [w8]
    by_cases q : k ∈ p_seg P R (fr (t + 1)) (fr (t + 2))
    · rw [if_pos ⟨hi, q⟩, if_pos q]
    · rw [if_neg (fun z => q z.2), if_neg q]
  · rw [w7]
    congr 1
    by_cases q : t' ≤ t
    · rw [if_pos q, if_neg (by omega)]
    · rw [if_neg q, if_pos (by omega)]
