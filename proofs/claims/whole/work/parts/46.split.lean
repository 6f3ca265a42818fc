/-! split. -/
def r_U (σ : x_T) (τ : m_T) (L R : List Nat) (T : Nat) (tc : Nat → Nat) (ok : Nat → Prop) : Prop := x_S σ 7 = nI T ∧ m_S τ 9 = nI T ∧ p_fr (x_I σ 4) T ∧ (∀ t : Nat, t < T → m_I τ 9 t = x_I σ 4 t) ∧ LM τ (x_P σ) R (x_I σ 4) T ∧ ∀ t : Nat, t < T → m_I τ 10 t = nI (tc t) ∧ tc t ≤ 247 ∧ (∀ k ∈ x_sg σ L t, -1 ≤ (x_P σ k 8).toInt ∧ (x_P σ k 8).toInt < tc t) ∧ (ok t → p_tc (x_P σ) (x_sg σ L t) (tc t))
theorem r_close {j s T t : Nat} {σ : x_T} {τ : m_T} {L R : List Nat} {tc : Nat → Nat} {B : Nat → Int32} {ok : Nat → Prop} (hL : r_L j σ L R s) (hU : r_U σ τ L R T tc ok) (hC : r_C σ τ L R B) (ht : t < T) : ∃ (φ : Int32 → Int32) (g : Nat → Int32) (v : Int32) (tc' : Nat → Nat), f_T_closeGaps 1000 σ (nI t) = some (x_wP σ (p_map (x_P σ) (x_sg σ L t) φ)) ∧ f_M_close 1000 τ (nI t) = some (m_sI (m_wI τ 8 g) 10 t v) ∧ r_L j (x_wP σ (p_map (x_P σ) (x_sg σ L t) φ)) L R s ∧ r_U (x_wP σ (p_map (x_P σ) (x_sg σ L t) φ)) (m_sI (m_wI τ 8 g) 10 t v) L R T tc' (fun i => i = t ∨ ok i) ∧ r_C (x_wP σ (p_map (x_P σ) (x_sg σ L t) φ)) (m_sI (m_wI τ 8 g) 10 t v) L R B := by
  obtain ⟨u1, u2, hf, u4, hLM, u6⟩ := hU
  have hT8 := hf.2.1
  have hp := hL.2.1
  obtain ⟨c1, c2, c3, c4⟩ := u6 t ht
  have hmem : ∀ k, k ∈ p_seg (x_P σ) R (x_I σ 4 t) (x_I σ 4 (t + 1)) ↔ k ∈ x_sg σ L t := fun k => (List.Perm.mem_iff (seg_perm hp _ _)).symm
  have hv : ∀ k ∈ x_sg σ L t, q_tv (x_P σ k 8) (tc t) := fun k hk => q_tv_of (by omega) (c3 k hk).1 (c3 k hk).2
  have x1 := e_gapsX hL.1 hL.2.2.1 hL.rows (N := 1000) (by omega) (show t < 8 by omega) (hf.le ht) c2 c3
  obtain ⟨g, x2, x3⟩ := e_close hLM hf (N := 1000) (by omega) ht c1 c2 hmem hv
  have hle := q_ne_le (emp := q_emp (x_P σ) (x_sg σ L t)) (m := 0) (x := tc t)
  have hval : ∀ k ∈ x_sg σ L t, (x_P σ k 8 = -1 ∧ q_psi (q_emp (x_P σ) (x_sg σ L t)) 0 (x_P σ k 8) = -1) ∨ ∃ x, x < tc t ∧ x_P σ k 8 = nI x ∧ q_psi (q_emp (x_P σ) (x_sg σ L t)) 0 (x_P σ k 8) = nI (q_ne (q_emp (x_P σ) (x_sg σ L t)) 0 x) := fun k hk => by
    rcases hv k hk with q | ⟨x, hx, q⟩
    · exact Or.inl ⟨q, by rw [q]; exact q_psi_neg (by decide)⟩
    · refine Or.inr ⟨x, hx, q, ?_⟩
      rw [q, q_psi_n (by omega)]
      by_cases z : x ≤ 0
      · obtain rfl : x = 0 := by omega
        rfl
      · rw [if_neg z, Nat.zero_add]
  have hptc : p_tc (p_map (x_P σ) (x_sg σ L t) (q_psi (q_emp (x_P σ) (x_sg σ L t)) 0)) (x_sg σ L t) (q_ne (q_emp (x_P σ) (x_sg σ L t)) 0 (tc t)) := by
    refine ⟨fun k hk => ?_, fun i hi => ?_⟩
    · rw [p_map_in hk]
      rcases hval k hk with ⟨q, e⟩ | ⟨x, hx, q, e⟩
      · rw [e, i_m1]; omega
      · have := q_ne_lt hx (q_emp_f.mpr ⟨k, hk, q⟩)
        rw [e, nI_toInt (by omega)]
        omega
    · obtain ⟨x, hx, he, e⟩ := q_ne_ex hi
      obtain ⟨k, hk, q⟩ := q_emp_f.mp he
      refine ⟨k, hk, ?_⟩
      rw [p_map_in hk]
      rcases hval k hk with ⟨q', _⟩ | ⟨y, hy, q', e'⟩
      · rw [q'] at q
        exact absurd q.symm (nI_m1 (by omega))
      · rw [q', nI_eq (by omega) (by omega)] at q
        subst q
        rw [e', e]
  refine ⟨q_psi (q_emp (x_P σ) (x_sg σ L t)) 0, g, _, fun i => if i = t then q_ne (q_emp (x_P σ) (x_sg σ L t)) 0 (tc t) else tc i, x1, x2, hL, ⟨u1, u2, hf, u4, ⟨hLM.1, hLM.2.1, fun i k hk => ?_⟩, fun i hi => ?_⟩, ⟨hC.1, hC.2.1, hC.2.2.1, hC.2.2.2.map (fun _ => rfl) (fun _ => rfl) (fun _ => rfl) (fun k hk => ?_)⟩⟩
  · obtain ⟨w1, w2, w3, w4, w5, w6, w7⟩ := hLM.2.2 i k hk
    exact ⟨w1, w2, w3, w4, w5, x3 i k hk, w7⟩
  · show upd (m_I τ 10) t _ i = nI (if i = t then _ else tc i) ∧ (if i = t then _ else tc i) ≤ 247 ∧ (∀ k ∈ x_sg σ L i, -1 ≤ (p_map (x_P σ) (x_sg σ L t) (q_psi (q_emp (x_P σ) (x_sg σ L t)) 0) k 8).toInt ∧ (p_map (x_P σ) (x_sg σ L t) (q_psi (q_emp (x_P σ) (x_sg σ L t)) 0) k 8).toInt < ((if i = t then q_ne (q_emp (x_P σ) (x_sg σ L t)) 0 (tc t) else tc i : Nat) : Int)) ∧ (i = t ∨ ok i → p_tc (p_map (x_P σ) (x_sg σ L t) (q_psi (q_emp (x_P σ) (x_sg σ L t)) 0)) (x_sg σ L i) (if i = t then _ else tc i))
    by_cases e : i = t
    · subst e
      rw [upd_s, if_pos rfl]
      exact ⟨rfl, by omega, hptc.1, fun _ => hptc⟩
    · rw [pk_un e, if_neg e]
      obtain ⟨b1, b2, b3, b4⟩ := u6 i hi
      have ho : ∀ k, k ∈ x_sg σ L i → k ∉ x_sg σ L t := fun k q z => e (x_sg_one hf hi ht q z)
      refine ⟨b1, b2, fun k hk => ?_, fun q => ?_⟩
      · rw [p_map_out (ho k hk)]
        exact b3 k hk
      · exact (b4 (q.resolve_left e)).congr (fun k hk => p_map_out (ho k hk))
  · show p_map (x_P σ) (x_sg σ L t) (q_psi (q_emp (x_P σ) (x_sg σ L t)) 0) k 8 = -1 ↔ _
    by_cases q : k ∈ x_sg σ L t
    · rw [p_map_in q]
      rcases hval k q with ⟨z, e⟩ | ⟨x, hx, z, e⟩
      · rw [e, z]
      · have := q_ne_le (emp := q_emp (x_P σ) (x_sg σ L t)) (m := 0) (x := x)
        rw [e, z]
        exact ⟨fun w => absurd w (nI_m1 (by omega)), fun w => absurd w (nI_m1 (by omega))⟩
    · rw [p_map_out q]
def p_frs (fr : Nat → Int32) (m T : Nat) : Nat → Int32 := fun i => if m + 1 < i ∧ i ≤ T + 1 then fr (i - 1) else fr i
theorem e_splitR {σ : x_T} {T t : Nat} (hT : T < 8) (N : Nat) (a2 : Int32) (K : x_T → Option (Int32 × x_T)) : ∀ (d m n : Nat), m = t + d → m ≤ T → d < n → f_T_split_L48 N (nI t) a2 K n (nI m) (x_eI σ 4 (p_frs (x_I σ 4) m T)) = K (x_eI σ 4 (p_frs (x_I σ 4) t T)) := by
  intro d
  induction d with
  | zero =>
    intro m n hm hmT hn
    obtain ⟨n, rfl⟩ : ∃ a, n = a + 1 := ⟨n - 1, by omega⟩
    obtain rfl : m = t := by omega
    rw [f_T_split_L48, if_pos (nI_le (Nat.le_refl _) (by omega))]
  | succ d ih =>
    intro m n hm hmT hn
    obtain ⟨n, rfl⟩ : ∃ a, n = a + 1 := ⟨n - 1, by omega⟩
    obtain ⟨m, rfl⟩ : ∃ a, m = a + 1 := ⟨m - 1, by omega⟩
    have e := ih m n (by omega) (by omega) (by omega)
    rw [f_T_split_L48, if_neg (nI_ge (by omega) (by omega)), q_gd_t (q_in_of (show m + 1 < 9 by omega) (by omega)), ← nI_succ, q_gd_t (q_in_of (show m + 1 + 1 < 9 by omega) (by omega)), nI_cl (by omega), nI_cl (by omega), nI_dec, nI_pred]
    unfold q_let
    rw [x_eI_s]
    have hg : upd (p_frs (x_I σ 4) (m + 1) T) (m + 1 + 1) (x_I (x_eI σ 4 (p_frs (x_I σ 4) (m + 1) T)) 4 (m + 1)) = p_frs (x_I σ 4) m T := by
      funext i
      show upd (p_frs (x_I σ 4) (m + 1) T) (m + 1 + 1) (p_frs (x_I σ 4) (m + 1) T (m + 1)) i = _
      by_cases hi : i = m + 1 + 1
      · subst hi
        rw [upd_s]
        unfold p_frs
        rw [if_neg (by omega), if_pos (by omega)]
        congr 1
      · rw [pk_un hi]
        unfold p_frs
        by_cases q : m + 1 + 1 < i ∧ i ≤ T + 1
        · rw [if_pos q, if_pos (by omega)]
        · rw [if_neg q, if_neg (by omega)]
    rw [hg]
    exact e
def p_ms (f : Nat → Int32) (m T : Nat) : Nat → Int32 := fun i => if m < i ∧ i ≤ T then f (i - 1) else f i
theorem e_splitRM {τ : m_T} {T t : Nat} (hT : T < 8) (N : Nat) (a2 : Int32) (K : m_T → Option (Int32 × m_T)) : ∀ (d m n : Nat), m = t + 1 + d → m ≤ T → d < n → f_M_split_L101 N (nI t) a2 K n (nI m) (m_e9 τ (p_ms (m_I τ 9) m T) (p_ms (m_I τ 10) m T)) = K (m_e9 τ (p_ms (m_I τ 9) (t + 1) T) (p_ms (m_I τ 10) (t + 1) T)) := by
  intro d
  induction d with
  | zero =>
    intro m n hm hmT hn
    obtain ⟨n, rfl⟩ : ∃ a, n = a + 1 := ⟨n - 1, by omega⟩
    obtain rfl : m = t + 1 := by omega
    rw [f_M_split_L101, ← nI_succ, if_pos (nI_le (Nat.le_refl _) (by omega))]
  | succ d ih =>
    intro m n hm hmT hn
    obtain ⟨n, rfl⟩ : ∃ a, n = a + 1 := ⟨n - 1, by omega⟩
    obtain ⟨m, rfl⟩ : ∃ a, m = a + 1 := ⟨m - 1, by omega⟩
    have e := ih m n (by omega) (by omega) (by omega)
    have e10 : ∀ x, m_I (m_sI (m_e9 τ (p_ms (m_I τ 9) (m + 1) T) (p_ms (m_I τ 10) (m + 1) T)) 9 (m + 1) x) 10 m = p_ms (m_I τ 10) (m + 1) T m := fun _ => rfl
    have e9 : m_I (m_e9 τ (p_ms (m_I τ 9) (m + 1) T) (p_ms (m_I τ 10) (m + 1) T)) 9 m = p_ms (m_I τ 9) (m + 1) T m := rfl
    rw [f_M_split_L101, ← nI_succ, if_neg (nI_ge (by omega) (by omega)), nI_dec, nI_pred]
    simp only [q_gd_t (q_in_of (show m < 9 by omega) (show 9 < 2 ^ 31 by omega)), q_gd_t (q_in_of (show m + 1 < 9 by omega) (show 9 < 2 ^ 31 by omega)), nI_cl (show m < 2 ^ 31 by omega), nI_cl (show m + 1 < 2 ^ 31 by omega), q_let, e9, e10, m_e9_s]
    have hg : ∀ f : Nat → Int32, upd (p_ms f (m + 1) T) (m + 1) (p_ms f (m + 1) T m) = p_ms f m T := fun f => by
      funext i
      by_cases hi : i = m + 1
      · subst hi
        rw [upd_s]
        unfold p_ms
        rw [if_neg (by omega), if_pos (by omega)]
        congr 1
      · rw [pk_un hi]
        unfold p_ms
        by_cases q : m + 1 < i ∧ i ≤ T
        · rw [if_pos q, if_pos (by omega)]
        · rw [if_neg q, if_neg (by omega)]
    rw [hg, hg]
    exact e
theorem e_splitM {τ : m_T} {P : Nat → Nat → Int32} {R : List Nat} {fr : Nat → Int32} {T : Nat} (h : LM τ P R fr T) (hf : p_fr fr T) {N : Nat} (hN : 247 < N) {t : Nat} (ht : t < T) (a2 : Int32) (K : m_T → Option (Int32 × m_T)) : ∃ g, f_M_split_L42 N (nI t) a2 K N 0 τ = K (m_wI τ 7 g) ∧ ∀ i k : Nat, R[i]? = some k → ∃ t' : Nat, t' < T ∧ fr t' ≤ P k 0 ∧ P k 0 < fr (t' + 1) ∧ g i = nI (if t < t' ∨ (t' = t ∧ ¬ P k 0 < a2) then t' + 1 else t') := by
  have hL := h.2.1
  have hT8 := hf.2.1
  obtain ⟨s', e1, g, rfl, e2⟩ := q_inv (fun n (s : m_T) i => f_M_split_L42 N (nI t) a2 K n i s) K (fun j s => ∃ g, s = m_wI τ 7 g ∧ ∀ i k : Nat, R[i]? = some k → ∃ t' : Nat, t' < T ∧ fr t' ≤ P k 0 ∧ P k 0 < fr (t' + 1) ∧ g i = nI (if i < j ∧ (t < t' ∨ (t' = t ∧ ¬ P k 0 < a2)) then t' + 1 else t')) R.length
    (fun n s hI => by
      obtain ⟨g, rfl, _⟩ := hI
      show f_M_split_L42 N _ a2 K (n + 1) _ _ = _
      rw [f_M_split_L42, if_pos (show m_S (m_wI τ 7 g) 0 ≤ nI R.length from h.end)])
    (fun n s j hj hI => by
      obtain ⟨g, rfl, hg⟩ := hI
      obtain ⟨k, hk⟩ : ∃ k, R[j]? = some k := ⟨_, List.getElem?_eq_getElem hj⟩
      obtain ⟨g1, g2, g3, g4⟩ := h.at hk
      obtain ⟨t', ht', f1, f2, w7⟩ := hg j k hk
      rw [if_neg (fun q => absurd q.1 (by omega))] at w7
      have r7 : m_I (m_wI τ 7 g) 7 j = nI t' := w7
      have r2 : m_I (m_wI τ 7 g) 2 j = P k 0 := (h.2.2 j k hk).2.1
      have ug : ∀ x, x = g j → upd g j x = g := fun x hx => by
        funext i
        by_cases q : i = j
        · rw [q, upd_s]; exact hx
        · exact pk_un q
      have step : f_M_split_L42 N (nI t) a2 K (n + 1) (nI j) (m_wI τ 7 g) = f_M_split_L42 N (nI t) a2 K n (nI (j + 1)) (m_wI τ 7 (upd g j (nI (if t < t' ∨ (t' = t ∧ ¬ P k 0 < a2) then t' + 1 else t')))) := by
        rw [f_M_split_L42, if_neg (show ¬ m_S (m_wI τ 7 g) 0 ≤ nI j from g3)]
        simp only [q_gd_t g1, g2, r7, r2, q_let, m_wI_s, ← nI_succ]
        by_cases c1 : t < t'
        · rw [if_pos (nI_lt c1 (by omega)), if_pos (Or.inl c1)]
        · rw [if_neg (nI_nlt (by omega) (by omega))]
          by_cases c2 : t' = t
          · rw [if_pos (by rw [c2])]
            by_cases c3 : P k 0 < a2
            · rw [if_pos c3, if_neg (fun q => q.elim c1 (fun z => z.2 c3)), ug _ w7.symm]
            · rw [if_neg c3, if_pos (Or.inr ⟨c2, c3⟩)]
          · rw [if_neg (by rw [nI_eq (by omega) (by omega)]; exact c2), if_neg (fun q => q.elim c1 (fun z => c2 z.1)), ug _ w7.symm]
      refine ⟨_, step, _, rfl, fun i a ha => ?_⟩
      by_cases hij : i = j
      · subst hij
        obtain rfl : a = k := Option.some.inj (ha.symm.trans hk)
        refine ⟨t', ht', f1, f2, ?_⟩
        rw [upd_s]
        by_cases q : t < t' ∨ (t' = t ∧ ¬ P a 0 < a2)
        · rw [if_pos q, if_pos ⟨by omega, q⟩]
        · rw [if_neg q, if_neg (fun z => q z.2)]
      · obtain ⟨t2, ht2, v1, v2, v7⟩ := hg i a ha
        refine ⟨t2, ht2, v1, v2, ?_⟩
        rw [pk_un hij, v7]
        by_cases q : i < j ∧ (t < t2 ∨ (t2 = t ∧ ¬ P a 0 < a2))
        · rw [if_pos q, if_pos ⟨by omega, q.2⟩]
        · rw [if_neg q, if_neg (fun z => q ⟨by omega, z.2⟩)])
    R.length 0 N τ (by omega) (by omega) ⟨m_I τ 7, m_wI_id.symm, fun i k hk => by
      obtain ⟨w1, w2, w3, w4, w5, w6, t', ht', w7, f1, f2⟩ := h.2.2 i k hk
      exact ⟨t', ht', f1, f2, by rw [if_neg (fun q => absurd q.1 (by omega))]; exact w7⟩⟩
  refine ⟨g, by rw [nI_0] at e1; exact e1, fun i k hk => ?_⟩
  have hi : i < R.length := (List.getElem?_eq_some_iff.mp hk).1
  obtain ⟨t', ht', f1, f2, w7⟩ := e2 i k hk
  refine ⟨t', ht', f1, f2, ?_⟩
  rw [w7]
  by_cases q : t < t' ∨ (t' = t ∧ ¬ P k 0 < a2)
  · rw [if_pos ⟨hi, q⟩, if_pos q]
  · rw [if_neg (fun z => q z.2), if_neg q]
