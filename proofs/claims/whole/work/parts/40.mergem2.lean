/-! The reference's merge: what stays moves together. -/
def m_e8 (τ : m_T) (A : Nat → Nat → Int32) : m_T := (τ.1, fun a => if 1 ≤ a ∧ a ≤ 8 then A a else τ.2 a)
theorem m_e8_id {τ : m_T} : m_e8 τ (m_I τ) = τ := by
  unfold m_e8
  refine Prod.ext rfl ?_
  funext a
  by_cases h : 1 ≤ a ∧ a ≤ 8
  · exact if_pos h
  · exact if_neg h
theorem m_e8_s8 {τ : m_T} {A : Nat → Nat → Int32} {q : Nat} {v : Int32} : m_sI (m_e8 τ A) 8 q v = m_e8 τ (va_up A 8 (upd (A 8) q v)) := by
  unfold m_sI m_e8
  refine Prod.ext rfl ?_
  funext a
  by_cases h : a = 8
  · subst h; rfl
  · simp only [va_up, h, if_false]
theorem e_move {τ : m_T} {A : Nat → Nat → Int32} {N i q : Nat} (hi : i < 256) (hq : q < 256) : f_M_move N (m_e8 τ A) (nI i) (nI q) = some (m_e8 τ (fun a => upd (A a) q (A a i))) := by
  unfold f_M_move
  simp only [q_gd_t (q_in_of hi (show 256 < 2 ^ 31 by omega)), q_gd_t (q_in_of hq (show 256 < 2 ^ 31 by omega)), nI_cl (show i < 2 ^ 31 by omega), nI_cl (show q < 2 ^ 31 by omega), q_let]
  congr 1
  refine Prod.ext rfl ?_
  funext a
  by_cases h1 : a = 1
  · subst h1; rfl
  by_cases h2 : a = 2
  · subst h2; rfl
  by_cases h3 : a = 3
  · subst h3; rfl
  by_cases h4 : a = 4
  · subst h4; rfl
  by_cases h5 : a = 5
  · subst h5; rfl
  by_cases h6 : a = 6
  · subst h6; rfl
  by_cases h7 : a = 7
  · subst h7; rfl
  by_cases h8 : a = 8
  · subst h8; rfl
  have hn : ¬ (1 ≤ a ∧ a ≤ 8) := by omega
  simp only [m_sI, m_e8, va_up, h1, h2, h3, h4, h5, h6, h7, h8, hn, if_false]
def m_row (A : Nat → Nat → Int32) (P : Nat → Nat → Int32) (fr : Nat → Int32) (T i k : Nat) (x b : Int32) : Prop := A 1 i = p_kind P k ∧ A 2 i = P k 0 ∧ A 3 i = P k 1 ∧ A 4 i = P k 3 ∧ A 5 i = P k 5 ∧ A 8 i = x ∧ (∃ t : Nat, t < T ∧ A 7 i = nI t ∧ fr t ≤ P k 0 ∧ P k 0 < fr (t + 1)) ∧ A 6 i = b
theorem e_gather8 {τ : m_T} {P : Nat → Nat → Int32} {R : List Nat} {fr : Nat → Int32} {T : Nat} (h : LM τ P R fr T) (hf : p_fr fr T) {N : Nat} (hN : 247 < N) {t : Nat} (ht : t < T) (u : Int32) {B : Nat → Int32} (hB : ∀ k ∈ R, ¬ B k = -2) {gone : Nat → Bool} (h6 : ∀ i k : Nat, R[i]? = some k → m_I τ 6 i = if gone k = true then -2 else B k) (K : Int32 → Int32 → m_T → Option (Int32 × m_T)) :
    ∃ A, f_M_merge_L160 N (nI t) u K N 0 0 0 τ = K (nI (R.filter (fun k => !gone k)).length) (nI ((R.filter (fun k => !gone k)).countP (p_ins P (p_seg P R (fr t) (fr (t + 1))) u))) (m_e8 τ A) ∧ ∀ i k : Nat, (R.filter (fun k => !gone k))[i]? = some k → m_row A P fr T i k (if p_ins P (p_seg P R (fr t) (fr (t + 1))) u k = true then u else P k 8) (B k) := by
  have hL := h.2.1
  generalize hcd : (fun k => !gone k) = cd
  obtain ⟨s', e1, A, e2, e3, e4⟩ := q_inv (fun n (s : Int32 × Int32 × m_T) i => f_M_merge_L160 N (nI t) u K n s.1 s.2.1 i s.2.2) (fun s => K s.1 s.2.1 s.2.2) (fun j s => ∃ A, s = (nI ((R.take j).filter cd).length, nI (((R.take j).filter cd).countP (p_ins P (p_seg P R (fr t) (fr (t + 1))) u)), m_e8 τ A) ∧ (∀ i k : Nat, ((R.take j).filter cd)[i]? = some k → m_row A P fr T i k (if p_ins P (p_seg P R (fr t) (fr (t + 1))) u k = true then u else P k 8) (B k)) ∧ ∀ i k : Nat, j ≤ i → R[i]? = some k → m_row A P fr T i k (P k 8) (if gone k = true then -2 else B k)) R.length
    (fun n s hI => by
      obtain ⟨A, rfl, _⟩ := hI
      show f_M_merge_L160 N _ u K (n + 1) _ _ _ _ = _
      rw [f_M_merge_L160, if_pos (show m_S (m_e8 τ A) 0 ≤ nI R.length from h.end)])
    (fun n s j hj hI => by
      obtain ⟨A, rfl, f1, f2⟩ := hI
      obtain ⟨k, hk⟩ : ∃ k, R[j]? = some k := ⟨_, List.getElem?_eq_getElem hj⟩
      obtain ⟨g1, g2, g3, g4⟩ := h.at hk
      have hkR := List.mem_of_getElem? hk
      have hrow := f2 j k (Nat.le_refl _) hk
      have hq : ((R.take j).filter cd).length ≤ j := Nat.le_trans (List.length_filter_le _ _) (by simp; omega)
      have hcdk : cd k = !gone k := by rw [← hcd]
      show ∃ s' : Int32 × Int32 × m_T, f_M_merge_L160 N _ u K (n + 1) _ _ _ _ = f_M_merge_L160 N _ u K n s'.1 s'.2.1 _ s'.2.2 ∧ _
      rw [f_M_merge_L160, if_neg (show ¬ m_S (m_e8 τ A) 0 ≤ nI j from g3), q_gd_t g1, show m_I (m_e8 τ A) 6 (nI j).toNatClampNeg = (if gone k = true then -2 else B k) by rw [g2]; exact hrow.2.2.2.2.2.2.2]
      by_cases c : gone k = true
      · rw [if_pos c, if_pos rfl, ← nI_succ]
        rw [c] at hcdk
        have etk : (R.take (j + 1)).filter cd = (R.take j).filter cd := by
          rw [take_s hk, List.filter_append, List.filter_cons_of_neg (by rw [hcdk]; decide)]
          simp
        refine ⟨(nI ((R.take j).filter cd).length, nI (((R.take j).filter cd).countP (p_ins P (p_seg P R (fr t) (fr (t + 1))) u)), m_e8 τ A), rfl, A, by rw [etk], by rw [etk]; exact f1, fun i a hi ha => f2 i a (by omega) ha⟩
      · have cf : gone k = false := by
          cases q : gone k with
          | false => rfl
          | true => exact absurd q c
        rw [cf] at hcdk
        have etk : (R.take (j + 1)).filter cd = (R.take j).filter cd ++ [k] := by
          rw [take_s hk, List.filter_append, List.filter_cons_of_pos hcdk]
          rfl
        rw [if_neg c, if_neg (hB k hkR)]
        refine Exists.imp (fun s' (hs' : _ ∧ _) => ⟨Eq.trans (by rw [show f_M_move N (nI ((R.take j).filter cd).length, nI (((R.take j).filter cd).countP (p_ins P (p_seg P R (fr t) (fr (t + 1))) u)), m_e8 τ A).2.2 (nI j) (nI ((R.take j).filter cd).length, nI (((R.take j).filter cd).countP (p_ins P (p_seg P R (fr t) (fr (t + 1))) u)), m_e8 τ A).1 = _ from e_move (by omega) (by omega), Option.bind_some]) hs'.1, hs'.2⟩) ?_
        generalize hA1 : (fun a => upd (A a) ((R.take j).filter cd).length (A a j)) = A1
        have r1 : ∀ a, A1 a ((R.take j).filter cd).length = A a j := fun a => by rw [← hA1]; exact pk_us
        have r2 : ∀ a i, i ≠ ((R.take j).filter cd).length → A1 a i = A a i := fun a i hne => by rw [← hA1]; exact pk_un hne
        have row1 : m_row A1 P fr T ((R.take j).filter cd).length k (P k 8) (B k) := by
          unfold m_row
          rw [r1, r1, r1, r1, r1, r1, r1, r1]
          rw [if_neg c] at hrow
          exact hrow
        have rowi : ∀ i a x b, i ≠ ((R.take j).filter cd).length → m_row A P fr T i a x b → m_row A1 P fr T i a x b := fun i a x b hne hr => by
          unfold m_row
          rw [r2 _ _ hne, r2 _ _ hne, r2 _ _ hne, r2 _ _ hne, r2 _ _ hne, r2 _ _ hne, r2 _ _ hne, r2 _ _ hne]
          exact hr
        have hin : f_M_isIn N (m_e8 τ A1) (nI ((R.take j).filter cd).length) (nI t) u = some (if p_ins P (p_seg P R (fr t) (fr (t + 1))) u k = true then 1 else 0) := by
          have hm := p_seg_mem (P := P) (lo := fr t) (hi := fr (t + 1)) hkR
          have ht2 := m_tab hf row1.2.2.2.2.2.2.1 ht
          have q1 : q_in (nI ((R.take j).filter cd).length) 256 = true := q_in_of (by omega) (by omega)
          unfold f_M_isIn p_ins
          rw [q_gd_t q1, q_gd_t q1, nI_cl (by omega), show m_I (m_e8 τ A1) 8 ((R.take j).filter cd).length = P k 8 from row1.2.2.2.2.2.1, show m_I (m_e8 τ A1) 7 ((R.take j).filter cd).length = A1 7 ((R.take j).filter cd).length from rfl]
          by_cases c1 : A1 7 ((R.take j).filter cd).length = nI t
          · rw [if_pos c1, decide_eq_true (hm.mpr (ht2.mp c1)), Bool.true_and]
            by_cases c2 : P k 8 < u
            · rw [if_pos c2, decide_eq_true c2]; rfl
            · rw [if_neg c2, decide_eq_false c2]; rfl
          · rw [if_neg c1, decide_eq_false (fun q => c1 (ht2.mpr (hm.mp q)))]; rfl
        show ∃ s' : Int32 × Int32 × m_T, (f_M_isIn N (m_e8 τ A1) (nI ((R.take j).filter cd).length) (nI t) u).bind (fun r67 => (if (r67 : Int32) = (0 : Int32) then f_M_merge_L160 N (nI t) u K n (nI ((R.take j).filter cd).length + 1) (nI (((R.take j).filter cd).countP (p_ins P (p_seg P R (fr t) (fr (t + 1))) u))) (nI j + 1) (m_e8 τ A1) else q_gd (q_in (nI ((R.take j).filter cd).length) 256) <| q_let (m_sI (m_e8 τ A1) 8 ((nI ((R.take j).filter cd).length : Int32).toNatClampNeg) u) fun s69 => f_M_merge_L160 N (nI t) u K n (nI ((R.take j).filter cd).length + 1) (nI (((R.take j).filter cd).countP (p_ins P (p_seg P R (fr t) (fr (t + 1))) u)) + 1) (nI j + 1) s69)) = f_M_merge_L160 N (nI t) u K n s'.1 s'.2.1 (nI (j + 1)) s'.2.2 ∧ _
        rw [hin, Option.bind_some, nI_cl (by omega), q_gd_t (q_in_of (show ((R.take j).filter cd).length < 256 by omega) (by omega)), ← nI_succ, ← nI_succ, ← nI_succ]
        unfold q_let
        rw [m_e8_s8, etk, List.length_append, List.length_singleton, List.countP_append]
        cases ci : p_ins P (p_seg P R (fr t) (fr (t + 1))) u k with
        | false =>
          rw [if_pos (show (if false = true then (1 : Int32) else 0) = 0 by decide)]
          refine ⟨(_, _, _), rfl, A1, ?_, fun i a ha => ?_, fun i a hi ha => rowi i a _ _ (by omega) (f2 i a (by omega) ha)⟩
          · rw [show List.countP (p_ins P (p_seg P R (fr t) (fr (t + 1))) u) [k] = 0 by rw [List.countP_cons, ci]; rfl]
            rfl
          · by_cases hi : i = ((R.take j).filter cd).length
            · subst hi
              rw [List.getElem?_append_right (Nat.le_refl _), Nat.sub_self] at ha
              obtain rfl : k = a := Option.some.inj ha
              rw [ci, if_neg (by decide)]
              exact row1
            · have hl : i < ((R.take j).filter cd).length := by
                have := (List.getElem?_eq_some_iff.mp ha).1
                rw [List.length_append, List.length_singleton] at this
                omega
              rw [List.getElem?_append_left hl] at ha
              exact rowi i a _ _ hi (f1 i a ha)
        | true =>
          rw [if_neg (show ¬ (if true = true then (1 : Int32) else 0) = 0 by decide)]
          have rowi2 : ∀ i a x b, i ≠ ((R.take j).filter cd).length → m_row A1 P fr T i a x b → m_row (va_up A1 8 (upd (A1 8) ((R.take j).filter cd).length u)) P fr T i a x b := fun i a x b hne hr => by
            obtain ⟨w1, w2, w3, w4, w5, w6, w7, w8⟩ := hr
            exact ⟨w1, w2, w3, w4, w5, (pk_un hne).trans w6, w7, w8⟩
          refine ⟨(_, _, _), rfl, va_up A1 8 (upd (A1 8) ((R.take j).filter cd).length u), ?_, fun i a ha => ?_, fun i a hi ha => rowi2 i a _ _ (by omega) (rowi i a _ _ (by omega) (f2 i a (by omega) ha))⟩
          · rw [show List.countP (p_ins P (p_seg P R (fr t) (fr (t + 1))) u) [k] = 1 by rw [List.countP_cons, ci]; rfl]
            rfl
          · by_cases hi : i = ((R.take j).filter cd).length
            · subst hi
              rw [List.getElem?_append_right (Nat.le_refl _), Nat.sub_self] at ha
              obtain rfl : k = a := Option.some.inj ha
              rw [ci, if_pos rfl]
              obtain ⟨w1, w2, w3, w4, w5, w6, w7, w8⟩ := row1
              exact ⟨w1, w2, w3, w4, w5, pk_us, w7, w8⟩
            · have hl : i < ((R.take j).filter cd).length := by
                have := (List.getElem?_eq_some_iff.mp ha).1
                rw [List.length_append, List.length_singleton] at this
                omega
              rw [List.getElem?_append_left hl] at ha
              exact rowi2 i a _ _ hi (rowi i a _ _ hi (f1 i a ha)))
    R.length 0 N (nI 0, nI 0, τ) (by omega) (by omega) ⟨m_I τ, by rw [m_e8_id]; rfl, fun i k hk => by simp at hk, fun i k _ hk => by
      obtain ⟨w1, w2, w3, w4, w5, w6, w7⟩ := h.2.2 i k hk
      exact ⟨w1, w2, w3, w4, w5, w6, w7, h6 i k hk⟩⟩
  rw [List.take_length] at e2 e3
  refine ⟨A, ?_, e3⟩
  rw [e2, nI_0] at e1
  exact e1
theorem e_mergeM {τ : m_T} {P : Nat → Nat → Int32} {R : List Nat} {fr : Nat → Int32} {T : Nat} (h : LM τ P R fr T) (hf : p_fr fr T) {N : Nat} (hN : 247 < N) {t : Nat} (ht : t < T) (f : Nat) (u3 : Int32) {B : Nat → Int32} (hB : ∀ k ∈ R, ¬ B k = -2) (hB6 : ∀ i k : Nat, R[i]? = some k → m_I τ 6 i = B k) {gone : Nat → Bool}
    (hmark : ∀ K : m_T → Option (Int32 × m_T), ∃ g, f_M_merge_L3 N (nI t) (nI f) u3 K N 0 τ = K (m_wI τ 6 g) ∧ ∀ i k : Nat, R[i]? = some k → g i = if gone k = true then -2 else m_I τ 6 i) :
    ∃ A, f_M_merge N τ (nI t) (nI f) u3 = some (nI ((R.filter (fun k => !gone k)).countP (p_ins P (p_seg P R (fr t) (fr (t + 1))) (nI f))), m_sI (m_sS (m_e8 τ A) 0 (nI (R.filter (fun k => !gone k)).length)) 10 t (nI (if (R.filter (fun k => !gone k)).countP (p_ins P (p_seg P R (fr t) (fr (t + 1))) (nI f)) = 0 then f else f + 1))) ∧ ∀ i k : Nat, (R.filter (fun k => !gone k))[i]? = some k → m_row A P fr T i k (if p_ins P (p_seg P R (fr t) (fr (t + 1))) (nI f) k = true then nI f else P k 8) (B k) := by
  have hL := h.2.1
  have hT8 := hf.2.1
  unfold f_M_merge
  obtain ⟨g, m1, m2⟩ := hmark (fun t62 => f_M_merge_L160 N (nI t) (nI f) (fun v4 v5 t70 => q_let (m_sS t70 0 v4) fun s71 => (if (v5 : Int32) ≤ (0 : Int32) then q_gd (q_in (nI t) 9) <| q_let (m_sI s71 10 ((nI t : Int32).toNatClampNeg) (nI f)) fun s73 => some (v5, s73) else q_gd (q_in (nI t) 9) <| q_let (m_sI s71 10 ((nI t : Int32).toNatClampNeg) (nI f + 1)) fun s75 => some (v5, s75))) N 0 0 0 t62)
  obtain ⟨A, g1, g2⟩ := e_gather8 (τ := m_wI τ 6 g) (P := P) (R := R) (fr := fr) (T := T) h hf hN ht (nI f) hB (gone := gone) (fun i k hk => by
    show g i = _
    rw [m2 i k hk, hB6 i k hk]) (fun v4 v5 t70 => q_let (m_sS t70 0 v4) fun s71 => (if (v5 : Int32) ≤ (0 : Int32) then q_gd (q_in (nI t) 9) <| q_let (m_sI s71 10 ((nI t : Int32).toNatClampNeg) (nI f)) fun s73 => some (v5, s73) else q_gd (q_in (nI t) 9) <| q_let (m_sI s71 10 ((nI t : Int32).toNatClampNeg) (nI f + 1)) fun s75 => some (v5, s75)))
  refine ⟨A, ?_, g2⟩
  rw [m1]
  refine Eq.trans g1 ?_
  have hw : m_e8 (m_wI τ 6 g) A = m_e8 τ A := by
    unfold m_e8 m_wI
    refine Prod.ext rfl ?_
    funext a
    by_cases q : 1 ≤ a ∧ a ≤ 8
    · exact (if_pos q).trans (if_pos q).symm
    · refine (if_neg q).trans (Eq.trans ?_ (if_neg q).symm)
      exact if_neg (fun z => q (by omega))
  have hle : (R.filter (fun k => !gone k)).countP (p_ins P (p_seg P R (fr t) (fr (t + 1))) (nI f)) ≤ 247 := Nat.le_trans List.countP_le_length (Nat.le_trans (List.length_filter_le _ _) hL)
  rw [hw]
  simp only [q_let, q_gd_t (q_in_of (show t < 9 by omega) (show 9 < 2 ^ 31 by omega)), nI_cl (show t < 2 ^ 31 by omega)]
  generalize (R.filter (fun k => !gone k)).countP (p_ins P (p_seg P R (fr t) (fr (t + 1))) (nI f)) = m at hle ⊢
  by_cases hm : m = 0
  · subst hm
    rw [if_pos (show nI 0 ≤ 0 by decide), if_pos rfl]
  · rw [if_neg (nI_nle (by omega) (by omega)), if_neg hm, nI_succ]
