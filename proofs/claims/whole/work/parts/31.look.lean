/-! Looking: which tablet a row is in, and the blocks of its tables. -/
theorem e_tabletOf {σ : x_T} {T : Nat} (h7 : x_S σ 7 = nI T) (hf : p_fr (x_I σ 4) T) {N : Nat} (hN : 8 < N) {r : Int32} {t : Nat} (ht : t < T) (h1 : x_I σ 4 t ≤ r) (h2 : r < x_I σ 4 (t + 1)) : f_T_tabletOf N σ r = some (nI t) := by
  have hT := hf.2.1
  have h : ∀ (d a n : Nat), a + d = t → d < n → f_T_tabletOf_L2 N σ r (fun v2 => some v2) n (nI a) = some (nI t) := by
    intro d
    induction d with
    | zero =>
      intro a n ha hn
      obtain ⟨n, rfl⟩ : ∃ m, n = m + 1 := ⟨n - 1, by omega⟩
      obtain rfl : a = t := by omega
      rw [f_T_tabletOf_L2, ← nI_succ, h7]
      by_cases q : nI T ≤ nI (a + 1)
      · rw [if_pos q]
      · rw [if_neg q, q_gd_t (q_in_of (by omega) (by omega)), nI_cl (by omega), if_pos h2]
    | succ d ih =>
      intro a n ha hn
      obtain ⟨n, rfl⟩ : ∃ m, n = m + 1 := ⟨n - 1, by omega⟩
      rw [f_T_tabletOf_L2, ← nI_succ, h7, if_neg (nI_ge (by omega) (by omega)), q_gd_t (q_in_of (by omega) (by omega)), nI_cl (by omega), if_neg]
      · exact ih (a + 1) n (by omega) (by omega)
      · have h3 := p_fr_mono hf (show a + 1 ≤ t by omega) (by omega)
        rw [i_lt]
        rw [i_le] at h1 h3
        omega
  exact h t 0 N (by omega) (by omega)
theorem e_tabletWith {τ : m_T} {fr : Nat → Int32} {T : Nat} (h9 : m_S τ 9 = nI T) (hf : p_fr fr T) (hfr : ∀ t : Nat, t < T → m_I τ 9 t = fr t) {N : Nat} (hN : 8 < N) {r : Int32} {t : Nat} (ht : t < T) (h1 : fr t ≤ r) (h2 : r < fr (t + 1)) : f_M_tabletWith N τ r = some (nI t) := by
  have hT := hf.2.1
  obtain ⟨s', e, hI⟩ := q_inv (fun n (v : Int32) i => f_M_tabletWith_L4 N τ r (fun v2 => some v2) n v i) (fun v => some v) (fun a v => v = nI (if a ≤ t then a - 1 else t)) T
    (fun n v _ => by show f_M_tabletWith_L4 N τ r _ (n + 1) v _ = _; rw [f_M_tabletWith_L4, h9, if_pos (nI_le (Nat.le_refl _) (by omega))])
    (fun n v a ha hI => by
      show ∃ v' : Int32, f_M_tabletWith_L4 N τ r _ (n + 1) v (nI a) = f_M_tabletWith_L4 N τ r _ n v' (nI (a + 1)) ∧ _
      rw [f_M_tabletWith_L4, h9, if_neg (nI_ge ha (by omega)), q_gd_t (q_in_of (by omega) (by omega)), nI_cl (by omega), hfr a ha, ← nI_succ]
      by_cases q : a ≤ t
      · have h3 := p_fr_mono hf q (by omega)
        refine ⟨nI a, by rw [if_neg (show ¬ r < fr a by rw [i_lt]; rw [i_le] at h1 h3; omega)], ?_⟩
        by_cases q2 : a + 1 ≤ t
        · rw [if_pos q2]; congr 1
        · rw [if_neg q2]; congr 1; omega
      · have h3 := p_fr_mono hf (show t + 1 ≤ a by omega) (by omega)
        refine ⟨v, by rw [if_pos (show r < fr a by rw [i_lt] at h2 ⊢; rw [i_le] at h3; omega)], ?_⟩
        rw [hI, if_neg q, if_neg (by omega)])
    T 0 N (nI 0) (by omega) (by omega) (by rw [if_pos (Nat.zero_le _)])
  unfold f_M_tabletWith
  refine Eq.trans e ?_
  rw [hI, if_neg (by omega)]
def p_bits (r : Int32) : Int64 := ((1 : Int64) <<< ((((7 * r) + 3) - ((7 * r) + 3) / 64 * 64 : Int32).toInt64 &&& 63)) ||| ((1 : Int64) <<< ((((13 * r) + 29) - ((13 * r) + 29) / 64 * 64 : Int32).toInt64 &&& 63))
def p_filt (P : Nat → Nat → Int32) (l : List Nat) : Int64 := l.foldl (fun v k => v ||| p_bits (P k 0)) 0
/-- the blocks looked at in a table of the entries l, for the row w -/
def p_blk (w : Int32) (fl : Int64) (ah its : Int32) : Int32 := if lg_cmp (fl &&& p_bits w) (p_bits w) = 0 then (if its = 0 then 1 else ((((ah + its) - 1) / 4) - (ah / 4)) + 1) else 0
def p_blocks (P : Nat → Nat → Int32) (w : Int32) (l : List Nat) : Int32 := p_blk w (p_filt P l) (nI (l.countP (fun k => decide (P k 0 < w)))) (nI (l.countP (fun k => decide (P k 0 = w))))
theorem p_filt_perm {P : Nat → Nat → Int32} {l m : List Nat} (h : l.Perm m) : p_filt P l = p_filt P m := by
  unfold p_filt
  exact List.Perm.foldl_eq' h (fun x _ y _ z => by rw [Int64.or_assoc, Int64.or_assoc, Int64.or_comm (p_bits (P x 0))]) 0
theorem p_blocks_perm {P : Nat → Nat → Int32} {w : Int32} {l m : List Nat} (h : l.Perm m) : p_blocks P w l = p_blocks P w m := by
  unfold p_blocks
  rw [p_filt_perm h, List.Perm.countP_eq _ h, List.Perm.countP_eq _ h]
theorem e_blocksFor {τ : m_T} {P : Nat → Nat → Int32} {R : List Nat} {fr : Nat → Int32} {T : Nat} (h : LM τ P R fr T) (hf : p_fr fr T) {N : Nat} (hN : 247 < N) {t : Nat} (ht : t < T) (u w : Int32) : f_M_blocksFor N τ (nI t) u w = some (p_blocks P w ((p_seg P R (fr t) (fr (t + 1))).filter (fun k => decide (P k 8 = u)))) := by
  have hL := h.2.1
  obtain ⟨s', e, h1, h2, h3⟩ := q_inv (fun n (s : Int64 × Int32 × Int32) i => f_M_blocksFor_L12 N τ (nI t) u w (fun v4 v6 v7 => (f_M_bits w).bind fun r10 => (if (lg_cmp (v4 &&& r10) r10 : Int32) = (0 : Int32) then (if (v7 : Int32) = (0 : Int32) then some 1 else some (((((v6 + v7) - 1) / 4) - (v6 / 4)) + 1)) else some 0)) n s.1 s.2.1 s.2.2 i) (fun s => some (p_blk w s.1 s.2.1 s.2.2)) (fun j s => s.1 = p_filt P ((p_seg P (R.take j) (fr t) (fr (t + 1))).filter (fun k => decide (P k 8 = u))) ∧ s.2.1 = nI (((p_seg P (R.take j) (fr t) (fr (t + 1))).filter (fun k => decide (P k 8 = u))).countP (fun k => decide (P k 0 < w))) ∧ s.2.2 = nI (((p_seg P (R.take j) (fr t) (fr (t + 1))).filter (fun k => decide (P k 8 = u))).countP (fun k => decide (P k 0 = w)))) R.length
    (fun n s _ => by
      show f_M_blocksFor_L12 N τ (nI t) u w _ (n + 1) s.1 s.2.1 s.2.2 _ = _
      rw [f_M_blocksFor_L12, if_pos h.end]
      unfold f_M_bits p_blk
      show (if lg_cmp (s.1 &&& p_bits w) (p_bits w) = 0 then _ else _) = _
      by_cases q : lg_cmp (s.1 &&& p_bits w) (p_bits w) = 0
      · rw [if_pos q, if_pos q]
        by_cases q2 : s.2.2 = 0
        · rw [if_pos q2, if_pos q2]
        · rw [if_neg q2, if_neg q2]
      · rw [if_neg q, if_neg q])
    (fun n s j hj hI => by
      obtain ⟨e1, e2, e3⟩ := hI
      obtain ⟨k, hk⟩ : ∃ k, R[j]? = some k := ⟨_, List.getElem?_eq_getElem hj⟩
      obtain ⟨g1, g2, g3, g4⟩ := h.at hk
      obtain ⟨x1, x2, x3, x4, x5, x6, _⟩ := h.2.2 j k hk
      have ht2 := h.tab hf hk ht
      have hseg : p_seg P (R.take (j + 1)) (fr t) (fr (t + 1)) = p_seg P (R.take j) (fr t) (fr (t + 1)) ++ p_seg P [k] (fr t) (fr (t + 1)) := by
        unfold p_seg
        rw [take_s hk, List.filter_append]
      show ∃ s' : Int64 × Int32 × Int32, f_M_blocksFor_L12 N τ (nI t) u w _ (n + 1) s.1 s.2.1 s.2.2 (nI j) = f_M_blocksFor_L12 N τ (nI t) u w _ n s'.1 s'.2.1 s'.2.2 (nI (j + 1)) ∧ _
      rw [f_M_blocksFor_L12, if_neg g3]
      simp only [q_gd_t g1, g2, x2, x6, ← nI_succ]
      rw [hseg, List.filter_append]
      by_cases c1 : m_I τ 7 j = nI t
      · rw [if_pos c1, p_seg1 (ht2.mp c1)]
        by_cases c2 : P k 8 = u
        · rw [if_pos c2, List.filter_cons_of_pos (by simpa using c2), List.filter_nil]
          unfold f_M_bits
          rw [Option.bind_some]
          refine ⟨(s.1 ||| p_bits (P k 0), nI (((p_seg P (R.take j) (fr t) (fr (t + 1))).filter (fun k => decide (P k 8 = u)) ++ [k]).countP (fun k => decide (P k 0 < w))), nI (((p_seg P (R.take j) (fr t) (fr (t + 1))).filter (fun k => decide (P k 8 = u)) ++ [k]).countP (fun k => decide (P k 0 = w)))), ?_, ?_, rfl, rfl⟩
          · show (if w ≤ P k 0 then (if P k 0 = w then f_M_blocksFor_L12 N τ (nI t) u w _ n (s.1 ||| p_bits (P k 0)) (s.2.1 + 0) (s.2.2 + 1) (nI (j + 1)) else f_M_blocksFor_L12 N τ (nI t) u w _ n (s.1 ||| p_bits (P k 0)) (s.2.1 + 0) (s.2.2 + 0) (nI (j + 1))) else (if P k 0 = w then f_M_blocksFor_L12 N τ (nI t) u w _ n (s.1 ||| p_bits (P k 0)) (s.2.1 + 1) (s.2.2 + 1) (nI (j + 1)) else f_M_blocksFor_L12 N τ (nI t) u w _ n (s.1 ||| p_bits (P k 0)) (s.2.1 + 1) (s.2.2 + 0) (nI (j + 1)))) = _
            rw [List.countP_append, List.countP_append, e2, e3, List.countP_singleton, List.countP_singleton]
            by_cases c3 : w ≤ P k 0
            · have c4 : ¬ P k 0 < w := by rw [i_lt]; rw [i_le] at c3; omega
              rw [if_pos c3, decide_eq_false c4]
              by_cases c5 : P k 0 = w
              · rw [if_pos c5, decide_eq_true c5, if_pos rfl, if_neg (by decide), Int32.add_zero, ← nI_succ]
                rfl
              · rw [if_neg c5, decide_eq_false c5, if_neg (by decide), Int32.add_zero, Int32.add_zero]
                rfl
            · have c4 : P k 0 < w := by rw [i_lt]; rw [i_le] at c3; omega
              have c5 : ¬ P k 0 = w := fun q => by rw [q, i_le] at c3; omega
              rw [if_neg c3, decide_eq_true c4, if_neg c5, decide_eq_false c5, if_pos rfl, if_neg (by decide), Int32.add_zero, ← nI_succ]
              rfl
          · show s.1 ||| p_bits (P k 0) = _
            unfold p_filt
            rw [List.foldl_append, e1]
            rfl
        · rw [if_neg c2, List.filter_cons_of_neg (by simpa using c2), List.filter_nil, List.append_nil]
          exact ⟨s, rfl, e1, e2, e3⟩
      · rw [if_neg c1, p_seg0 (fun q => c1 (ht2.mpr q)), List.filter_nil, List.append_nil]
        exact ⟨s, rfl, e1, e2, e3⟩)
    R.length 0 N (0, nI 0, nI 0) (by omega) (by omega) ⟨rfl, rfl, rfl⟩
  rw [List.take_length] at h1 h2 h3
  unfold f_M_blocksFor
  refine Eq.trans e ?_
  show some (p_blk w s'.1 s'.2.1 s'.2.2) = _
  rw [h1, h2, h3]
  rfl
/-- the sum of the blocks of tables 0 .. c-1 -/
def p_sum (b : Nat → Int32) : Nat → Int32
  | 0 => 0
  | c + 1 => p_sum b c + b c
theorem e_lookM {τ : m_T} {P : Nat → Nat → Int32} {R : List Nat} {fr : Nat → Int32} {T : Nat} (h : LM τ P R fr T) (h9 : m_S τ 9 = nI T) (hf : p_fr fr T) (hfr : ∀ t : Nat, t < T → m_I τ 9 t = fr t) {N : Nat} (hN : 247 < N) {w : Int32} {t c : Nat} (ht : t < T) (h1 : fr t ≤ w) (h2 : w < fr (t + 1)) (hc : m_I τ 10 t = nI c) (hc2 : c ≤ 247) : f_M_look N τ w = some (m_sS τ 31 (m_S τ 31 + p_sum (fun i => p_blocks P w ((p_seg P R (fr t) (fr (t + 1))).filter (fun k => decide (P k 8 = nI i)))) c)) := by
  have hT := hf.2.1
  unfold f_M_look
  rw [e_tabletWith h9 hf hfr (by omega) ht h1 h2, Option.bind_some]
  have hid : ∀ v : Int32, m_sS (m_sS τ 31 v) 31 = m_sS τ 31 := fun v => by
    funext x
    unfold m_sS
    refine Prod.ext ?_ rfl
    exact bx_uu τ.1 31 v x
  obtain ⟨s', e, hI⟩ := q_inv (fun n (s : m_T) i => f_M_look_L8 N w (nI t) (fun t7 => some t7) n i s) (fun s => some s) (fun a s => s = m_sS τ 31 (m_S τ 31 + p_sum (fun i => p_blocks P w ((p_seg P R (fr t) (fr (t + 1))).filter (fun k => decide (P k 8 = nI i)))) a)) c
    (fun n s hs => by
      show f_M_look_L8 N w (nI t) _ (n + 1) _ s = _
      rw [f_M_look_L8, q_gd_t (q_in_of (by omega) (by omega)), nI_cl (by omega), hs]
      rw [if_pos (show m_I (m_sS τ 31 _) 10 t ≤ nI c by show m_I τ 10 t ≤ nI c; rw [hc]; exact nI_le (Nat.le_refl _) (by omega))])
    (fun n s a ha hs => by
      refine ⟨_, ?_, rfl⟩
      show f_M_look_L8 N w (nI t) _ (n + 1) (nI a) s = f_M_look_L8 N w (nI t) _ n (nI (a + 1)) _
      rw [f_M_look_L8, q_gd_t (q_in_of (by omega) (by omega)), nI_cl (by omega), hs, if_neg (show ¬ m_I (m_sS τ 31 _) 10 t ≤ nI a by show ¬ m_I τ 10 t ≤ nI a; rw [hc]; exact nI_ge ha (by omega)), e_blocksFor (show LM (m_sS τ 31 _) P R fr T from h) hf hN ht, Option.bind_some, ← nI_succ]
      unfold q_let
      rw [hid]
      show f_M_look_L8 N w (nI t) _ n (nI (a + 1)) (m_sS τ 31 (m_S τ 31 + _ + _)) = _
      rw [Int32.add_assoc]
      rfl)
    c 0 N τ (by omega) (by omega) (by
      show τ = m_sS τ 31 (m_S τ 31 + 0)
      rw [Int32.add_zero]
      unfold m_sS
      refine Prod.ext ?_ rfl
      funext i
      show τ.1 i = if i = 31 then τ.1 31 else τ.1 i
      by_cases q : i = 31
      · rw [if_pos q, q]
      · rw [if_neg q])
  refine Eq.trans e ?_
  rw [hI]
