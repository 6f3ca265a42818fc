/-! flush; and how tables' numbers change on both sides. -/
theorem q_inv {S R : Type} (F : Nat → S → Int32 → Option R) (K : S → Option R) (I : Nat → S → Prop) (e : Nat) (hend : ∀ n s, I e s → F (n + 1) s (nI e) = K s) (hstep : ∀ n s j, j < e → I j s → ∃ s', F (n + 1) s (nI j) = F n s' (nI (j + 1)) ∧ I (j + 1) s') : ∀ (d a n : Nat) (s : S), a + d = e → d < n → I a s → ∃ s', F n s (nI a) = K s' ∧ I e s' := by
  intro d
  induction d with
  | zero =>
    intro a n s ha hn hI
    obtain ⟨n, rfl⟩ : ∃ m, n = m + 1 := ⟨n - 1, by omega⟩
    obtain rfl : a = e := by omega
    exact ⟨s, hend n s hI, hI⟩
  | succ d ih =>
    intro a n s ha hn hI
    obtain ⟨n, rfl⟩ : ∃ m, n = m + 1 := ⟨n - 1, by omega⟩
    obtain ⟨s', h1, h2⟩ := hstep n s a (by omega) hI
    obtain ⟨s'', h3, h4⟩ := ih (a + 1) n s' (by omega) (by omega) h2
    exact ⟨s'', h1.trans h3, h4⟩
def x_wP (σ : x_T) (P : Nat → Nat → Int32) : x_T := (σ.1, σ.2.1, σ.2.2.1, σ.2.2.2.1, σ.2.2.2.2.1, P)
def m_wI (τ : m_T) (a : Nat) (f : Nat → Int32) : m_T := (τ.1, va_up τ.2 a f)
theorem m_wI_s {τ : m_T} {a j : Nat} {f : Nat → Int32} {v : Int32} : m_sI (m_wI τ a f) a j v = m_wI τ a (upd f j v) := by
  unfold m_sI m_wI
  refine Prod.ext rfl ?_
  show va_up (va_up τ.2 a f) a (upd (va_up τ.2 a f a) j v) = va_up τ.2 a (upd f j v)
  rw [bx_uu]
  congr 2
  exact if_pos rfl
theorem m_wI_id {τ : m_T} {a : Nat} : m_wI τ a (m_I τ a) = τ := by
  unfold m_wI
  refine Prod.ext rfl ?_
  funext i
  show (if i = a then τ.2 a else τ.2 i) = τ.2 i
  by_cases h : i = a
  · rw [if_pos h, h]
  · rw [if_neg h]
/-- the tables of the entries in l go by φ -/
def p_map (P : Nat → Nat → Int32) (l : List Nat) (φ : Int32 → Int32) : Nat → Nat → Int32 := fun k f => if f = 8 ∧ k ∈ l then φ (P k 8) else P k f
theorem p_map_in {P : Nat → Nat → Int32} {l : List Nat} {φ : Int32 → Int32} {k : Nat} (h : k ∈ l) : p_map P l φ k 8 = φ (P k 8) := if_pos ⟨rfl, h⟩
theorem p_map_out {P : Nat → Nat → Int32} {l : List Nat} {φ : Int32 → Int32} {k : Nat} (h : k ∉ l) : p_map P l φ k 8 = P k 8 := if_neg (fun q => h q.2)
theorem p_map_fold (g : x_T → Nat → x_T) (φ : Int32 → Int32) (hg : ∀ σ k, g σ k = x_wP σ (fun a f => if f = 8 ∧ a = k then φ (x_P σ k 8) else x_P σ a f)) : ∀ (l : List Nat) (σ : x_T), l.Nodup → l.foldl g σ = x_wP σ (p_map (x_P σ) l φ) := by
  intro l
  induction l with
  | nil =>
    intro σ _
    unfold x_wP p_map
    refine Prod.ext rfl (Prod.ext rfl (Prod.ext rfl (Prod.ext rfl (Prod.ext rfl ?_))))
    funext a f
    exact (if_neg (fun q => by cases q.2)).symm
  | cons k l ih =>
    intro σ hn
    obtain ⟨hk, hl⟩ := List.nodup_cons.mp hn
    rw [List.foldl_cons, ih _ hl, hg]
    unfold x_wP p_map
    refine Prod.ext rfl (Prod.ext rfl (Prod.ext rfl (Prod.ext rfl (Prod.ext rfl ?_))))
    funext a f
    show (if f = 8 ∧ a ∈ l then φ (if 8 = 8 ∧ a = k then φ (x_P σ k 8) else x_P σ a 8) else if f = 8 ∧ a = k then φ (x_P σ k 8) else x_P σ a f) = if f = 8 ∧ a ∈ k :: l then φ (x_P σ a 8) else x_P σ a f
    by_cases hf : f = 8
    · subst hf
      by_cases ha : a ∈ l
      · have hak : ¬ a = k := fun q => hk (q ▸ ha)
        rw [if_pos ⟨rfl, ha⟩, if_neg (fun q => hak q.2), if_pos ⟨rfl, List.mem_cons_of_mem _ ha⟩]
      · rw [if_neg (fun q => ha q.2)]
        by_cases hak : a = k
        · subst hak
          rw [if_pos ⟨rfl, rfl⟩, if_pos ⟨rfl, List.mem_cons_self⟩]
        · rw [if_neg (fun q => hak q.2), if_neg (fun q => (List.mem_cons.mp q.2).elim hak ha)]
    · rw [if_neg (fun q => hf q.1), if_neg (fun q => hf q.1), if_neg (fun q => hf q.1)]
theorem x_sP_w {σ : x_T} {k : Nat} {v : Int32} : x_sP σ k 8 v = x_wP σ (fun a f => if f = 8 ∧ a = k then v else x_P σ a f) := by
  unfold x_sP x_wP
  refine Prod.ext rfl (Prod.ext rfl (Prod.ext rfl (Prod.ext rfl (Prod.ext rfl ?_))))
  funext a f
  show (if a = k then (fun j => if j = 8 then v else σ.2.2.2.2.2 k j) else σ.2.2.2.2.2 a) f = if f = 8 ∧ a = k then v else x_P σ a f
  by_cases ha : a = k
  · subst ha
    rw [if_pos rfl]
    by_cases hf : f = 8
    · exact (if_pos hf).trans (if_pos (And.intro hf rfl)).symm
    · exact (if_neg hf).trans (if_neg (fun q => hf q.1)).symm
  · rw [if_neg ha, if_neg (fun q => ha q.2)]
    rfl
theorem x_wP_id {σ : x_T} {k : Nat} {v : Int32} (h : v = x_P σ k 8) : σ = x_wP σ (fun a f => if f = 8 ∧ a = k then v else x_P σ a f) := by
  unfold x_wP
  refine Prod.ext rfl (Prod.ext rfl (Prod.ext rfl (Prod.ext rfl (Prod.ext rfl ?_))))
  funext a f
  by_cases hf : f = 8 ∧ a = k
  · obtain ⟨rfl, rfl⟩ := hf
    exact (h.symm.trans (if_pos ⟨rfl, rfl⟩).symm)
  · exact (if_neg hf).symm
theorem LX.map {σ : x_T} {L : List Nat} (h : LX σ L) (P : Nat → Nat → Int32) : LX (x_wP σ P) L := h
/-- a loop over a tablet's entries that gives each a table by φ -/
theorem x_tabloop {σ : x_T} {L : List Nat} (hX : LX σ L) (hn : L.Nodup) (hr : p_rows (x_P σ) L) {t : Nat} (hf : x_I σ 4 t ≤ x_I σ 4 (t + 1)) {R : Type} (F : Nat → x_T → Int32 → Option R) (K : x_T → Option R) (φ : Int32 → Int32) {N : Nat} (hN : 247 < N)
    (hend : ∀ n s, F (n + 1) s (nI (p_pre (x_P σ) L (x_I σ 4 (t + 1))).length) = K s)
    (hstep : ∀ n s j k, LX s L → L[j]? = some k → j < (p_pre (x_P σ) L (x_I σ 4 (t + 1))).length → F (n + 1) s (nI j) = F n (x_wP s (fun a f => if f = 8 ∧ a = k then φ (x_P s k 8) else x_P s a f)) (nI (j + 1))) :
    F N σ (nI (p_pre (x_P σ) L (x_I σ 4 t)).length) = K (x_wP σ (p_map (x_P σ) (x_sg σ L t) φ)) := by
  have hl := p_pre_le (x_P σ) L (x_I σ 4 (t + 1))
  have h := q_loop L F K (fun s k => x_wP s (fun a f => if f = 8 ∧ a = k then φ (x_P s k 8) else x_P s a f)) (fun s => LX s L) _ hl (fun n s _ => hend n s) (fun n s j k hI hj hje => ⟨hstep n s j k hI hj hje, hI⟩)
    (x_sg σ L t) (p_pre (x_P σ) L (x_I σ 4 t)) N σ (p_split hr hf) (by have := x_sg_len hX t; omega) hX
  have h2 := p_map_fold _ φ (fun _ _ => rfl) (x_sg σ L t) σ (List.Pairwise.filter _ hn)
  exact h.1.trans (congrArg K h2)
def p_fl (c : Nat) (x : Int32) : Int32 := if x = -1 then nI c else x
theorem e_flushX {σ : x_T} {L : List Nat} (hX : LX σ L) (hn : L.Nodup) (hr : p_rows (x_P σ) L) {N : Nat} (hN : 247 < N) {t : Nat} (ht : t < 8) (hf : x_I σ 4 t ≤ x_I σ 4 (t + 1)) {c : Nat} (hc : c < 2 ^ 30) (hT : p_tc (x_P σ) (x_sg σ L t) c) : f_T_flushTablet N σ (nI t) = some (nI ((x_sg σ L t).countP (fun k => decide (x_P σ k 8 = -1))), x_wP σ (p_map (x_P σ) (x_sg σ L t) (p_fl c))) := by
  unfold f_T_flushTablet
  rw [e_entriesIn hX hr hN ht hf, Option.bind_some, e_tableCount hX hr hN ht hf hc hT, Option.bind_some, e_endOf hX hr hN ht, Option.bind_some, e_startOf hX hr hN (by omega), Option.bind_some]
  have hL := hX.2.1
  have hl := p_pre_le (x_P σ) L (x_I σ 4 (t + 1))
  exact x_tabloop hX hn hr hf (fun n s i => f_T_flushTablet_L27 N (nI ((x_sg σ L t).countP (fun k => decide (x_P σ k 8 = -1)))) (nI c) (nI (p_pre (x_P σ) L (x_I σ 4 (t + 1))).length) (fun t18 => some (nI ((x_sg σ L t).countP (fun k => decide (x_P σ k 8 = -1))), t18)) n i s) (fun t18 => some (nI ((x_sg σ L t).countP (fun k => decide (x_P σ k 8 = -1))), t18)) (p_fl c) hN
    (fun n s => by show f_T_flushTablet_L27 N _ _ _ _ (n + 1) _ s = _; rw [f_T_flushTablet_L27, if_pos (nI_le (Nat.le_refl _) (by omega))])
    (fun n s j k hI hj hje => by
      obtain ⟨h1, h2, h3, h4⟩ := hI.at hj
      show f_T_flushTablet_L27 N _ _ _ _ (n + 1) _ s = f_T_flushTablet_L27 N _ _ _ _ n _ _
      rw [f_T_flushTablet_L27, if_neg (nI_ge hje (by omega)), q_gd_t h1, q_om_s h2, q_gd_t h3, q_gd_t h1, q_om_s h2, q_gd_t h3, ← nI_succ]
      unfold q_let p_fl
      by_cases hc : x_P s k 8 = -1
      · rw [if_pos hc, x_sP_w, if_pos hc]
      · rw [if_neg hc, if_neg hc, ← x_wP_id rfl])
theorem p_seg1 {P : Nat → Nat → Int32} {k : Nat} {lo hi : Int32} (h : (decide (P k 0 < hi) && !decide (P k 0 < lo)) = true) : p_seg P [k] lo hi = [k] := by
  unfold p_seg
  rw [List.filter_cons, if_pos h]
  rfl
theorem p_seg0 {P : Nat → Nat → Int32} {k : Nat} {lo hi : Int32} (h : ¬ (decide (P k 0 < hi) && !decide (P k 0 < lo)) = true) : p_seg P [k] lo hi = [] := by
  unfold p_seg
  rw [List.filter_cons, if_neg h]
  rfl
theorem take_s {L : List Nat} {j k : Nat} (h : L[j]? = some k) : L.take (j + 1) = L.take j ++ [k] := by
  rw [List.take_succ, h]
  rfl
theorem e_flushM {τ : m_T} {P : Nat → Nat → Int32} {R : List Nat} {fr : Nat → Int32} {T : Nat} (h : LM τ P R fr T) (hf : p_fr fr T) {N : Nat} (hN : 247 < N) {t : Nat} (ht : t < T) {c : Nat} (hc : m_I τ 10 t = nI c) : ∃ f : Nat → Int32, f_M_flushed N τ (nI t) = some (nI ((p_seg P R (fr t) (fr (t + 1))).countP (fun k => decide (P k 8 = -1))), m_sI (m_wI τ 8 f) 10 t (nI (if (p_seg P R (fr t) (fr (t + 1))).countP (fun k => decide (P k 8 = -1)) = 0 then c else c + 1))) ∧ ∀ i k : Nat, R[i]? = some k → f i = if k ∈ p_seg P R (fr t) (fr (t + 1)) then p_fl c (P k 8) else P k 8 := by
  have hL := h.2.1
  have hT8 := hf.2.1
  have hi9 : q_in (nI t) 9 = true := q_in_of (by omega) (by omega)
  have hcl : (nI t).toNatClampNeg = t := nI_cl (by omega)
  let K : Int32 → m_T → Option (Int32 × m_T) := fun v2 t6 => q_gd (q_in (nI t) 9) <| (if (v2 : Int32) ≤ (0 : Int32) then q_gd (q_in (nI t) 9) <| q_let (m_sI t6 10 ((nI t : Int32).toNatClampNeg) ((m_I t6 10 ((nI t : Int32).toNatClampNeg)) + 0)) fun s9 => some (v2, s9) else q_gd (q_in (nI t) 9) <| q_let (m_sI t6 10 ((nI t : Int32).toNatClampNeg) ((m_I t6 10 ((nI t : Int32).toNatClampNeg)) + 1)) fun s11 => some (v2, s11))
  obtain ⟨s', h1, f, h2, h3, h4⟩ := q_inv (fun n (s : Int32 × m_T) i => f_M_flushed_L4 N (nI t) K n s.1 i s.2) (fun s => K s.1 s.2) (fun j s => ∃ f : Nat → Int32, s.2 = m_wI τ 8 f ∧ s.1 = nI ((p_seg P (R.take j) (fr t) (fr (t + 1))).countP (fun k => decide (P k 8 = -1))) ∧ ∀ i k : Nat, R[i]? = some k → f i = if i < j ∧ k ∈ p_seg P R (fr t) (fr (t + 1)) then p_fl c (P k 8) else P k 8) R.length
    (fun n s hs => by
      obtain ⟨f, e1, -, -⟩ := hs
      show f_M_flushed_L4 N (nI t) K (n + 1) s.1 _ s.2 = _
      rw [f_M_flushed_L4, e1, if_pos (show m_S (m_wI τ 8 f) 0 ≤ nI R.length from h.end)])
    (fun n s j hj hs => by
      obtain ⟨f, e1, e2, e3⟩ := hs
      obtain ⟨k, hk⟩ : ∃ k, R[j]? = some k := ⟨_, List.getElem?_eq_getElem hj⟩
      obtain ⟨g1, g2, g3, g4⟩ := h.at hk
      have ht2 := h.tab hf hk ht
      have hmem : k ∈ p_seg P R (fr t) (fr (t + 1)) ↔ (decide (P k 0 < fr (t + 1)) && !decide (P k 0 < fr t)) = true := ⟨fun q => (List.mem_filter.mp q).2, fun q => List.mem_filter.mpr ⟨List.mem_of_getElem? hk, q⟩⟩
      have hf8 : f j = P k 8 := by rw [e3 j k hk, if_neg (fun q => absurd q.1 (by omega))]
      have hseg : p_seg P (R.take (j + 1)) (fr t) (fr (t + 1)) = p_seg P (R.take j) (fr t) (fr (t + 1)) ++ p_seg P [k] (fr t) (fr (t + 1)) := by
        unfold p_seg
        rw [take_s hk, List.filter_append]
      have hRj : ∀ i b : Nat, R[i]? = some b → i ≠ j → ∀ (x : Int32), (if i < j + 1 ∧ b ∈ p_seg P R (fr t) (fr (t + 1)) then x else P b 8) = if i < j ∧ b ∈ p_seg P R (fr t) (fr (t + 1)) then x else P b 8 := fun i b _ hij x => by
        by_cases q : i < j
        · by_cases q2 : b ∈ p_seg P R (fr t) (fr (t + 1))
          · rw [if_pos ⟨by omega, q2⟩, if_pos ⟨q, q2⟩]
          · rw [if_neg (fun z => q2 z.2), if_neg (fun z => q2 z.2)]
        · rw [if_neg (fun z => absurd z.1 (by omega)), if_neg (fun z => q z.1)]
      show ∃ s' : Int32 × m_T, f_M_flushed_L4 N (nI t) K (n + 1) s.1 (nI j) s.2 = f_M_flushed_L4 N (nI t) K n s'.1 (nI (j + 1)) s'.2 ∧ _
      rw [f_M_flushed_L4, e1, if_neg (show ¬ m_S (m_wI τ 8 f) 0 ≤ nI j from g3)]
      simp only [q_gd_t g1, g2, q_gd_t hi9, hcl, ← nI_succ]
      by_cases hc1 : m_I τ 7 j = nI t
      · have hin := hmem.mpr (ht2.mp hc1)
        rw [if_pos (show m_I (m_wI τ 8 f) 7 j = nI t from hc1)]
        by_cases hd : P k 8 = -1
        · rw [if_pos (show m_I (m_wI τ 8 f) 8 j = -1 from hf8.trans hd)]
          refine ⟨(s.1 + 1, m_wI τ 8 (upd f j (nI c))), ?_, upd f j (nI c), rfl, ?_, fun i b hb => ?_⟩
          · show f_M_flushed_L4 N (nI t) K n (s.1 + 1) (nI (j + 1)) (m_sI (m_wI τ 8 f) 8 j (m_I τ 10 t)) = _
            rw [hc, m_wI_s]
          · show s.1 + 1 = _
            rw [e2, ← nI_succ, hseg, List.countP_append]
            congr 2
            rw [p_seg1 (ht2.mp hc1)]
            simp [hd]
          · by_cases hij : i = j
            · subst hij
              obtain rfl : b = k := Option.some.inj (hb.symm.trans hk)
              rw [upd_s, if_pos ⟨by omega, hin⟩]
              unfold p_fl
              rw [if_pos hd]
            · rw [pk_un hij, e3 i b hb, hRj i b hb hij]
        · rw [if_neg (show ¬ m_I (m_wI τ 8 f) 8 j = -1 from fun q => hd (hf8.symm.trans q))]
          refine ⟨(s.1, m_wI τ 8 f), rfl, f, rfl, ?_, fun i b hb => ?_⟩
          · show s.1 = _
            rw [e2, hseg, List.countP_append]
            congr 1
            rw [p_seg1 (ht2.mp hc1)]
            simp [hd]
          · by_cases hij : i = j
            · subst hij
              obtain rfl : b = k := Option.some.inj (hb.symm.trans hk)
              rw [hf8, if_pos ⟨by omega, hin⟩]
              unfold p_fl
              rw [if_neg hd]
            · rw [e3 i b hb, hRj i b hb hij]
      · have hout : k ∉ p_seg P R (fr t) (fr (t + 1)) := fun q => hc1 (ht2.mpr (hmem.mp q))
        rw [if_neg (show ¬ m_I (m_wI τ 8 f) 7 j = nI t from hc1)]
        refine ⟨(s.1, m_wI τ 8 f), rfl, f, rfl, ?_, fun i b hb => ?_⟩
        · show s.1 = _
          rw [e2, hseg, List.countP_append]
          congr 1
          rw [p_seg0 (fun q => hc1 (ht2.mpr q))]
          simp
        · by_cases hij : i = j
          · subst hij
            obtain rfl : b = k := Option.some.inj (hb.symm.trans hk)
            rw [hf8, if_neg (fun q => hout q.2)]
          · rw [e3 i b hb, hRj i b hb hij])
    R.length 0 N (nI 0, τ) (by omega) (by omega) ⟨m_I τ 8, m_wI_id.symm, rfl, fun i k hk => by rw [if_neg (fun q => absurd q.1 (by omega))]; exact (h.2.2 i k hk).2.2.2.2.2.1⟩
  rw [List.take_length] at h3
  refine ⟨f, ?_, fun i k hk => ?_⟩
  · unfold f_M_flushed
    refine Eq.trans h1 ?_
    show K s'.1 s'.2 = _
    rw [h2, h3]
    show (q_gd (q_in (nI t) 9) <| (if nI _ ≤ (0 : Int32) then q_gd (q_in (nI t) 9) <| q_let (m_sI (m_wI τ 8 f) 10 ((nI t : Int32).toNatClampNeg) ((m_I τ 10 ((nI t : Int32).toNatClampNeg)) + 0)) fun s9 => some (_, s9) else q_gd (q_in (nI t) 9) <| q_let (m_sI (m_wI τ 8 f) 10 ((nI t : Int32).toNatClampNeg) ((m_I τ 10 ((nI t : Int32).toNatClampNeg)) + 1)) fun s11 => some (_, s11))) = _
    rw [q_gd_t hi9, q_gd_t hi9, q_gd_t hi9, hcl, hc]
    have hle : (p_seg P R (fr t) (fr (t + 1))).countP (fun k => decide (P k 8 = -1)) ≤ 247 := Nat.le_trans List.countP_le_length (Nat.le_trans (List.length_filter_le _ _) hL)
    generalize (p_seg P R (fr t) (fr (t + 1))).countP (fun k => decide (P k 8 = -1)) = m at hle ⊢
    by_cases hm : m = 0
    · subst hm
      rw [if_pos (by decide), if_pos rfl]
      unfold q_let
      rw [Int32.add_zero]
    · rw [if_neg (nI_nle (by omega) (by omega)), if_neg hm, nI_succ]
      rfl
  · rw [h4 i k hk]
    have hi : i < R.length := (List.getElem?_eq_some_iff.mp hk).1
    by_cases q : k ∈ p_seg P R (fr t) (fr (t + 1))
    · rw [if_pos ⟨hi, q⟩, if_pos q]
    · rw [if_neg (fun z => q z.2), if_neg q]
