/-! The class's look. -/
def x_lk (σ : x_T) (w b : Int32) (f g : Nat → Int32) (h : Nat → Int64) : x_T := (va_up (va_up σ.1 40 w) 41 b, va_up (va_up σ.2.1 13 f) 14 g, va_up σ.2.2.1 12 h, σ.2.2.2)
theorem va_up_id {α : Type} (f : Nat → α) (k : Nat) : va_up f k (f k) = f := by
  funext i
  show (if i = k then f k else f i) = f i
  by_cases h : i = k
  · rw [if_pos h, h]
  · rw [if_neg h]
theorem va_up_cm {α : Type} (f : Nat → α) {a b : Nat} (h : a ≠ b) (v w : α) : va_up (va_up f a v) b w = va_up (va_up f b w) a v := by
  funext i
  show (if i = b then w else if i = a then v else f i) = (if i = a then v else if i = b then w else f i)
  by_cases h1 : i = b
  · rw [if_pos h1, if_neg (fun q => h (q.symm.trans h1)), if_pos h1]
  · rw [if_neg h1, if_neg h1]
theorem x_lk_id (σ : x_T) : x_lk σ (x_S σ 40) (x_S σ 41) (x_I σ 13) (x_I σ 14) (x_L σ 12) = σ := by
  unfold x_lk x_S x_I x_L
  rw [va_up_id, va_up_id, va_up_id, va_up_id, va_up_id]
theorem x_lk_41 {σ : x_T} {w b v : Int32} {f g : Nat → Int32} {h : Nat → Int64} : x_sS (x_lk σ w b f g h) 41 v = x_lk σ w v f g h := by
  unfold x_sS x_lk
  rw [bx_uu]
theorem x_lk_40 {σ : x_T} {w b v : Int32} {f g : Nat → Int32} {h : Nat → Int64} : x_sS (x_lk σ w b f g h) 40 v = x_lk σ v b f g h := by
  unfold x_sS x_lk
  rw [va_up_cm _ (by decide) w b, bx_uu, va_up_cm _ (by decide) b v]
theorem x_lk_12 {σ : x_T} {w b : Int32} {f g : Nat → Int32} {h : Nat → Int64} {i : Nat} {v : Int64} : x_sL (x_lk σ w b f g h) 12 i v = x_lk σ w b f g (vp_updL h i v) := by
  unfold x_sL x_lk
  rw [bx_uu]
  rfl
theorem x_lk_14 {σ : x_T} {w b : Int32} {f g : Nat → Int32} {h : Nat → Int64} {i : Nat} {v : Int32} : x_sI (x_lk σ w b f g h) 14 i v = x_lk σ w b f (upd g i v) h := by
  unfold x_sI x_lk
  rw [bx_uu]
  rfl
theorem x_lk_13 {σ : x_T} {w b : Int32} {f g : Nat → Int32} {h : Nat → Int64} {i : Nat} {v : Int32} : x_sI (x_lk σ w b f g h) 13 i v = x_lk σ w b (upd f i v) g h := by
  unfold x_sI x_lk
  refine Prod.ext rfl (Prod.ext ?_ rfl)
  show va_up (va_up (va_up σ.2.1 13 f) 14 g) 13 (upd f i v) = va_up (va_up σ.2.1 13 (upd f i v)) 14 g
  rw [va_up_cm σ.2.1 (show 13 ≠ 14 by decide) f g, bx_uu, va_up_cm σ.2.1 (show 14 ≠ 13 by decide)]
theorem e_begin {σ : x_T} (hS : r_S σ) {N : Nat} (hN : 247 < N) (w : Int32) : ∃ f g h, f_S_begin N σ w = some (x_lk σ w 0 f g h) ∧ ∀ i : Nat, i < 247 → f i = 0 ∧ g i = 0 ∧ h i = 0 := by
  obtain ⟨s, hs, e41, hz⟩ := hS
  obtain ⟨s', e, f, g, h, e1, h1⟩ := q_inv (fun n (t : x_T) i => f_S_begin_L2 N w (fun t7 => q_let (x_sS t7 40 w) fun s8 => q_let (x_sS s8 41 0) fun s9 => some s9) n i t) (fun t7 => some (x_sS (x_sS t7 40 w) 41 0)) (fun j t => ∃ f g h, t = x_lk σ (x_S σ 40) (x_S σ 41) f g h ∧ ∀ i : Nat, i < 247 → (i < j ∨ s ≤ i) → f i = 0 ∧ g i = 0 ∧ h i = 0) s
    (fun n t ht => by
      obtain ⟨f, g, h, e1, _⟩ := ht
      show f_S_begin_L2 N w _ (n + 1) _ t = _
      rw [f_S_begin_L2, e1, if_pos (show x_S (x_lk σ (x_S σ 40) (x_S σ 41) f g h) 41 ≤ nI s by show x_S σ 41 ≤ nI s; rw [e41]; exact nI_le (Nat.le_refl _) (by omega))]
      rfl)
    (fun n t j hj ht => by
      obtain ⟨f, g, h, e1, h1⟩ := ht
      have hi : q_in (nI j) 247 = true := q_in_of (by omega) (by omega)
      refine ⟨x_lk σ (x_S σ 40) (x_S σ 41) (upd f j 0) (upd g j 0) (vp_updL h j 0), ?_, _, _, _, rfl, fun i hi hj => ?_⟩
      · show f_S_begin_L2 N w _ (n + 1) (nI j) t = f_S_begin_L2 N w _ n (nI (j + 1)) _
        rw [f_S_begin_L2, e1, if_neg (show ¬ x_S (x_lk σ (x_S σ 40) (x_S σ 41) f g h) 41 ≤ nI j by show ¬ x_S σ 41 ≤ nI j; rw [e41]; exact nI_ge hj (by omega))]
        simp only [q_gd_t hi, q_let, nI_cl (show j < 2 ^ 31 by omega), x_lk_12, x_lk_13, x_lk_14, ← nI_succ]
      · by_cases q : i = j
        · subst q
          exact ⟨pk_us, pk_us, pk_uLs⟩
        · rw [pk_un q, pk_un q, pk_uLn q]
          exact h1 i hi (by omega))
    s 0 N σ (by omega) (by omega) ⟨x_I σ 13, x_I σ 14, x_L σ 12, (x_lk_id σ).symm, fun i hi hj => by
      have := hz i (by omega) hi
      exact ⟨this.2.1, this.2.2, this.1⟩⟩
  refine ⟨f, g, h, ?_, fun i hi => h1 i hi (by omega)⟩
  unfold f_S_begin
  refine Eq.trans e ?_
  show some (x_sS (x_sS s' 40 w) 41 0) = _
  rw [e1, x_lk_40, x_lk_41]
theorem e_pass {σ : x_T} {w : Int32} {b i : Nat} {f g : Nat → Int32} {h : Nat → Int64} (hi : i < 247) (hb : b ≤ 247) (N : Nat) (r : Int32) : f_S_pass N (x_lk σ w (nI b) f g h) (nI i) r = some (x_lk σ w (nI (if b < i + 1 then i + 1 else b)) (if r < w then upd f i (f i + 1) else f) (if r = w then upd g i (g i + 1) else g) (vp_updL h i (h i ||| p_bits r))) := by
  have hq : q_in (nI i) 247 = true := q_in_of hi (by omega)
  have hc : (nI i).toNatClampNeg = i := nI_cl (by omega)
  have e41 : (if x_S (x_lk σ w (nI b) f g h) 41 < nI i + 1 then nI i + 1 else x_S (x_lk σ w (nI b) f g h) 41) = nI (if b < i + 1 then i + 1 else b) := by
    show (if nI b < nI i + 1 then nI i + 1 else nI b) = _
    rw [← nI_succ]
    by_cases q : b < i + 1
    · rw [if_pos (nI_lt q (by omega)), if_pos q]
    · rw [if_neg (nI_nlt (by omega) (by omega)), if_neg q]
  unfold f_S_pass f_S_bitsOf
  rw [if_neg (nI_pos (by omega)), if_pos (show nI i < 247 from nI_lt (b := 247) hi (by omega)), e41]
  simp only [q_gd_t hq, q_let, hc, x_lk_41, x_lk_12, x_lk_13, x_lk_14, Option.bind_some]
  show (if w ≤ r then (if r = w then some (x_lk σ w _ f (upd g i (g i + 1)) (vp_updL h i (h i ||| p_bits r))) else some (x_lk σ w _ f g (vp_updL h i (h i ||| p_bits r)))) else some (x_lk σ w _ (upd f i (f i + 1)) g (vp_updL h i (h i ||| p_bits r)))) = _
  by_cases c1 : w ≤ r
  · rw [if_pos c1, if_neg (show ¬ r < w by rw [i_lt]; rw [i_le] at c1; omega)]
    by_cases c2 : r = w
    · rw [if_pos c2, if_pos c2]
    · rw [if_neg c2, if_neg c2]
  · have c2 : ¬ r = w := fun q => by rw [q, i_le] at c1; omega
    rw [if_neg c1, if_neg c2, if_pos (show r < w by rw [i_lt]; rw [i_le] at c1; omega)]
/-- a loop over a tablet's entries, with what is done so far -/
theorem q_segI {S R : Type} (L : List Nat) (F : Nat → S → Int32 → Option R) (K : S → Option R) (I : List Nat → S → Prop) (e : Nat) (he : e ≤ L.length) (hend : ∀ n s d, I d s → F (n + 1) s (nI e) = K s) (M : List Nat) (hstep : ∀ n s j k d, L[j]? = some k → j < e → k ∈ M → I d s → ∃ s', F (n + 1) s (nI j) = F n s' (nI (j + 1)) ∧ I (d ++ [k]) s') :
    ∀ (mid pre d : List Nat) (n : Nat) (s : S), L.take e = pre ++ mid → mid.length < n → (∀ a ∈ mid, a ∈ M) → I d s → ∃ s', F n s (nI pre.length) = K s' ∧ I (d ++ mid) s' := by
  intro mid
  induction mid with
  | nil =>
    intro pre d n s hL hn hM hI
    obtain ⟨n, rfl⟩ : ∃ m, n = m + 1 := ⟨n - 1, by simp at hn; omega⟩
    have hl : pre.length = e := by
      have h1 := congrArg List.length hL
      simp at h1
      omega
    rw [hl]
    exact ⟨s, hend n s d hI, by rw [List.append_nil]; exact hI⟩
  | cons k mid ih =>
    intro pre d n s hL hn hM hI
    obtain ⟨n, rfl⟩ : ∃ m, n = m + 1 := ⟨n - 1, by simp at hn; omega⟩
    have hl : pre.length + (mid.length + 1) = e := by
      have h1 := congrArg List.length hL
      simp at h1
      omega
    have hk : L[pre.length]? = some k := by
      have h1 : (L.take e)[pre.length]? = some k := by rw [hL]; simp
      rw [List.getElem?_take, if_pos (by omega)] at h1
      exact h1
    obtain ⟨s1, h1, h2⟩ := hstep n s pre.length k d hk (by omega) (hM k List.mem_cons_self) hI
    obtain ⟨s2, h3, h4⟩ := ih (pre ++ [k]) (d ++ [k]) n s1 (by rw [hL]; simp) (by simp at hn; omega) (fun a ha => hM a (List.mem_cons_of_mem _ ha)) h2
    rw [List.length_append, List.length_singleton] at h3
    refine ⟨s2, h1.trans h3, ?_⟩
    rw [List.append_assoc] at h4
    exact h4
theorem p_sum_congr {F G : Nat → Int32} : ∀ c : Nat, (∀ i : Nat, i < c → F i = G i) → p_sum F c = p_sum G c := by
  intro c
  induction c with
  | zero => intro _; rw [p_sum, p_sum]
  | succ c ih =>
    intro h
    rw [p_sum, p_sum, ih (fun i hi => h i (by omega)), h c (by omega)]
theorem e_blocksLooked {σ : x_T} {w : Int32} {c : Nat} (hc : c ≤ 247) {f g : Nat → Int32} {h : Nat → Int64} {N : Nat} (hN : 247 < N) : f_S_blocksLookedAt N (x_lk σ w (nI c) f g h) = some (p_sum (fun i => p_blk w (h i) (f i) (g i)) c) := by
  unfold f_S_blocksLookedAt f_S_bitsOf
  rw [Option.bind_some]
  show f_S_blocksLookedAt_L13 N (x_lk σ w (nI c) f g h) (p_bits w) (fun v3 => some v3) N 0 0 = _
  obtain ⟨s', e, hI⟩ := q_inv (fun n (v : Int32) i => f_S_blocksLookedAt_L13 N (x_lk σ w (nI c) f g h) (p_bits w) (fun v3 => some v3) n v i) (fun v => some v) (fun a v => v = p_sum (fun i => p_blk w (h i) (f i) (g i)) a) c
    (fun n v _ => by
      show f_S_blocksLookedAt_L13 N _ _ _ (n + 1) v _ = _
      rw [f_S_blocksLookedAt_L13, if_pos (show x_S (x_lk σ w (nI c) f g h) 41 ≤ nI c from nI_le (Nat.le_refl _) (by omega))])
    (fun n v a ha hv => by
      have hi : q_in (nI a) 247 = true := q_in_of (by omega) (by omega)
      have hcl : (nI a).toNatClampNeg = a := nI_cl (by omega)
      refine ⟨_, ?_, rfl⟩
      show f_S_blocksLookedAt_L13 N _ _ _ (n + 1) v (nI a) = f_S_blocksLookedAt_L13 N _ _ _ n (p_sum (fun i => p_blk w (h i) (f i) (g i)) a + p_blk w (h a) (f a) (g a)) (nI (a + 1))
      rw [f_S_blocksLookedAt_L13, if_neg (show ¬ x_S (x_lk σ w (nI c) f g h) 41 ≤ nI a from nI_ge ha (by omega)), hv]
      unfold f_S_blocksOfRow p_blk
      simp only [q_gd_t hi, hcl, ← nI_succ, Option.bind_some]
      show (if lg_cmp (h a &&& p_bits w) (p_bits w) = 0 then (if g a = 0 then f_S_blocksLookedAt_L13 N _ _ _ n (_ + 1) _ else f_S_blocksLookedAt_L13 N _ _ _ n (_ + ((((f a + g a) - 1) / 4) - (f a / 4) + 1)) _) else f_S_blocksLookedAt_L13 N _ _ _ n _ _) = _
      by_cases q : lg_cmp (h a &&& p_bits w) (p_bits w) = 0
      · rw [if_pos q, if_pos q]
        by_cases q2 : g a = 0
        · rw [if_pos q2, if_pos q2]
        · rw [if_neg q2, if_neg q2]
      · rw [if_neg q, if_neg q, Int32.add_zero])
    c 0 N 0 (by omega) (by omega) rfl
  refine Eq.trans e ?_
  rw [hI]
theorem x_lk_P {σ : x_T} {w b : Int32} {f g : Nat → Int32} {h : Nat → Int64} : x_P (x_lk σ w b f g h) = x_P σ := rfl
theorem x_lk_I4 {σ : x_T} {w b : Int32} {f g : Nat → Int32} {h : Nat → Int64} : x_I (x_lk σ w b f g h) 4 = x_I σ 4 := rfl
theorem x_lk_LX {σ : x_T} {w b : Int32} {f g : Nat → Int32} {h : Nat → Int64} {L : List Nat} (hX : LX σ L) : LX (x_lk σ w b f g h) L := hX
theorem e_startLk {σ : x_T} {w b : Int32} {f g : Nat → Int32} {h : Nat → Int64} {L : List Nat} (hX : LX σ L) (hr : p_rows (x_P σ) L) {N : Nat} (hN : 247 < N) {t : Nat} (ht : t < 9) : f_T_startOf N (x_lk σ w b f g h) (nI t) = some (nI (p_pre (x_P σ) L (x_I σ 4 t)).length) := by
  have h1 := e_startOf (x_lk_LX (w := w) (b := b) (f := f) (g := g) (h := h) hX) (by rw [x_lk_P]; exact hr) hN ht
  rw [x_lk_P, x_lk_I4] at h1
  exact h1
/-- what the sight holds behind the entries d -/
def x_lkI (σ : x_T) (w : Int32) (d : List Nat) (s : x_T) : Prop := ∃ b f g h, s = x_lk σ w (nI b) f g h ∧ b ≤ 247 ∧ (∀ i : Nat, i < 247 → h i = p_filt (x_P σ) (d.filter (fun k => decide (x_P σ k 8 = nI i))) ∧ f i = nI ((d.filter (fun k => decide (x_P σ k 8 = nI i))).countP (fun k => decide (x_P σ k 0 < w))) ∧ g i = nI ((d.filter (fun k => decide (x_P σ k 8 = nI i))).countP (fun k => decide (x_P σ k 0 = w)))) ∧ (∀ k ∈ d, (x_P σ k 8).toInt < b) ∧ (b = 0 ∨ ∃ k ∈ d, x_P σ k 8 = nI (b - 1))
theorem e_look_step {σ : x_T} {L : List Nat} (hX : LX σ L) {N : Nat} {w : Int32} {c e : Nat} (he : e ≤ 247) (hc2 : c ≤ 247) (K : x_T → Option x_T) (n : Nat) (s : x_T) (j k : Nat) (d : List Nat) (hj : L[j]? = some k) (hje : j < e) (hkc : -1 ≤ (x_P σ k 8).toInt ∧ (x_P σ k 8).toInt < c) (hI : x_lkI σ w d s) : ∃ s' : x_T, f_T_lookFor_L27 N (nI e) K (n + 1) (nI j) s = f_T_lookFor_L27 N (nI e) K n (nI (j + 1)) s' ∧ x_lkI σ w (d ++ [k]) s' := by
  obtain ⟨b, f, g, h, e1, hb, hI, hm1, hm2⟩ := hI
  obtain ⟨g1, g2, g3, g4⟩ := hX.at hj
  rw [f_T_lookFor_L27, if_neg (nI_ge hje (by omega)), e1]
  have g2' : x_E (x_lk σ w (nI b) f g h) (nI j).toNatClampNeg = some k := g2
  have g3' : q_lt k (x_N (x_lk σ w (nI b) f g h)) = true := g3
  rw [q_gd_t g1, q_om_s g2', q_gd_t g3', q_gd_t g1, q_om_s g2', q_gd_t g3', q_gd_t g1, q_om_s g2', q_gd_t g3', ← nI_succ]
  have hx8 : x_P (x_lk σ w (nI b) f g h) k 8 = x_P σ k 8 := rfl
  have hx0 : x_P (x_lk σ w (nI b) f g h) k 0 = x_P σ k 0 := rfl
  rw [hx8, hx0]
  by_cases c1 : x_P σ k 8 = -1
  · rw [if_pos c1]
    have hfl : ∀ i : Nat, i < 247 → (d ++ [k]).filter (fun k => decide (x_P σ k 8 = nI i)) = d.filter (fun k => decide (x_P σ k 8 = nI i)) := fun i hi => by
      rw [List.filter_append, List.filter_cons_of_neg (by rw [c1, decide_eq_true_eq]; exact fun q => nI_m1 (by omega) q.symm), List.filter_nil, List.append_nil]
    refine ⟨_, rfl, b, f, g, h, rfl, hb, fun i hi => by rw [hfl i hi]; exact hI i hi, fun a ha => ?_, ?_⟩
    · rcases List.mem_append.mp ha with q | q
      · exact hm1 a q
      · rw [List.mem_singleton.mp q, c1, i_m1]
        omega
    · rcases hm2 with q | ⟨a, ha, q⟩
      · exact Or.inl q
      · exact Or.inr ⟨a, List.mem_append_left _ ha, q⟩
  · rw [if_neg c1]
    have c2 : ¬ (x_P σ k 8).toInt = -1 := fun q => c1 (by rw [i_eq, i_m1]; exact q)
    obtain ⟨m, hm, em⟩ : ∃ m : Nat, m < c ∧ x_P σ k 8 = nI m := ⟨(x_P σ k 8).toInt.toNat, by omega, by rw [i_eq, nI_toInt (by omega)]; omega⟩
    rw [em, e_pass (by omega) hb, Option.bind_some]
    have hfl : ∀ i : Nat, i < 247 → (d ++ [k]).filter (fun k => decide (x_P σ k 8 = nI i)) = d.filter (fun k => decide (x_P σ k 8 = nI i)) ++ (if i = m then [k] else []) := fun i hi => by
      rw [List.filter_append]
      congr 1
      by_cases q : i = m
      · rw [if_pos q, List.filter_cons_of_pos (by rw [em, q, decide_eq_true_eq]), List.filter_nil]
      · rw [if_neg q, List.filter_cons_of_neg (by rw [em, decide_eq_true_eq, nI_eq (by omega) (by omega)]; exact fun z => q z.symm), List.filter_nil]
    refine ⟨_, rfl, _, _, _, _, rfl, by split <;> omega, fun i hi => ?_, fun a ha => ?_, ?_⟩
    · obtain ⟨i1, i2, i3⟩ := hI i hi
      rw [hfl i hi]
      by_cases q : i = m
      · subst q
        rw [if_pos rfl, List.countP_append, List.countP_append, List.countP_singleton, List.countP_singleton, pk_uLs]
        refine ⟨?_, ?_, ?_⟩
        · unfold p_filt
          rw [List.foldl_append, i1]
          rfl
        · by_cases q2 : x_P σ k 0 < w
          · rw [if_pos q2, decide_eq_true q2, if_pos rfl, pk_us, i2, ← nI_succ]
          · rw [if_neg q2, decide_eq_false q2, if_neg (by decide), i2]
            rfl
        · by_cases q2 : x_P σ k 0 = w
          · rw [if_pos q2, decide_eq_true q2, if_pos rfl, pk_us, i3, ← nI_succ]
          · rw [if_neg q2, decide_eq_false q2, if_neg (by decide), i3]
            rfl
      · rw [if_neg q, List.append_nil, pk_uLn q]
        refine ⟨i1, ?_, ?_⟩
        · by_cases q2 : x_P σ k 0 < w
          · rw [if_pos q2, pk_un q, i2]
          · rw [if_neg q2, i2]
        · by_cases q2 : x_P σ k 0 = w
          · rw [if_pos q2, pk_un q, i3]
          · rw [if_neg q2, i3]
    · rcases List.mem_append.mp ha with q | q
      · have := hm1 a q
        split <;> omega
      · rw [List.mem_singleton.mp q, em, nI_toInt (by omega)]
        split <;> omega
    · by_cases q : b < m + 1
      · rw [if_pos q]
        exact Or.inr ⟨k, List.mem_append_right _ (List.mem_singleton_self _), em⟩
      · rw [if_neg q]
        rcases hm2 with q | ⟨a, ha, q⟩
        · omega
        · exact Or.inr ⟨a, List.mem_append_left _ ha, q⟩
/-- the class looks for the row w of tablet t: the sight changes, and the count -/
theorem e_lookX {σ : x_T} {L : List Nat} (hX : LX σ L) (hr : p_rows (x_P σ) L) (hS : r_S σ) {T : Nat} (h7 : x_S σ 7 = nI T) (hf : p_fr (x_I σ 4) T) {N : Nat} (hN : 247 < N) {w : Int32} {t c : Nat} (ht : t < T) (h1 : x_I σ 4 t ≤ w) (h2 : w < x_I σ 4 (t + 1)) (hc : p_tc (x_P σ) (x_sg σ L t) c) (hc2 : c ≤ 247) : ∃ f g h, f_T_lookFor N σ w = some (x_sS (x_lk σ w (nI c) f g h) 13 (x_S σ 13 + p_sum (fun i => p_blocks (x_P σ) w ((x_sg σ L t).filter (fun k => decide (x_P σ k 8 = nI i)))) c)) ∧ r_S (x_sS (x_lk σ w (nI c) f g h) 13 (x_S σ 13 + p_sum (fun i => p_blocks (x_P σ) w ((x_sg σ L t).filter (fun k => decide (x_P σ k 8 = nI i)))) c)) := by
  have hT := hf.2.1
  have hL := hX.2.1
  have hl := p_pre_le (x_P σ) L (x_I σ 4 (t + 1))
  obtain ⟨f0, g0, h0, e0, hz⟩ := e_begin hS hN w
  rw [← nI_0] at e0
  obtain ⟨s', e, b, f, g, h, e1, hb, hI, hm1, hm2⟩ := q_segI L (fun n (s : x_T) i => f_T_lookFor_L27 N (nI (p_pre (x_P σ) L (x_I σ 4 (t + 1))).length) (fun t20 => (f_S_blocksLookedAt N t20).bind fun r22 => q_let (x_sS t20 13 ((x_S t20 13) + r22)) fun s23 => some s23) n i s) (fun t20 => (f_S_blocksLookedAt N t20).bind fun r22 => q_let (x_sS t20 13 ((x_S t20 13) + r22)) fun s23 => some s23) (x_lkI σ w) _ hl
    (fun n s d _ => by
      show f_T_lookFor_L27 N _ _ (n + 1) _ s = _
      rw [f_T_lookFor_L27, if_pos (nI_le (Nat.le_refl _) (by omega))]) (x_sg σ L t)
    (fun n s j k d hj hje hkM hI => e_look_step hX (by omega) hc2 _ n s j k d hj hje (hc.1 k hkM) hI)
    (x_sg σ L t) (p_pre (x_P σ) L (x_I σ 4 t)) [] N (x_lk σ w (nI 0) f0 g0 h0) (p_split hr (hf.le ht)) (by have := x_sg_len hX t; omega) (fun a ha => ha) ⟨0, f0, g0, h0, rfl, by omega, fun i hi => ⟨(hz i hi).2.2, (hz i hi).1.trans nI_0.symm, (hz i hi).2.1.trans nI_0.symm⟩, fun k hk => (by cases hk), Or.inl rfl⟩
  rw [List.nil_append] at hI hm1 hm2
  have hbc : b = c := by
    by_cases q0 : c = 0
    · rcases hm2 with q | ⟨k, hk, q⟩
      · omega
      · have := hc.1 k hk
        rw [q, nI_toInt (by omega)] at this
        omega
    · obtain ⟨k, hk, q⟩ := hc.2 (c - 1) (by omega)
      have h3 := hm1 k hk
      rw [q, nI_toInt (by omega)] at h3
      rcases hm2 with q | ⟨k, hk, q⟩
      · omega
      · have := hc.1 k hk
        rw [q, nI_toInt (by omega)] at this
        omega
  subst hbc
  have hsum : p_sum (fun i => p_blk w (h i) (f i) (g i)) b = p_sum (fun i => p_blocks (x_P σ) w ((x_sg σ L t).filter (fun k => decide (x_P σ k 8 = nI i)))) b := p_sum_congr b (fun i hi => by
    obtain ⟨i1, i2, i3⟩ := hI i (by omega)
    rw [i1, i2, i3]
    unfold p_blocks
    rfl)
  refine ⟨f, g, h, ?_, ⟨b, hc2, rfl, fun i hi hi2 => ?_⟩⟩
  · unfold f_T_lookFor
    rw [e_tabletOf h7 hf (by omega) ht h1 h2, Option.bind_some, e_endOf hX hr hN (by omega), Option.bind_some, e0, Option.bind_some, e_startLk hX hr hN (by omega), Option.bind_some]
    refine Eq.trans e ?_
    rw [e1, e_blocksLooked hc2 hN, Option.bind_some, hsum]
    rfl
  · obtain ⟨i1, i2, i3⟩ := hI i hi2
    have hnil : (x_sg σ L t).filter (fun k => decide (x_P σ k 8 = nI i)) = [] := by
      rw [List.filter_eq_nil_iff]
      intro a ha
      rw [decide_eq_true_eq]
      intro q
      have := hm1 a ha
      rw [q, nI_toInt (by omega)] at this
      omega
    rw [hnil] at i1 i2 i3
    rw [List.countP_nil, nI_0] at i2 i3
    exact ⟨i1, i2, i3⟩
