/-! The class's merge of tables. -/
def p_gone (P : Nat → Nat → Int32) (S : List Nat) (f : Int32) (dead : Nat → Bool) (k : Nat) : Bool := decide (k ∈ S) && (!decide (P k 8 < f) && dead k)
/-- the entries' table after a merge -/
def p_mg (P : Nat → Nat → Int32) (S : List Nat) (f : Int32) (dead : Nat → Bool) : Nat → Nat → Int32 := p_mt (p_lv P S (fun k => if p_gone P S f dead k = true then 1 else 0)) S f
theorem p_mg_f {P : Nat → Nat → Int32} {S : List Nat} {f : Int32} {dead : Nat → Bool} {k g : Nat} (h8 : ¬ g = 8) (h11 : ¬ g = 11) : p_mg P S f dead k g = P k g := (if_neg (fun q => h8 q.1)).trans (if_neg (fun q => h11 q.1))
theorem p_mg_11 {P : Nat → Nat → Int32} {S : List Nat} {f : Int32} {dead : Nat → Bool} {k : Nat} (h : P k 11 = 0) : p_mg P S f dead k 11 = 0 ↔ p_gone P S f dead k = false := by
  unfold p_mg p_mt
  rw [if_neg (fun q => absurd q.1 (by decide))]
  unfold p_lv
  by_cases hk : k ∈ S
  · rw [if_pos ⟨rfl, hk⟩]
    show (if p_gone P S f dead k = true then (1 : Int32) else 0) = 0 ↔ _
    cases p_gone P S f dead k <;> decide
  · rw [if_neg (fun q => hk q.2)]
    refine ⟨fun _ => ?_, fun _ => h⟩
    unfold p_gone
    rw [decide_eq_false hk, Bool.false_and]
theorem p_mg_8 {P : Nat → Nat → Int32} {S : List Nat} {f : Int32} {dead : Nat → Bool} {k : Nat} (h : p_gone P S f dead k = false) : p_mg P S f dead k 8 = if k ∈ S ∧ ¬ P k 8 < f then f else P k 8 := by
  unfold p_mg p_mt p_st
  rw [show p_lv P S (fun k => if p_gone P S f dead k = true then 1 else 0) k 8 = P k 8 from if_neg (fun q => absurd q.1 (by decide))]
  by_cases hk : k ∈ S
  · rw [show p_lv P S (fun k => if p_gone P S f dead k = true then 1 else 0) k 11 = 0 from (if_pos ⟨rfl, hk⟩).trans (if_neg (by rw [h]; decide))]
    by_cases h8 : P k 8 < f
    · rw [decide_eq_true h8, if_neg (fun q => absurd q.2.2 (by decide)), if_neg (fun q => q.2 h8)]
    · rw [decide_eq_false h8, if_pos ⟨rfl, hk, by decide⟩, if_pos ⟨hk, h8⟩]
  · rw [if_neg (fun q => hk q.2.1), if_neg (fun q => hk q.1)]
theorem e_mergeX {σ : x_T} {L : List Nat} (hX : LX σ L) (hn : L.Nodup) (hr : p_rows (x_P σ) L) (hP : r_P σ) (h11 : ∀ k ∈ L, x_P σ k 11 = 0) {N : Nat} (hN : 247 < N) {t : Nat} (ht : t < 8) (hf : x_I σ 4 t ≤ x_I σ 4 (t + 1)) (f : Int32) (dead : Nat → Bool) : ∃ E, f_T_mergeTables N (x_wP σ (p_lv (x_P σ) (x_sg σ L t) (fun k => if p_gone (x_P σ) (x_sg σ L t) f dead k = true then 1 else 0))) (nI t) f = some (nI ((x_sg σ L t).countP (fun k => !decide (x_P σ k 8 < f) && !p_gone (x_P σ) (x_sg σ L t) f dead k)), x_sS (x_eE (x_wP σ (p_mg (x_P σ) (x_sg σ L t) f dead)) E) 4 (nI (L.filter (fun k => !p_gone (x_P σ) (x_sg σ L t) f dead k)).length)) ∧ LX (x_sS (x_eE (x_wP σ (p_mg (x_P σ) (x_sg σ L t) f dead)) E) 4 (nI (L.filter (fun k => !p_gone (x_P σ) (x_sg σ L t) f dead k)).length)) (L.filter (fun k => !p_gone (x_P σ) (x_sg σ L t) f dead k)) ∧ r_P (x_sS (x_eE (x_wP σ (p_mg (x_P σ) (x_sg σ L t) f dead)) E) 4 (nI (L.filter (fun k => !p_gone (x_P σ) (x_sg σ L t) f dead k)).length)) := by
  generalize hS : x_sg σ L t = S
  generalize hb : (fun k => if p_gone (x_P σ) S f dead k = true then (1 : Int32) else 0) = b
  have hX1 : LX (x_wP σ (p_lv (x_P σ) S b)) L := hX
  have hr1 : p_rows (x_P (x_wP σ (p_lv (x_P σ) S b))) L := hr
  have hS1 : x_sg (x_wP σ (p_lv (x_P σ) S b)) L t = S := hS
  have hf1 : x_I (x_wP σ (p_lv (x_P σ) S b)) 4 t ≤ x_I (x_wP σ (p_lv (x_P σ) S b)) 4 (t + 1) := hf
  have hL := hX.2.1
  have hl := p_pre_le (x_P (x_wP σ (p_lv (x_P σ) S b))) L (x_I (x_wP σ (p_lv (x_P σ) S b)) 4 (t + 1))
  have hSn : S.Nodup := by rw [← hS]; exact List.Pairwise.filter _ hn
  obtain ⟨E, r1, r2, r3⟩ := e_remove (σ := x_wP σ (p_mt (p_lv (x_P σ) S b) S f)) (L := L) hX hP hN
  have hfil : L.filter (fun k => decide (x_P (x_wP σ (p_mt (p_lv (x_P σ) S b) S f)) k 11 = 0)) = L.filter (fun k => !p_gone (x_P σ) S f dead k) := by
    refine List.filter_congr (fun k hk => ?_)
    have := p_mg_11 (S := S) (f := f) (dead := dead) (h11 k hk)
    unfold p_mg at this
    rw [hb] at this
    rw [Bool.eq_iff_iff, decide_eq_true_eq, Bool.not_eq_true']
    exact this
  rw [hfil] at r1 r2 r3
  have hmg : p_mg (x_P σ) S f dead = p_mt (p_lv (x_P σ) S b) S f := by unfold p_mg; rw [hb]
  rw [hmg]
  refine ⟨E, ?_, r2, r3⟩
  unfold f_T_mergeTables
  rw [e_endOf hX1 hr1 hN ht, Option.bind_some, e_startOf hX1 hr1 hN (by omega), Option.bind_some]
  have h := q_loop L (fun n (s : Int32 × x_T) i => f_T_mergeTables_L16 N f (nI (p_pre (x_P (x_wP σ (p_lv (x_P σ) S b))) L (x_I (x_wP σ (p_lv (x_P σ) S b)) 4 (t + 1))).length) (fun v3 t10 => (f_T_removeLeaving N t10).bind fun s12 => some (v3, s12)) n s.1 i s.2) (fun s => (f_T_removeLeaving N s.2).bind fun s12 => some (s.1, s12)) (fun (s : Int32 × x_T) k => if p_st (x_P s.2) f k = true then (s.1 + 1, x_sP s.2 k 8 f) else s) (fun s => LX s.2 L) _ hl
    (fun n s _ => by show f_T_mergeTables_L16 N f _ _ (n + 1) s.1 _ s.2 = _; rw [f_T_mergeTables_L16, if_pos (nI_le (Nat.le_refl _) (by omega))])
    (fun n s j k hI hj hje => by
      obtain ⟨h1, h2, h3, h4⟩ := hI.at hj
      show f_T_mergeTables_L16 N f _ _ (n + 1) s.1 _ s.2 = _ ∧ _
      rw [f_T_mergeTables_L16, if_neg (nI_ge hje (by omega)), q_gd_t h1, q_om_s h2, q_gd_t h3, ← nI_succ]
      unfold p_st
      by_cases c1 : x_P s.2 k 8 < f
      · rw [if_pos c1, decide_eq_true c1]
        exact ⟨rfl, hI⟩
      · rw [if_neg c1, decide_eq_false c1]
        by_cases c2 : x_P s.2 k 11 = 0
        · rw [if_pos c2, decide_eq_true c2]
          exact ⟨rfl, hI⟩
        · rw [if_neg c2, decide_eq_false c2]
          exact ⟨rfl, hI⟩)
    (x_sg (x_wP σ (p_lv (x_P σ) S b)) L t) (p_pre (x_P (x_wP σ (p_lv (x_P σ) S b))) L (x_I (x_wP σ (p_lv (x_P σ) S b)) 4 t)) N (nI 0, x_wP σ (p_lv (x_P σ) S b)) (p_split hr1 hf1) (by have := x_sg_len hX1 t; omega) hX1
  have h1 := h.1
  rw [hS1, p_mt_fold f S 0 _ hSn, Nat.zero_add, nI_0] at h1
  refine Eq.trans h1 ?_
  show (f_T_removeLeaving N (x_wP σ (p_mt (p_lv (x_P σ) S b) S f))).bind _ = _
  rw [r1, Option.bind_some]
  have hcnt : S.countP (p_st (x_P (x_wP σ (p_lv (x_P σ) S b))) f) = S.countP (fun k => !decide (x_P σ k 8 < f) && !p_gone (x_P σ) S f dead k) := by
   refine List.countP_congr (fun k hk => ?_)
   show p_st (p_lv (x_P σ) S b) f k = true ↔ _
   unfold p_st
   rw [show p_lv (x_P σ) S b k 8 = x_P σ k 8 from if_neg (fun q => absurd q.1 (by decide)), show p_lv (x_P σ) S b k 11 = b k from if_pos ⟨rfl, hk⟩, ← hb]
   show (!decide (x_P σ k 8 < f) && decide ((if p_gone (x_P σ) S f dead k = true then (1 : Int32) else 0) = 0)) = true ↔ (!decide (x_P σ k 8 < f) && !p_gone (x_P σ) S f dead k) = true
   cases p_gone (x_P σ) S f dead k <;> cases decide (x_P σ k 8 < f) <;> decide
  rw [hcnt]
/-- what a compaction takes away -/
def p_deadC (P : Nat → Nat → Int32) (ag : Nat → Int32) (cl : Int32) (L : List Nat) (f : Int32) (k : Nat) : Bool := p_old P ag cl k || L.any (fun a => !decide (P a 8 < f) && p_cv P a k)
theorem p_lv_eq {P : Nat → Nat → Int32} {S : List Nat} {b c : Nat → Int32} (h : ∀ k ∈ S, b k = c k) : p_lv P S b = p_lv P S c := by
  funext k g
  unfold p_lv
  by_cases q : g = 11 ∧ k ∈ S
  · rw [if_pos q, if_pos q, h k q.2]
  · rw [if_neg q, if_neg q]
theorem e_flagC {σ : x_T} {L : List Nat} (hX : LX σ L) (hr : p_rows (x_P σ) L) (hok : ∀ k ∈ L, p_ok (x_P σ) k) (ho : L.Pairwise (p_ord (x_P σ))) {N : Nat} (hN : 247 < N) {t : Nat} (hf : x_I σ 4 t ≤ x_I σ 4 (t + 1)) (a1 f : Int32) (K : x_T → Option (Int32 × x_T)) : f_T_compact_L46 N a1 f (nI (p_pre (x_P σ) L (x_I σ 4 (t + 1))).length) K N (nI (p_pre (x_P σ) L (x_I σ 4 t)).length) σ = K (x_wP σ (p_lv (x_P σ) (x_sg σ L t) (fun k => if p_gone (x_P σ) (x_sg σ L t) f (p_deadC (x_P σ) (x_I σ 2) (x_S σ 2) L f) k = true then 1 else 0))) := by
  have hL := hX.2.1
  have hl := p_pre_le (x_P σ) L (x_I σ 4 (t + 1))
  rw [p_lv_eq (c := fun k => if (!decide (x_P σ k 8 < f) && p_deadC (x_P σ) (x_I σ 2) (x_S σ 2) L f k) = true then 1 else 0) (fun k hk => by unfold p_gone; rw [decide_eq_true hk, Bool.true_and])]
  refine x_lvloop hX hr hf (fun n s i => f_T_compact_L46 N a1 f (nI (p_pre (x_P σ) L (x_I σ 4 (t + 1))).length) K n i s) K (fun k => if (!decide (x_P σ k 8 < f) && p_deadC (x_P σ) (x_I σ 2) (x_S σ 2) L f k) = true then 1 else 0) hN
    (fun n s => by show f_T_compact_L46 N a1 f _ K (n + 1) _ s = _; rw [f_T_compact_L46, if_pos (nI_le (Nat.le_refl _) (by omega))])
    (fun n P' j k hP' hj hje => ?_)
  have hXs : LX (x_wP σ P') L := hX
  obtain ⟨h1, h2, h3, h4⟩ := hXs.at hj
  have hkL := List.mem_of_getElem? hj
  have cv : ∀ a c, p_cv P' a c = p_cv (x_P σ) a c := fun a c => by unfold p_cv; simp only [hP' _ _ (show 0 ≠ 11 by decide), hP' _ _ (show 1 ≠ 11 by decide), hP' _ _ (show 3 ≠ 11 by decide), hP' _ _ (show 6 ≠ 11 by decide)]
  have hrs : p_rows (x_P (x_wP σ P')) L := List.Pairwise.imp (fun {a b} q => by show P' a 0 ≤ P' b 0; rw [hP' _ _ (by decide), hP' _ _ (by decide)]; exact q) hr
  have hord : L.Pairwise (p_ord (x_P (x_wP σ P'))) := List.Pairwise.imp (fun {a b} q => by
    show (P' a 7).toInt < (P' b 7).toInt ∨ (P' a 7 = P' b 7 ∧ (P' b 6).toInt < (P' a 6).toInt)
    rw [hP' _ _ (by decide), hP' _ _ (by decide), hP' _ _ (by decide), hP' _ _ (by decide)]
    exact q) ho
  have oldx : f_T_isOldCell N (x_wP σ P') k = f_T_isOldCell N σ k := by
    unfold f_T_isOldCell
    show q_gd (q_lt k (x_N σ)) (if P' k 4 = 0 then q_gd (q_in (P' k 2) 2) (if x_I σ 2 (P' k 2).toNatClampNeg = 0 then some 0 else if x_S σ 2 < P' k 3 + x_I σ 2 (P' k 2).toNatClampNeg then some 0 else some 1) else some 0) = _
    rw [hP' _ _ (show 4 ≠ 11 by decide), hP' _ _ (show 2 ≠ 11 by decide), hP' _ _ (show 3 ≠ 11 by decide)]
  show f_T_compact_L46 N a1 f _ K (n + 1) _ _ = f_T_compact_L46 N a1 f _ K n _ _
  rw [f_T_compact_L46, if_neg (nI_ge hje (by omega)), q_gd_t h1, q_om_s h2, q_gd_t h3, ← nI_succ, oldx, e_oldX (hX.2.2 j k hj).2 (hok k hkL), Option.bind_some]
  have hco : ∀ a ∈ L, ∀ c ∈ L, p_cv (x_P (x_wP σ P')) a c = true → ¬ p_ord (x_P (x_wP σ P')) c a := fun a ha c hc q z => by
    have q1 : p_cv (x_P σ) a c = true := by rw [← cv]; exact q
    refine p_cv_ord (hok a ha) (hok c hc) q1 ?_
    have z' : (P' c 7).toInt < (P' a 7).toInt ∨ (P' c 7 = P' a 7 ∧ (P' a 6).toInt < (P' c 6).toInt) := z
    rw [hP' _ _ (by decide), hP' _ _ (by decide), hP' _ _ (by decide), hP' _ _ (by decide)] at z'
    exact z'
  have hany : L.any (fun a => !decide (x_P (x_wP σ P') a 8 < f) && p_cv (x_P (x_wP σ P')) a k) = L.any (fun a => !decide (x_P σ a 8 < f) && p_cv (x_P σ) a k) := by
    congr 1
    funext a
    show (!decide (P' a 8 < f) && p_cv P' a k) = _
    rw [hP' _ _ (by decide), cv]
  rw [e_cvd hXs hrs hco hord hN hj f, hany, Option.bind_some]
  unfold q_let
  rw [show x_P (x_wP σ P') k 8 = x_P σ k 8 from hP' _ _ (by decide)]
  unfold p_deadC
  by_cases c1 : x_P σ k 8 < f
  · rw [if_pos c1, decide_eq_true c1]
    rfl
  · rw [if_neg c1, decide_eq_false c1]
    cases p_old (x_P σ) (x_I σ 2) (x_S σ 2) k with
    | true => rw [if_neg (show ¬ (if true = true then (1 : Int32) else 0) = 0 by decide)]; rfl
    | false =>
      rw [if_pos (show (if false = true then (1 : Int32) else 0) = 0 by decide)]
      cases L.any (fun a => !decide (x_P σ a 8 < f) && p_cv (x_P σ) a k) with
      | true => rw [if_neg (show ¬ (if true = true then (1 : Int32) else 0) = 0 by decide)]; rfl
      | false => rw [if_pos (show (if false = true then (1 : Int32) else 0) = 0 by decide)]; rfl
/-- what a major compaction takes away -/
def p_deadM (P : Nat → Nat → Int32) (ag : Nat → Int32) (cl : Int32) (k : Nat) : Bool := !p_live P ag cl k
theorem e_flagM {σ : x_T} {L : List Nat} (hX : LX σ L) (hr : p_rows (x_P σ) L) (hok : ∀ k ∈ L, p_ok (x_P σ) k) {N : Nat} (hN : 247 < N) {t : Nat} (hf : x_I σ 4 t ≤ x_I σ 4 (t + 1)) (h8 : ∀ k ∈ x_sg σ L t, ¬ x_P σ k 8 < 0) (a1 : Int32) (K : x_T → Option (Int32 × x_T)) : f_T_major_L28 N a1 (nI (p_pre (x_P σ) L (x_I σ 4 (t + 1))).length) K N (nI (p_pre (x_P σ) L (x_I σ 4 t)).length) σ = K (x_wP σ (p_lv (x_P σ) (x_sg σ L t) (fun k => if p_gone (x_P σ) (x_sg σ L t) 0 (p_deadM (x_P σ) (x_I σ 2) (x_S σ 2)) k = true then 1 else 0))) := by
  have hL := hX.2.1
  have hl := p_pre_le (x_P σ) L (x_I σ 4 (t + 1))
  rw [p_lv_eq (c := fun k => if p_deadM (x_P σ) (x_I σ 2) (x_S σ 2) k = true then 1 else 0) (fun k hk => by unfold p_gone; rw [decide_eq_true hk, Bool.true_and, decide_eq_false (h8 k hk), Bool.not_false, Bool.true_and])]
  refine x_lvloop hX hr hf (fun n s i => f_T_major_L28 N a1 (nI (p_pre (x_P σ) L (x_I σ 4 (t + 1))).length) K n i s) K (fun k => if p_deadM (x_P σ) (x_I σ 2) (x_S σ 2) k = true then 1 else 0) hN
    (fun n s => by show f_T_major_L28 N a1 _ K (n + 1) _ s = _; rw [f_T_major_L28, if_pos (nI_le (Nat.le_refl _) (by omega))])
    (fun n P' j k hP' hj hje => ?_)
  have hXs : LX (x_wP σ P') L := hX
  obtain ⟨h1, h2, h3, h4⟩ := hXs.at hj
  have hkL := List.mem_of_getElem? hj
  have livex : f_T_isLive N (x_wP σ P') k = f_T_isLive N σ k := by
    unfold f_T_isLive f_T_isOldCell
    show q_gd (q_lt k (x_N σ)) (if P' k 4 = 0 then (if P' k 10 = 0 then (q_gd (q_lt k (x_N σ)) (if P' k 4 = 0 then q_gd (q_in (P' k 2) 2) (if x_I σ 2 (P' k 2).toNatClampNeg = 0 then some 0 else if x_S σ 2 < P' k 3 + x_I σ 2 (P' k 2).toNatClampNeg then some 0 else some 1) else some 0)).bind (fun r3 => if r3 = 0 then some 1 else some 0) else some 0) else some 0) = _
    rw [hP' _ _ (show 4 ≠ 11 by decide), hP' _ _ (show 2 ≠ 11 by decide), hP' _ _ (show 3 ≠ 11 by decide), hP' _ _ (show 10 ≠ 11 by decide)]
  show f_T_major_L28 N a1 _ K (n + 1) _ _ = f_T_major_L28 N a1 _ K n _ _
  rw [f_T_major_L28, if_neg (nI_ge hje (by omega)), q_gd_t h1, q_om_s h2, q_gd_t h1, q_om_s h2, q_gd_t h3, q_gd_t h3, ← nI_succ, livex, e_liveX (hX.2.2 j k hj).2 (hok k hkL), Option.bind_some]
  unfold q_let p_deadM
  cases p_live (x_P σ) (x_I σ 2) (x_S σ 2) k with
  | true => rw [if_neg (show ¬ (if true = true then (1 : Int32) else 0) = 0 by decide)]; rfl
  | false => rw [if_pos (show (if false = true then (1 : Int32) else 0) = 0 by decide)]; rfl
