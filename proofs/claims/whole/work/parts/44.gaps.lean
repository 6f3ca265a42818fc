/-! Gaps in a tablet's tables close, on both sides. -/
def q_ne (emp : Nat → Bool) (m : Nat) : Nat → Nat
  | 0 => 0
  | x + 1 => q_ne emp m x + (if m ≤ x ∧ emp x = false then 1 else 0)
theorem q_ne_lo {emp : Nat → Bool} {m : Nat} : ∀ {x : Nat}, x ≤ m → q_ne emp m x = 0 := by
  intro x
  induction x with
  | zero => intro _; rfl
  | succ x ih =>
    intro h
    rw [q_ne, ih (by omega), if_neg (by omega)]
theorem q_ne_le {emp : Nat → Bool} {m : Nat} : ∀ {x : Nat}, q_ne emp m x ≤ x - m := by
  intro x
  induction x with
  | zero => exact Nat.zero_le _
  | succ x ih =>
    rw [q_ne]
    by_cases q : m ≤ x ∧ emp x = false
    · rw [if_pos q]; omega
    · rw [if_neg q]; omega
theorem q_ne_s {emp : Nat → Bool} {m : Nat} : ∀ {x : Nat}, m < x → q_ne emp m x = (if emp m = false then 1 else 0) + q_ne emp (m + 1) x := by
  intro x
  induction x with
  | zero => intro h; omega
  | succ x ih =>
    intro h
    by_cases c : m = x
    · subst c
      rw [q_ne, q_ne_lo (Nat.le_refl _), q_ne_lo (Nat.le_refl _)]
      by_cases q : emp m = false
      · rw [if_pos ⟨Nat.le_refl _, q⟩, if_pos q]
      · rw [if_neg (fun z => q z.2), if_neg q]
    · rw [q_ne, q_ne, ih (by omega)]
      by_cases q : emp x = false
      · rw [if_pos (show m ≤ x ∧ emp x = false from ⟨by omega, q⟩), if_pos (show m + 1 ≤ x ∧ emp x = false from ⟨by omega, q⟩)]
        omega
      · rw [if_neg (show ¬ (m ≤ x ∧ emp x = false) from fun z => q z.2), if_neg (show ¬ (m + 1 ≤ x ∧ emp x = false) from fun z => q z.2)]
        omega
theorem q_ne_mono {emp : Nat → Bool} {x : Nat} : ∀ {y : Nat}, x ≤ y → q_ne emp 0 x ≤ q_ne emp 0 y := by
  intro y
  induction y with
  | zero => intro h; rw [show x = 0 by omega]; exact Nat.le_refl _
  | succ y ih =>
    intro h
    by_cases c : x = y + 1
    · rw [c]; exact Nat.le_refl _
    · have := ih (by omega)
      rw [q_ne]
      omega
theorem q_ne_lt {emp : Nat → Bool} {x y : Nat} (h : x < y) (he : emp x = false) : q_ne emp 0 x < q_ne emp 0 y := by
  have h1 := q_ne_mono (emp := emp) (show x + 1 ≤ y by omega)
  rw [q_ne, if_pos ⟨Nat.zero_le _, he⟩] at h1
  omega
theorem q_ne_ex {emp : Nat → Bool} {i : Nat} : ∀ {c : Nat}, i < q_ne emp 0 c → ∃ x, x < c ∧ emp x = false ∧ q_ne emp 0 x = i := by
  intro c
  induction c with
  | zero => intro h; exact absurd h (Nat.not_lt_zero _)
  | succ c ih =>
    intro h
    by_cases q : i < q_ne emp 0 c
    · obtain ⟨x, h1, h2⟩ := ih q
      exact ⟨x, by omega, h2⟩
    · rw [q_ne] at h
      by_cases z : emp c = false
      · rw [if_pos ⟨Nat.zero_le _, z⟩] at h
        exact ⟨c, by omega, z, by omega⟩
      · rw [if_neg (fun y => z y.2)] at h
        omega
def q_psi (emp : Nat → Bool) (m : Nat) (v : Int32) : Int32 := if v < 0 then v else nI (if v.toNatClampNeg ≤ m then v.toNatClampNeg else m + q_ne emp m v.toNatClampNeg)
theorem q_psi_neg {emp : Nat → Bool} {m : Nat} {v : Int32} (h : v < 0) : q_psi emp m v = v := if_pos h
theorem q_psi_n {emp : Nat → Bool} {m x : Nat} (h : x < 2 ^ 31) : q_psi emp m (nI x) = nI (if x ≤ m then x else m + q_ne emp m x) := by
  unfold q_psi
  rw [if_neg (nI_pos h), nI_cl h]
/-- -1, or a number of a table -/
def q_tv (v : Int32) (c : Nat) : Prop := v = -1 ∨ ∃ x : Nat, x < c ∧ v = nI x
theorem q_tv_of {v : Int32} {c : Nat} (hc : c < 2 ^ 30) (h1 : -1 ≤ v.toInt) (h2 : v.toInt < c) : q_tv v c := by
  by_cases q : v = -1
  · exact Or.inl q
  · rw [i_eq, i_m1] at q
    exact Or.inr ⟨v.toInt.toNat, by omega, by rw [i_eq, nI_toInt (by omega)]; omega⟩
theorem q_psi_eq {emp : Nat → Bool} {m c : Nat} (hc : c < 2 ^ 20) (hm : m < 2 ^ 20) {v : Int32} (hv : q_tv v c) : q_psi emp (m + 1) v = nI m ↔ v = nI m := by
  rcases hv with rfl | ⟨x, hx, rfl⟩
  · rw [q_psi_neg (by decide)]
  · have hle := q_ne_le (emp := emp) (m := m + 1) (x := x)
    rw [q_psi_n (by omega)]
    by_cases q : x ≤ m + 1
    · rw [if_pos q]
    · rw [if_neg q, nI_eq (by omega) (by omega), nI_eq (by omega) (by omega)]
      omega
theorem q_psi_up {emp : Nat → Bool} {m c : Nat} (hc : c < 2 ^ 20) (hm : m < 2 ^ 20) {v : Int32} (hv : q_tv v c) (he : emp m = true) : (if q_psi emp (m + 1) v ≤ nI m then q_psi emp (m + 1) v else q_psi emp (m + 1) v - 1) = q_psi emp m v := by
  rcases hv with rfl | ⟨x, hx, rfl⟩
  · rw [q_psi_neg (by decide), q_psi_neg (by decide), if_pos]
    rw [i_le, i_m1, nI_toInt (by omega)]
    omega
  · have hle := q_ne_le (emp := emp) (m := m + 1) (x := x)
    rw [q_psi_n (by omega), q_psi_n (by omega)]
    by_cases q : x ≤ m
    · rw [if_pos (show x ≤ m + 1 by omega), if_pos q, if_pos (nI_le q (by omega))]
    · have e : q_ne emp m x = q_ne emp (m + 1) x := by
        rw [q_ne_s (by omega), if_neg (by rw [he]; decide), Nat.zero_add]
      rw [if_neg q, e]
      by_cases q2 : x ≤ m + 1
      · obtain rfl : x = m + 1 := by omega
        rw [if_pos (Nat.le_refl _), if_neg (nI_ge (by omega) (by omega)), nI_pred, q_ne_lo (Nat.le_refl _)]
        rfl
      · rw [if_neg q2, if_neg (nI_ge (by omega) (by omega)), show m + 1 + q_ne emp (m + 1) x = (m + q_ne emp (m + 1) x) + 1 by omega, nI_pred]
theorem q_psi_st {emp : Nat → Bool} {m c : Nat} (hc : c < 2 ^ 20) {v : Int32} (hv : q_tv v c) (he : emp m = false) : q_psi emp (m + 1) v = q_psi emp m v := by
  rcases hv with rfl | ⟨x, hx, rfl⟩
  · rw [q_psi_neg (by decide), q_psi_neg (by decide)]
  · rw [q_psi_n (by omega), q_psi_n (by omega)]
    by_cases q : x ≤ m
    · rw [if_pos (show x ≤ m + 1 by omega), if_pos q]
    · rw [if_neg q, q_ne_s (m := m) (by omega), if_pos he]
      by_cases q2 : x ≤ m + 1
      · obtain rfl : x = m + 1 := by omega
        rw [if_pos (Nat.le_refl _), q_ne_lo (Nat.le_refl _)]
      · rw [if_neg q2]
        congr 1
        omega
def q_emp (P : Nat → Nat → Int32) (S : List Nat) (e : Nat) : Bool := !S.any (fun k => decide (P k 8 = nI e))
theorem q_emp_t {P : Nat → Nat → Int32} {S : List Nat} {e : Nat} : q_emp P S e = true ↔ ∀ k ∈ S, ¬ P k 8 = nI e := by
  unfold q_emp
  rw [Bool.not_eq_true', List.any_eq_false]
  exact ⟨fun h k hk q => h k hk (decide_eq_true q), fun h k hk q => h k hk (of_decide_eq_true q)⟩
theorem q_emp_f {P : Nat → Nat → Int32} {S : List Nat} {e : Nat} : q_emp P S e = false ↔ ∃ k ∈ S, P k 8 = nI e := by
  unfold q_emp
  rw [Bool.not_eq_false', List.any_eq_true]
  exact ⟨fun ⟨k, hk, q⟩ => ⟨k, hk, of_decide_eq_true q⟩, fun ⟨k, hk, q⟩ => ⟨k, hk, decide_eq_true q⟩⟩
theorem p_map_map {P : Nat → Nat → Int32} {l : List Nat} {φ ψ : Int32 → Int32} : p_map (p_map P l φ) l ψ = p_map P l (fun v => ψ (φ v)) := by
  funext k f
  by_cases q : f = 8 ∧ k ∈ l
  · obtain ⟨rfl, hk⟩ := q
    rw [p_map_in hk, p_map_in hk, p_map_in hk]
  · exact (if_neg q).trans ((if_neg q).trans (if_neg q).symm)
theorem p_map_congr {P : Nat → Nat → Int32} {l : List Nat} {φ ψ : Int32 → Int32} (h : ∀ k ∈ l, φ (P k 8) = ψ (P k 8)) : p_map P l φ = p_map P l ψ := by
  funext k f
  by_cases q : f = 8 ∧ k ∈ l
  · obtain ⟨rfl, hk⟩ := q
    rw [p_map_in hk, p_map_in hk, h k hk]
  · exact (if_neg q).trans (if_neg q).symm
theorem p_map_id {P : Nat → Nat → Int32} {l : List Nat} {φ : Int32 → Int32} (h : ∀ k ∈ l, φ (P k 8) = P k 8) : p_map P l φ = P := by
  funext k f
  by_cases q : f = 8 ∧ k ∈ l
  · obtain ⟨rfl, hk⟩ := q
    rw [p_map_in hk, h k hk]
  · exact if_neg q
def p_up (m : Nat) (v : Int32) : Int32 := if v ≤ nI m then v else v - 1
theorem e_moveUp {σ : x_T} {L : List Nat} (hX : LX σ L) (hn : L.Nodup) (hr : p_rows (x_P σ) L) {N : Nat} (hN : 247 < N) {t : Nat} (ht : t < 8) (hf : x_I σ 4 t ≤ x_I σ 4 (t + 1)) (m : Nat) : f_T_moveUpBehind N σ (nI t) (nI m) = some (x_wP σ (p_map (x_P σ) (x_sg σ L t) (p_up m))) := by
  unfold f_T_moveUpBehind
  rw [e_endOf hX hr hN ht, Option.bind_some, e_startOf hX hr hN (by omega), Option.bind_some]
  have hL := hX.2.1
  have hl := p_pre_le (x_P σ) L (x_I σ 4 (t + 1))
  exact x_tabloop hX hn hr hf (fun n s i => f_T_moveUpBehind_L13 N (nI m) (nI (p_pre (x_P σ) L (x_I σ 4 (t + 1))).length) (fun t14 => some t14) n i s) (fun t14 => some t14) (p_up m) hN
    (fun n s => by show f_T_moveUpBehind_L13 N _ _ _ (n + 1) _ s = _; rw [f_T_moveUpBehind_L13, if_pos (nI_le (Nat.le_refl _) (by omega))])
    (fun n s j k hI hj hje => by
      obtain ⟨h1, h2, h3, h4⟩ := hI.at hj
      show f_T_moveUpBehind_L13 N _ _ _ (n + 1) _ s = f_T_moveUpBehind_L13 N _ _ _ n _ _
      rw [f_T_moveUpBehind_L13, if_neg (nI_ge hje (by omega)), q_gd_t h1, q_om_s h2, q_gd_t h3, q_gd_t h1, q_om_s h2, q_gd_t h3, ← nI_succ]
      unfold q_let p_up
      by_cases hc : x_P s k 8 ≤ nI m
      · rw [if_pos hc, if_pos hc, ← x_wP_id rfl]
      · rw [if_neg hc, x_sP_w, if_neg hc])
theorem e_gapsL {σ : x_T} {L : List Nat} (hX : LX σ L) (hn : L.Nodup) (hr : p_rows (x_P σ) L) {N : Nat} (hN : 247 < N) {t : Nat} (ht : t < 8) (hf : x_I σ 4 t ≤ x_I σ 4 (t + 1)) {c : Nat} (hc : c < 2 ^ 20) (hv : ∀ k ∈ x_sg σ L t, q_tv (x_P σ k 8) c) (K : x_T → Option x_T) : ∀ (m n : Nat), m < 2 ^ 20 → m < n → f_T_closeGaps_L8 N (nI t) K n (nI m - 1) (x_wP σ (p_map (x_P σ) (x_sg σ L t) (q_psi (q_emp (x_P σ) (x_sg σ L t)) m))) = K (x_wP σ (p_map (x_P σ) (x_sg σ L t) (q_psi (q_emp (x_P σ) (x_sg σ L t)) 0))) := by
  intro m
  induction m with
  | zero =>
    intro n _ hnn
    obtain ⟨n, rfl⟩ : ∃ a, n = a + 1 := ⟨n - 1, by omega⟩
    rw [f_T_closeGaps_L8, if_pos (by decide)]
  | succ m ih =>
    intro n hm hnn
    obtain ⟨n, rfl⟩ : ∃ a, n = a + 1 := ⟨n - 1, by omega⟩
    have e := ih n (by omega) (by omega)
    have hX1 : LX (x_wP σ (p_map (x_P σ) (x_sg σ L t) (q_psi (q_emp (x_P σ) (x_sg σ L t)) (m + 1)))) L := hX
    have hr1 : p_rows (x_P (x_wP σ (p_map (x_P σ) (x_sg σ L t) (q_psi (q_emp (x_P σ) (x_sg σ L t)) (m + 1))))) L := hr
    rw [nI_pred, f_T_closeGaps_L8, if_neg (nI_pos (by omega)), e_entriesIn hX1 hr1 hN ht hf, Option.bind_some, nI_dec, e_moveUp hX1 hn hr1 hN ht hf, Option.bind_some]
    have hcnt : (x_sg σ L t).countP (fun k => decide (p_map (x_P σ) (x_sg σ L t) (q_psi (q_emp (x_P σ) (x_sg σ L t)) (m + 1)) k 8 = nI m)) = (x_sg σ L t).countP (fun k => decide (x_P σ k 8 = nI m)) := by
      refine List.countP_congr (fun k hk => ?_)
      rw [decide_eq_true_eq, decide_eq_true_eq, p_map_in hk]
      exact q_psi_eq hc (by omega) (hv k hk)
    have hle : (x_sg σ L t).countP (fun k => decide (x_P σ k 8 = nI m)) ≤ 247 := Nat.le_trans List.countP_le_length (x_sg_len hX t)
    have hcnt2 : (x_sg (x_wP σ (p_map (x_P σ) (x_sg σ L t) (q_psi (q_emp (x_P σ) (x_sg σ L t)) (m + 1)))) L t).countP (fun k => decide (x_P (x_wP σ (p_map (x_P σ) (x_sg σ L t) (q_psi (q_emp (x_P σ) (x_sg σ L t)) (m + 1)))) k 8 = nI m)) = (x_sg σ L t).countP (fun k => decide (x_P σ k 8 = nI m)) := hcnt
    rw [hcnt2]
    cases he : q_emp (x_P σ) (x_sg σ L t) m with
    | true =>
      have h0 : (x_sg σ L t).countP (fun k => decide (x_P σ k 8 = nI m)) = 0 := by
        rw [List.countP_eq_zero]
        intro k hk q
        exact q_emp_t.mp he k hk (of_decide_eq_true q)
      rw [h0, nI_0, if01]
      have hs : x_wP (x_wP σ (p_map (x_P σ) (x_sg σ L t) (q_psi (q_emp (x_P σ) (x_sg σ L t)) (m + 1)))) (p_map (x_P (x_wP σ (p_map (x_P σ) (x_sg σ L t) (q_psi (q_emp (x_P σ) (x_sg σ L t)) (m + 1))))) (x_sg (x_wP σ (p_map (x_P σ) (x_sg σ L t) (q_psi (q_emp (x_P σ) (x_sg σ L t)) (m + 1)))) L t) (p_up m)) = x_wP σ (p_map (x_P σ) (x_sg σ L t) (q_psi (q_emp (x_P σ) (x_sg σ L t)) m)) := by
        show x_wP σ (p_map (p_map (x_P σ) (x_sg σ L t) (q_psi (q_emp (x_P σ) (x_sg σ L t)) (m + 1))) (x_sg σ L t) (p_up m)) = _
        rw [p_map_map]
        congr 1
        exact p_map_congr (fun k hk => q_psi_up hc (by omega) (hv k hk) he)
      rw [hs]
      exact e
    | false =>
      have h0 : ¬ nI ((x_sg σ L t).countP (fun k => decide (x_P σ k 8 = nI m))) = 0 := by
        obtain ⟨k, hk, q⟩ := q_emp_f.mp he
        exact nI_ne0 (List.countP_pos_iff.mpr ⟨k, hk, decide_eq_true q⟩) (by omega)
      rw [if_neg h0]
      rw [show p_map (x_P σ) (x_sg σ L t) (q_psi (q_emp (x_P σ) (x_sg σ L t)) (m + 1)) = p_map (x_P σ) (x_sg σ L t) (q_psi (q_emp (x_P σ) (x_sg σ L t)) m) from p_map_congr (fun k hk => q_psi_st hc (hv k hk) he)]
      exact e
/-- a bound on a tablet's tables that is met -/
theorem p_tb_ex {P : Nat → Nat → Int32} {l : List Nat} : ∀ (c : Nat), (∀ k ∈ l, -1 ≤ (P k 8).toInt ∧ (P k 8).toInt < c) → ∃ c', c' ≤ c ∧ (∀ k ∈ l, -1 ≤ (P k 8).toInt ∧ (P k 8).toInt < c') ∧ (0 < c' → ∃ k ∈ l, P k 8 = nI (c' - 1)) := by
  intro c
  induction c with
  | zero => intro h; exact ⟨0, Nat.le_refl _, h, fun q => absurd q (by omega)⟩
  | succ c ih =>
    intro h
    by_cases q : ∃ k ∈ l, P k 8 = nI c
    · exact ⟨c + 1, Nat.le_refl _, h, fun _ => q⟩
    · by_cases hb : c < 2 ^ 31
      · obtain ⟨c', h1, h2⟩ := ih (fun k hk => by
          have h3 := h k hk
          refine ⟨h3.1, ?_⟩
          have : ¬ (P k 8).toInt = c := fun z => q ⟨k, hk, by rw [i_eq, nI_toInt hb]; exact z⟩
          omega)
        exact ⟨c', by omega, h2⟩
      · obtain ⟨c', h1, h2⟩ := ih (fun k hk => by
          have h3 := h k hk
          refine ⟨h3.1, ?_⟩
          have := Int32.toInt_lt (P k 8)
          omega)
        exact ⟨c', by omega, h2⟩
theorem p_tb_mx {P : Nat → Nat → Int32} {l : List Nat} {c : Nat} (hc : c < 2 ^ 30) (h1 : ∀ k ∈ l, -1 ≤ (P k 8).toInt ∧ (P k 8).toInt < c) (h2 : 0 < c → ∃ k ∈ l, P k 8 = nI (c - 1)) : l.foldl (fun (v : Int32) k => if v < P k 8 then P k 8 else v) (-1) + 1 = nI c := by
  have h0 := p_mx (P := P) l (-1)
  simp only at h0
  obtain ⟨⟨g1, g2⟩, g3⟩ := h0
  generalize l.foldl (fun (v : Int32) k => if v < P k 8 then P k 8 else v) (-1) = m at g1 g2 g3 ⊢
  rw [i_le, i_m1] at g1
  by_cases h0 : c = 0
  · subst h0
    rcases g3 with h3 | ⟨k, hk, h3⟩
    · rw [h3]; rfl
    · have h4 := h1 k hk
      rw [← h3] at h4
      have h5 : m = -1 := by rw [i_eq, i_m1]; omega
      rw [h5]; rfl
  · obtain ⟨k, hk, e⟩ := h2 (by omega)
    have h4 := g2 k hk
    rw [e, i_le, nI_toInt (by omega)] at h4
    have h5 : m.toInt < c := by
      rcases g3 with h3 | ⟨k, hk, h3⟩
      · rw [h3, i_m1]; omega
      · rw [h3]; exact (h1 k hk).2
    have h6 : m = nI (c - 1) := by rw [i_eq, nI_toInt (by omega)]; omega
    rw [h6, ← nI_succ]
    congr 1
    omega
theorem e_gapsX {σ : x_T} {L : List Nat} (hX : LX σ L) (hn : L.Nodup) (hr : p_rows (x_P σ) L) {N : Nat} (hN : 247 < N) {t : Nat} (ht : t < 8) (hf : x_I σ 4 t ≤ x_I σ 4 (t + 1)) {c : Nat} (hc : c ≤ 247) (hb : ∀ k ∈ x_sg σ L t, -1 ≤ (x_P σ k 8).toInt ∧ (x_P σ k 8).toInt < c) : f_T_closeGaps N σ (nI t) = some (x_wP σ (p_map (x_P σ) (x_sg σ L t) (q_psi (q_emp (x_P σ) (x_sg σ L t)) 0))) := by
  obtain ⟨c', hc', b1, b2⟩ := p_tb_ex c hb
  have htc : f_T_tableCount N σ (nI t) = some (nI c') := by
    unfold f_T_tableCount
    rw [e_endOf hX hr hN ht, Option.bind_some, e_startOf hX hr hN (by omega), Option.bind_some]
    have hl := p_pre_le (x_P σ) L (x_I σ 4 (t + 1))
    have hL := hX.2.1
    have h := q_loop L (fun n (s : Int32) i => f_T_tableCount_L15 N σ (nI (p_pre (x_P σ) L (x_I σ 4 (t + 1))).length) (fun v2 => some (v2 + 1)) n s i) (fun s => some (s + 1)) (fun v k => if v < x_P σ k 8 then x_P σ k 8 else v) (fun _ => True) _ hl
      (fun n s _ => by show f_T_tableCount_L15 N σ _ _ (n + 1) s _ = _; rw [f_T_tableCount_L15, if_pos (nI_le (Nat.le_refl _) (by omega))])
      (fun n s j k _ hj hje => by
        obtain ⟨h1, h2, h3, h4⟩ := hX.at hj
        refine ⟨?_, trivial⟩
        show f_T_tableCount_L15 N σ _ _ (n + 1) s _ = f_T_tableCount_L15 N σ _ _ n _ _
        rw [f_T_tableCount_L15, if_neg (nI_ge hje (by omega)), q_gd_t h1, q_om_s h2, q_gd_t h3, ← nI_succ])
      (x_sg σ L t) (p_pre (x_P σ) L (x_I σ 4 t)) N (-1) (p_split hr hf) (by have := x_sg_len hX t; omega) trivial
    rw [p_tb_mx (by omega) b1 b2] at h
    exact h.1
  unfold f_T_closeGaps
  rw [htc, Option.bind_some]
  have hid : p_map (x_P σ) (x_sg σ L t) (q_psi (q_emp (x_P σ) (x_sg σ L t)) c') = x_P σ := p_map_id (fun k hk => by
    have b := b1 k hk
    by_cases q : x_P σ k 8 < 0
    · exact q_psi_neg q
    · rw [i_lt, i_0] at q
      obtain ⟨x, hx, e⟩ : ∃ x : Nat, x < c' ∧ x_P σ k 8 = nI x := ⟨(x_P σ k 8).toInt.toNat, by omega, by rw [i_eq, nI_toInt (by omega)]; omega⟩
      rw [e, q_psi_n (by omega), if_pos (by omega)])
  have e := e_gapsL hX hn hr hN ht hf (c := c) (by omega) (fun k hk => q_tv_of (by omega) (hb k hk).1 (hb k hk).2) (fun t7 => some t7) c' N (by omega) (by omega)
  rw [hid] at e
  exact e
