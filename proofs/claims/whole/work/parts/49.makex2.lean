/-! An entry is made: the class, all steps. -/
theorem dw_place {P : Nat → Nat → Int32} {L : List Nat} (h : L.Pairwise (fun a b => (P a 7).toInt ≤ (P b 7).toInt)) (v : Int32) : ∀ b ∈ L.dropWhile (fun a => decide (P a 7 < v)), ¬ P b 7 < v := by
  induction L with
  | nil => intro b hb; cases hb
  | cons k l ih =>
    obtain ⟨h1, h2⟩ := List.pairwise_cons.mp h
    intro b hb
    by_cases hk : P k 7 < v
    · rw [List.dropWhile_cons_of_pos (by simpa using hk)] at hb
      exact ih h2 b hb
    · rw [List.dropWhile_cons_of_neg (by simpa using hk)] at hb
      rcases List.mem_cons.mp hb with rfl | hb
      · exact hk
      · have := h1 b hb
        rw [i_lt] at hk ⊢
        omega
theorem tw_place {P : Nat → Nat → Int32} {v : Int32} : ∀ {L : List Nat}, ∀ a ∈ L.takeWhile (fun a => decide (P a 7 < v)), P a 7 < v := by
  intro L
  induction L with
  | nil => intro a ha; cases ha
  | cons k l ih =>
    intro a ha
    by_cases hk : P k 7 < v
    · rw [List.takeWhile_cons_of_pos (by simpa using hk)] at ha
      rcases List.mem_cons.mp ha with rfl | ha
      · exact hk
      · exact ih a ha
    · rw [List.takeWhile_cons_of_neg (by simpa using hk)] at ha
      cases ha
theorem nodup_inj {l : List Nat} (h : l.Nodup) {i j a : Nat} (hi : l[i]? = some a) (hj : l[j]? = some a) : i = j := by
  obtain ⟨l1, e1⟩ := List.getElem?_eq_some_iff.mp hi
  obtain ⟨l2, e2⟩ := List.getElem?_eq_some_iff.mp hj
  rcases Nat.lt_trichotomy i j with q | q | q
  · exact absurd (e1.trans e2.symm) (List.pairwise_iff_getElem.mp h i j l1 l2 q)
  · exact q
  · exact absurd (e2.trans e1.symm) (List.pairwise_iff_getElem.mp h j i l2 l1 q)
theorem nodup_ins {A Bs : List Nat} {k : Nat} (h : (A ++ Bs).Nodup) (hk : k ∉ A ++ Bs) : (A ++ k :: Bs).Nodup := by
  have h1 : (k :: (A ++ Bs)).Nodup := List.nodup_cons.mpr ⟨hk, h⟩
  exact (List.Perm.nodup_iff List.perm_middle).mpr h1
theorem e_makeX {σ : x_T} {L : List Nat} (hX : LX σ L) (hn : L.Nodup) (hP : r_P σ) (hl : L.length < 247) {s : Nat} (h5 : x_S σ 5 = nI s) (hso : L.Pairwise (fun a b => (x_P σ a 7).toInt ≤ (x_P σ b 7).toInt)) {N : Nat} (hN : 247 < N) (r c tm e : Int32) (he : e = 0 ∨ e = 1) : ∃ (k : Nat) (A Bs : List Nat) (E3 : Nat → Option Nat) (N3 : Nat) (P3 : Nat → Nat → Int32), f_T_makeEntry N σ r c tm e = some (some k, x_g σ (va_up (va_up σ.1 5 (nI (s + 1))) 4 (nI (L.length + 1))) E3 N3 P3) ∧ L = A ++ Bs ∧ k ∉ L ∧ (∀ a ∈ A, x_P σ a 7 < p_pl r c tm) ∧ (∀ b ∈ Bs, ¬ x_P σ b 7 < p_pl r c tm) ∧ (∀ x a : Nat, (A ++ k :: Bs)[x]? = some a → E3 x = some a) ∧ (∀ i a, E3 i = some a → a < N3) ∧ (∀ i i' a, E3 i = some a → E3 i' = some a → i = i') ∧ (P3 k 0 = r ∧ P3 k 1 = c ∧ P3 k 2 = (if c < 4 then 0 else 1) ∧ P3 k 3 = tm ∧ P3 k 4 = e ∧ P3 k 5 = 0 ∧ P3 k 6 = nI (s + 1) ∧ P3 k 7 = p_pl r c tm ∧ P3 k 8 = -1 ∧ P3 k 9 = 0 ∧ P3 k 10 = 0 ∧ P3 k 11 = 0) ∧ (∀ a ∈ L, ∀ g, P3 a g = if g = 10 ∧ p_cv P3 k a = true then 1 else x_P σ a g) := by
  obtain ⟨k, E1, N1, P1, u1, u2, u3, u4, u5, u6, u7, u8⟩ := e_unused hX hP hl N
  have hLN : ∀ a ∈ L, a < N1 := fun a ha => by
    obtain ⟨i, hi⟩ := List.getElem?_of_mem ha
    have := (hX.2.2 i a hi).2
    omega
  have hkN : k < N1 := u5 _ _ u2
  generalize hs1 : x_sS (x_g σ σ.1 E1 N1 P1) 5 (nI (s + 1)) = s1
  have hs1N : x_N s1 = N1 := by rw [← hs1]; rfl
  have hs1P : x_P s1 = P1 := by rw [← hs1]; rfl
  have hb := e_beginE (s := s1) (k := k) (by rw [hs1N]; exact hkN) N r c tm e (nI (s + 1)) he
  generalize hs2 : x_beg s1 k r c (if c < 4 then 0 else 1) tm e (nI (s + 1)) (p_pl r c tm) = s2 at hb
  have hs2e : s2 = x_wP s1 (x_P s2) := by rw [← hs2]; exact x_beg_w
  have at2 : x_P s2 k 0 = r ∧ x_P s2 k 1 = c ∧ x_P s2 k 2 = (if c < 4 then 0 else 1) ∧ x_P s2 k 3 = tm ∧ x_P s2 k 4 = e ∧ x_P s2 k 5 = 0 ∧ x_P s2 k 6 = nI (s + 1) ∧ x_P s2 k 7 = p_pl r c tm ∧ x_P s2 k 8 = -1 ∧ x_P s2 k 9 = 0 ∧ x_P s2 k 10 = 0 ∧ x_P s2 k 11 = 0 := by rw [← hs2]; exact x_beg_at
  have ne2 : ∀ a ∈ L, ∀ g, x_P s2 a g = x_P σ a g := fun a ha g => by
    have hak : ¬ a = k := fun q => u7 (q ▸ ha)
    rw [← hs2, x_beg_ne hak, hs1P, u8 a ha]
  have hX2 : LX s2 L := by
    rw [hs2e]
    refine ⟨?_, hX.2.1, fun i a ha => ⟨?_, ?_⟩⟩
    · rw [← hs1]
      exact hX.1
    · have hi := (List.getElem?_eq_some_iff.mp ha).1
      have : x_E (x_wP s1 (x_P s2)) i = E1 i := by rw [← hs1]; rfl
      rw [this, u3 i (by omega)]
      exact (hX.2.2 i a ha).1
    · have : x_N (x_wP s1 (x_P s2)) = N1 := hs1N
      rw [this]
      exact hLN a (List.mem_of_getElem? ha)
  have hk2 : k < x_N s2 := by rw [hs2e]; show k < x_N s1; rw [hs1N]; exact hkN
  obtain ⟨P3, c1, c2⟩ := e_coverE hX2 hk2 hN (fun t22 => (f_T_insert N t22 k).bind fun s24 => some ((some k), s24))
  have ne3 : ∀ a g, g ≠ 10 → P3 a g = x_P s2 a g := fun a g hg => by rw [c2, if_neg (fun q => hg q.1)]
  have at3 : ∀ g, P3 k g = x_P s2 k g := fun g => by rw [c2, if_neg (fun q => u7 q.2.1)]
  -- where it goes
  have hAB : L = L.takeWhile (fun a => decide (x_P σ a 7 < p_pl r c tm)) ++ L.dropWhile (fun a => decide (x_P σ a 7 < p_pl r c tm)) := List.takeWhile_append_dropWhile.symm
  have hA : ∀ a ∈ L.takeWhile (fun a => decide (x_P σ a 7 < p_pl r c tm)), x_P σ a 7 < p_pl r c tm := tw_place
  have hB : ∀ b ∈ L.dropWhile (fun a => decide (x_P σ a 7 < p_pl r c tm)), ¬ x_P σ b 7 < p_pl r c tm := dw_place hso _
  generalize L.takeWhile (fun a => decide (x_P σ a 7 < p_pl r c tm)) = A at *
  generalize L.dropWhile (fun a => decide (x_P σ a 7 < p_pl r c tm)) = Bs at *
  have hlen : L.length = A.length + Bs.length := by rw [hAB]; exact List.length_append
  have hmA : ∀ a ∈ A, a ∈ L := fun a ha => by rw [hAB]; exact List.mem_append.mpr (Or.inl ha)
  have hmB : ∀ a ∈ Bs, a ∈ L := fun a ha => by rw [hAB]; exact List.mem_append.mpr (Or.inr ha)
  have p7 : ∀ a ∈ L, x_P (x_wP s2 P3) a 7 = x_P σ a 7 := fun a ha => (ne3 a 7 (by decide)).trans (ne2 a ha 7)
  have p7k : x_P (x_wP s2 P3) k 7 = p_pl r c tm := (at3 7).trans at2.2.2.2.2.2.2.2.1
  have hE2 : x_E (x_wP s2 P3) = E1 := by rw [hs2e, ← hs1]; rfl
  have hN2 : x_N (x_wP s2 P3) = N1 := by rw [hs2e, ← hs1]; rfl
  have hself : x_eE (x_wP s2 P3) E1 = x_wP s2 P3 := by rw [← hE2]; rfl
  obtain ⟨E', i1, i2, i3, i4⟩ := e_insertL (s := x_wP s2 P3) (A := A) (Bs := Bs) (k := k) (by rw [← hAB]; exact hl) (fun a ha => by rw [← hAB] at ha; rw [hN2]; exact hLN a ha) (by rw [hN2]; exact hkN) (fun a ha => by rw [p7 a (hmA a ha), p7k]; exact hA a ha) (fun b hb => by rw [p7 b (hmB b hb), p7k]; exact hB b hb) N (fun v2 t13 => q_gd (q_lt k (x_N t13)) <| q_gd (q_in v2 247) <| q_let (x_sE t13 ((v2 : Int32).toNatClampNeg) k) fun s16 => q_let (x_sS s16 4 ((x_S s16 4) + 1)) fun s18 => some s18) E1 Bs.length N E1 (Nat.le_refl _) (by omega) (fun x a hx ha => by
      rw [← hAB] at ha
      rw [u3 x (by have := (List.getElem?_eq_some_iff.mp ha).1; omega)]
      exact (hX.2.2 x a ha).1) (fun x a hx ha => by
      rw [← hAB] at ha
      have := (List.getElem?_eq_some_iff.mp ha).1
      omega) (fun x _ => rfl)
  rw [hself, ← hlen] at i1
  rw [← hAB] at i2 i3 i4
  have hins : f_T_insert N (x_wP s2 P3) k = some (x_sS (x_sE (x_eE (x_wP s2 P3) E') A.length k) 4 (nI (L.length + 1))) := by
    unfold f_T_insert
    have h4 : x_S (x_wP s2 P3) 4 = nI L.length := hX2.1
    rw [h4, i1, q_gd_t (show q_lt k (x_N (x_eE (x_wP s2 P3) E')) = true from q_lt_of (by show k < x_N (x_wP s2 P3); rw [hN2]; exact hkN)), q_gd_t (q_in_of (show A.length < 247 by omega) (by omega)), nI_cl (by omega), nI_succ]
    show some (x_sS (x_sE (x_eE (x_wP s2 P3) E') A.length k) 4 (x_S (x_wP s2 P3) 4 + 1)) = _
    rw [h4]
  have hE3 : ∀ x a : Nat, (A ++ k :: Bs)[x]? = some a → va_up E' A.length (some k) x = some a := fun x a ha => by
    by_cases q : x = A.length
    · subst q
      rw [List.getElem?_append_right (Nat.le_refl _), Nat.sub_self] at ha
      obtain rfl : k = a := Option.some.inj ha
      exact if_pos rfl
    · rw [show va_up E' A.length (some k) x = E' x from if_neg q]
      by_cases q2 : x < A.length
      · rw [List.getElem?_append_left q2] at ha
        refine i2 x a q2 ?_
        rw [hAB, List.getElem?_append_left q2]
        exact ha
      · obtain ⟨y, rfl⟩ : ∃ y, x = y + 1 := ⟨x - 1, by omega⟩
        refine i3 y a (by omega) ?_
        rw [List.getElem?_append_right (by omega), show y + 1 - A.length = (y - A.length) + 1 by omega, List.getElem?_cons_succ] at ha
        rw [hAB, List.getElem?_append_right (by omega)]
        exact ha
  have hlen' : (A ++ k :: Bs).length = L.length + 1 := by rw [List.length_append, List.length_cons]; omega
  have hmem' : ∀ a ∈ A ++ k :: Bs, a = k ∨ a ∈ L := fun a ha => by
    rcases List.mem_append.mp ha with q | q
    · exact Or.inr (hmA a q)
    · rcases List.mem_cons.mp q with q | q
      · exact Or.inl q
      · exact Or.inr (hmB a q)
  have hslot : ∀ i, i ≤ L.length → ∃ a, (A ++ k :: Bs)[i]? = some a ∧ va_up E' A.length (some k) i = some a := fun i hi => by
    obtain ⟨a, ha⟩ : ∃ a, (A ++ k :: Bs)[i]? = some a := ⟨_, List.getElem?_eq_getElem (by omega)⟩
    exact ⟨a, ha, hE3 i a ha⟩
  have hfar : ∀ i, L.length < i → va_up E' A.length (some k) i = E1 i := fun i hi => by
    rw [show va_up E' A.length (some k) i = E' i from if_neg (by omega)]
    exact i4 i hi
  have hE1L : ∀ i a, L.length < i → E1 i = some a → a ≠ k ∧ a ∉ L := fun i a hi ha => by
    refine ⟨fun q => ?_, fun q => ?_⟩
    · rw [q] at ha
      have := u6 i L.length k ha u2
      omega
    · obtain ⟨y, hy⟩ := List.getElem?_of_mem q
      have hyl := (List.getElem?_eq_some_iff.mp hy).1
      have h1 : E1 y = some a := by rw [u3 y (by omega)]; exact (hX.2.2 y a hy).1
      have := u6 i y a ha h1
      omega
  refine ⟨k, A, Bs, va_up E' A.length (some k), N1, P3, ?_, hAB, u7, hA, hB, hE3, fun i a ha => ?_, fun i i' a ha ha' => ?_, ?_, fun a ha g => ?_⟩
  · unfold f_T_makeEntry
    rw [hX.1, if_pos (show nI L.length < 247 by rw [show (247 : Int32) = nI 247 from rfl, nI_ltI (by omega) (by omega)]; exact hl), u1, Option.bind_some, q_om_s rfl]
    show q_gd (q_lt k (x_N (x_sS (x_g σ σ.1 E1 N1 P1) 5 (x_S σ 5 + 1)))) ((f_E_begin N (x_sS (x_g σ σ.1 E1 N1 P1) 5 (x_S σ 5 + 1)) k r c tm e (x_S σ 5 + 1)).bind _) = _
    rw [h5, ← nI_succ, hs1, q_gd_t (q_lt_of (by rw [hs1N]; exact hkN)), hb, Option.bind_some]
    refine Eq.trans c1 ?_
    rw [hins, Option.bind_some]
    congr 2
    rw [hs2e, ← hs1]
    rfl
  · by_cases q : i ≤ L.length
    · obtain ⟨b, hb1, hb2⟩ := hslot i q
      obtain rfl : b = a := Option.some.inj (hb2.symm.trans ha)
      rcases hmem' b (List.mem_of_getElem? hb1) with z | z
      · rw [z]; exact hkN
      · exact hLN b z
    · rw [hfar i (by omega)] at ha
      exact u5 i a ha
  · by_cases q : i ≤ L.length
    · obtain ⟨b, hb1, hb2⟩ := hslot i q
      obtain rfl : b = a := Option.some.inj (hb2.symm.trans ha)
      have hbm := hmem' b (List.mem_of_getElem? hb1)
      by_cases q' : i' ≤ L.length
      · obtain ⟨b', hb1', hb2'⟩ := hslot i' q'
        obtain rfl : b' = b := Option.some.inj (hb2'.symm.trans ha')
        exact nodup_inj (nodup_ins (by rw [← hAB]; exact hn) (by rw [← hAB]; exact u7)) hb1 hb1'
      · rw [hfar i' (by omega)] at ha'
        have := hE1L i' b (by omega) ha'
        rcases hbm with z | z
        · exact absurd z this.1
        · exact absurd z this.2
    · rw [hfar i (by omega)] at ha
      have hx := hE1L i a (by omega) ha
      by_cases q' : i' ≤ L.length
      · obtain ⟨b', hb1', hb2'⟩ := hslot i' q'
        obtain rfl : b' = a := Option.some.inj (hb2'.symm.trans ha')
        rcases hmem' b' (List.mem_of_getElem? hb1') with z | z
        · exact absurd z hx.1
        · exact absurd z hx.2
      · rw [hfar i' (by omega)] at ha'
        exact u6 i i' a ha ha'
  · rw [at3, at3, at3, at3, at3, at3, at3, at3, at3, at3, at3, at3]
    exact at2
  · have hcv : p_cv P3 k a = p_cv (x_P s2) k a := by
      unfold p_cv
      rw [at3, at3, at3, at3, ne3 a 0 (by decide), ne3 a 1 (by decide), ne3 a 3 (by decide), ne3 a 6 (by decide)]
    rw [hcv, c2, ne2 a ha g]
    by_cases q : g = 10 ∧ p_cv (x_P s2) k a = true
    · rw [if_pos q, if_pos ⟨q.1, ha, q.2⟩]
    · rw [if_neg q, if_neg (fun z => q ⟨z.1, z.2.2⟩)]
