set_option maxHeartbeats 40000000 in
set_option maxRecDepth 100000 in
theorem c_T_moveUpBehind (l : Launch) (D : va_G) (b ad : Nat → Nat) (cs : Nat → ClassId) (N : Nat) (σ : x_T) (a1 : Int32) (a2 : Int32) (σ' : x_T) (h : f_T_moveUpBehind N σ a1 a2 = some σ') : x_Cv l y_T_moveUpBehind b_T_moveUpBehind 5 none { frames := 2, cells := 0, slots := 0, locals := 43 } D b ad cs σ [.ref (b 0), .int (a1), .int (a2)] σ' := by
  refine x_met_v (own := R_T) (by decide) rfl (Nat.le_of_ble_eq_true rfl) ?_
  intro p e s m args below meth c A G hr hlk hml ls hl V
  have hx := G.1
  have hb := G.2.1
  have hown := G.2.2.1
  have hts := G.2.2.2.1
  have hN := G.2.2.2.2.2
  have hl : lv_has ls 5 [(0, .ref (b 0)), (1, .int (a1)), (2, .int (a2))] := hl
  unfold f_T_moveUpBehind at h
  refine lv_aload_n hx hb d_T_moveUpBehind_0 rfl (lv_at hl 0 rfl) ?_
  refine lv_iload_n hx hb d_T_moveUpBehind_1 rfl (lv_at hl 1 rfl) ?_
  obtain ⟨r2, h1, h⟩ := q_bind h
  refine x_cV_i (As := [.int (a1)]) (rest := []) G V hml (c_T_endOf l D b ad cs N σ a1 r2 h1) 0 0 rfl x_w0 g_T_217 e_T_endOf ⟨Nat.le_of_ble_eq_true rfl, Nat.le_of_ble_eq_true rfl⟩ ⟨rfl, rfl⟩ ⟨Nat.zero_le _, Nat.zero_le _⟩ rfl hl.1 rfl (Nat.le_of_ble_eq_true rfl) d_T_moveUpBehind_2 (fun H locs V => ?_)
  refine lv_istore_n (lv' := [(3, .int (r2)), (0, .ref (b 0)), (1, .int (a1)), (2, .int (a2))]) hx hb d_T_moveUpBehind_5 rfl hl (by decide) rfl (fun ls hl => ?_)
  refine lv_aload_n hx hb d_T_moveUpBehind_6 rfl (lv_at hl 1 rfl) ?_
  refine lv_iload_n hx hb d_T_moveUpBehind_7 rfl (lv_at hl 2 rfl) ?_
  obtain ⟨r4, h3, h⟩ := q_bind h
  refine x_cV_i (As := [.int (a1)]) (rest := []) G V hml (c_T_startOf l D b ad cs N σ a1 r4 h3) 0 0 rfl x_w0 g_T_223 e_T_startOf ⟨Nat.le_of_ble_eq_true rfl, Nat.le_of_ble_eq_true rfl⟩ ⟨rfl, rfl⟩ ⟨Nat.zero_le _, Nat.zero_le _⟩ rfl hl.1 rfl (Nat.le_of_ble_eq_true rfl) d_T_moveUpBehind_8 (fun H locs V => ?_)
  refine lv_istore (lv' := [(4, .int (r4)), (3, .int (r2)), (0, .ref (b 0)), (1, .int (a1)), (2, .int (a2))]) hx hb d_T_moveUpBehind_11 hl (by decide) rfl (fun ls hl => ?_)
  have lp13 : ∀ (u2 : Int32) (u3 : Int32) (K : x_T → Option x_T) (_ : ∀ (σ : x_T) (H : Heap) (locs : List Loc) (ls : Array Slot), K σ = some σ' → lv_has ls 5 [] → x_V D b ad cs σ A s.heap H locs → W p l e { frames := 2, cells := 0, slots := 0, locals := 43 } s m args below meth c H locs 0 0 (x_Qv below args s D b ad cs A σ') (F0 m 55 ls [])) (n : Nat) (v4 : Int32) (σ : x_T) (H : Heap) (locs : List Loc) (ls : Array Slot), f_T_moveUpBehind_L13 N u2 u3 K n v4 σ = some σ' → lv_has ls 5 [(0, .ref (b 0)), (2, .int (u2)), (3, .int (u3)), (4, .int (v4))] → x_V D b ad cs σ A s.heap H locs → W p l e { frames := 2, cells := 0, slots := 0, locals := 43 } s m args below meth c H locs 0 0 (x_Qv below args s D b ad cs A σ') (F0 m 13 ls []) := by
    intro u2 u3 K hK n
    induction n with
    | zero => intro v4 σ H locs ls h hl V; cases h
    | succ n ih =>
      intro v4 σ H locs ls h hl V
      rw [f_T_moveUpBehind_L13] at h
      refine lv_iload hx hb d_T_moveUpBehind_13 (lv_at hl 3 rfl) ?_
      refine lv_iload_n hx hb d_T_moveUpBehind_15 rfl (lv_at hl 2 rfl) ?_
      refine lv_icmp_ge (tgt := 55) hx hb d_T_moveUpBehind_16 (by decide) (fun hc => ?_) (fun hc => ?_)
      · replace h := q_ifp hc h
        exact hK _ _ _ ls h (lv_sub hl [] rfl) V
      · replace h := q_ifn hc h
        refine lv_aload_n hx hb d_T_moveUpBehind_19 rfl (lv_at hl 0 rfl) ?_
        refine x_get (v := .ref (b 3)) G V 0 0 3 x_w0 rfl in_T (by decide) k_T_22 rfl d_T_moveUpBehind_20 ?_
        refine lv_iload hx hb d_T_moveUpBehind_23 (lv_at hl 3 rfl) ?_
        obtain ⟨g5, h⟩ := q_gd_h h
        refine x_aald G V g5 d_T_moveUpBehind_25 (fun hE => ?_) (fun k6 hE => ?_)
        · replace h := q_omn hE h
          cases h
        · replace h := q_oms hE h
          obtain ⟨b7, h⟩ := q_gd_h h
          replace b7 := q_lt_h b7
          refine x_getN (v := .int (x_P σ k6 8)) G V (15 + k6) 1 8 (x_wE b7) rfl in_E (by decide) k_T_226 rfl d_T_moveUpBehind_26 ?_
          refine lv_iload_n hx hb d_T_moveUpBehind_29 rfl (lv_at hl 1 rfl) ?_
          refine lv_icmp_le (tgt := 49) hx hb d_T_moveUpBehind_30 (by decide) (fun hc => ?_) (fun hc => ?_)
          · replace h := q_ifp hc h
            refine lv_iinc (k := 3) (v := v4 + 1) (lv' := [(4, .int (v4 + 1)), (0, .ref (b 0)), (2, .int (u2)), (3, .int (u3))]) hx hb d_T_moveUpBehind_49 hl rfl rfl (by decide) rfl (fun ls hl => ?_)
            refine lv_goto (tgt := 13) hx hb d_T_moveUpBehind_52 (by decide) ?_
            exact ih _ _ _ _ ls h (lv_sub hl [1, 2, 3, 0] rfl) V
          · replace h := q_ifn hc h
            refine lv_aload_n hx hb d_T_moveUpBehind_33 rfl (lv_at hl 0 rfl) ?_
            refine x_get (v := .ref (b 3)) G V 0 0 3 x_w0 rfl in_T (by decide) k_T_22 rfl d_T_moveUpBehind_34 ?_
            refine lv_iload hx hb d_T_moveUpBehind_37 (lv_at hl 3 rfl) ?_
            obtain ⟨g8, h⟩ := q_gd_h h
            refine x_aald G V g8 d_T_moveUpBehind_39 (fun hE => ?_) (fun k9 hE => ?_)
            · replace h := q_omn hE h
              cases h
            · replace h := q_oms hE h
              refine lv_dup hx hb d_T_moveUpBehind_40 rfl ?_
              obtain ⟨b10, h⟩ := q_gd_h h
              replace b10 := q_lt_h b10
              refine x_getN (v := .int (x_P σ k9 8)) G V (15 + k9) 1 8 (x_wE b10) rfl in_E (by decide) k_T_226 rfl d_T_moveUpBehind_41 ?_
              refine lv_iconst (v := 1) hx hb d_T_moveUpBehind_44 (by decide) ?_
              refine lv_isub hx hb d_T_moveUpBehind_45 ?_
              obtain ⟨s11, e11, h⟩ := q_let_h h
              refine x_putN (σ' := s11) (ty := .int) G V (15 + k9) 1 8 (x_wE b10) rfl in_E tt_E_ok n_E (by decide) k_T_226 rfl rfl rfl rfl (Nat.le_of_ble_eq_true rfl) (x_uE8.trans (congrArg (x_W b ad cs) e11.symm)) d_T_moveUpBehind_46 (fun H locs V => ?_)
              have b12 : k6 < x_N s11 := by rw [e11]; exact b7
              have b13 : k9 < x_N s11 := by rw [e11]; exact b10
              refine lv_iinc (k := 3) (v := v4 + 1) (lv' := [(4, .int (v4 + 1)), (0, .ref (b 0)), (2, .int (u2)), (3, .int (u3))]) hx hb d_T_moveUpBehind_49 hl rfl rfl (by decide) rfl (fun ls hl => ?_)
              refine lv_goto (tgt := 13) hx hb d_T_moveUpBehind_52 (by decide) ?_
              exact ih _ _ _ _ ls h (lv_sub hl [1, 2, 3, 0] rfl) V
  replace hl := lv_sub (l' := [(0, .ref (b 0)), (2, .int (a2)), (3, .int (r2)), (4, .int (r4))]) hl [2, 4, 1, 0] rfl
  refine lp13 _ _ _ ?_ _ _ _ _ _ ls h hl V
  intro t14 H locs ls h hl V
  exact x_ret_v G hr hlk h V d_T_moveUpBehind_55

set_option maxHeartbeats 40000000 in
set_option maxRecDepth 100000 in
theorem c_T_closeGaps (l : Launch) (D : va_G) (b ad : Nat → Nat) (cs : Nat → ClassId) (N : Nat) (σ : x_T) (a1 : Int32) (σ' : x_T) (h : f_T_closeGaps N σ a1 = some σ') : x_Cv l y_T_closeGaps b_T_closeGaps 3 none { frames := 3, cells := 0, slots := 0, locals := 68 } D b ad cs σ [.ref (b 0), .int (a1)] σ' := by
  refine x_met_v (own := R_T) (by decide) rfl (Nat.le_of_ble_eq_true rfl) ?_
  intro p e s m args below meth c A G hr hlk hml ls hl V
  have hx := G.1
  have hb := G.2.1
  have hown := G.2.2.1
  have hts := G.2.2.2.1
  have hN := G.2.2.2.2.2
  have hl : lv_has ls 3 [(0, .ref (b 0)), (1, .int (a1))] := hl
  unfold f_T_closeGaps at h
  refine lv_aload_n hx hb d_T_closeGaps_0 rfl (lv_at hl 0 rfl) ?_
  refine lv_iload_n hx hb d_T_closeGaps_1 rfl (lv_at hl 1 rfl) ?_
  obtain ⟨r2, h1, h⟩ := q_bind h
  refine x_cV_i (As := [.int (a1)]) (rest := []) G V hml (c_T_tableCount l D b ad cs N σ a1 r2 h1) 0 0 rfl x_w0 g_T_238 e_T_tableCount ⟨Nat.le_of_ble_eq_true rfl, Nat.le_of_ble_eq_true rfl⟩ ⟨rfl, rfl⟩ ⟨Nat.zero_le _, Nat.zero_le _⟩ rfl hl.1 rfl (Nat.le_of_ble_eq_true rfl) d_T_closeGaps_2 (fun H locs V => ?_)
  refine lv_iconst (v := 1) hx hb d_T_closeGaps_5 (by decide) ?_
  refine lv_isub hx hb d_T_closeGaps_6 ?_
  refine lv_istore_n (lv' := [(2, .int (r2 - 1)), (0, .ref (b 0)), (1, .int (a1))]) hx hb d_T_closeGaps_7 rfl hl (by decide) rfl (fun ls hl => ?_)
  have lp8 : ∀ (u1 : Int32) (K : x_T → Option x_T) (_ : ∀ (σ : x_T) (H : Heap) (locs : List Loc) (ls : Array Slot), K σ = some σ' → lv_has ls 3 [] → x_V D b ad cs σ A s.heap H locs → W p l e { frames := 3, cells := 0, slots := 0, locals := 68 } s m args below meth c H locs 0 0 (x_Qv below args s D b ad cs A σ') (F0 m 33 ls [])) (n : Nat) (v2 : Int32) (σ : x_T) (H : Heap) (locs : List Loc) (ls : Array Slot), f_T_closeGaps_L8 N u1 K n v2 σ = some σ' → lv_has ls 3 [(0, .ref (b 0)), (1, .int (u1)), (2, .int (v2))] → x_V D b ad cs σ A s.heap H locs → W p l e { frames := 3, cells := 0, slots := 0, locals := 68 } s m args below meth c H locs 0 0 (x_Qv below args s D b ad cs A σ') (F0 m 8 ls []) := by
    intro u1 K hK n
    induction n with
    | zero => intro v2 σ H locs ls h hl V; cases h
    | succ n ih =>
      intro v2 σ H locs ls h hl V
      rw [f_T_closeGaps_L8] at h
      refine lv_iload_n hx hb d_T_closeGaps_8 rfl (lv_at hl 2 rfl) ?_
      refine lv_if_lt (tgt := 33) hx hb d_T_closeGaps_9 (by decide) (fun hc => ?_) (fun hc => ?_)
      · replace h := q_ifp hc h
        exact hK _ _ _ ls h (lv_sub hl [] rfl) V
      · replace h := q_ifn hc h
        refine lv_aload_n hx hb d_T_closeGaps_12 rfl (lv_at hl 0 rfl) ?_
        refine lv_iload_n hx hb d_T_closeGaps_13 rfl (lv_at hl 1 rfl) ?_
        refine lv_iload_n hx hb d_T_closeGaps_14 rfl (lv_at hl 2 rfl) ?_
        obtain ⟨r4, h3, h⟩ := q_bind h
        refine x_cV_i (As := [.int (u1), .int (v2)]) (rest := []) G V hml (c_T_entriesIn l D b ad cs N σ u1 v2 r4 h3) 0 0 rfl x_w0 g_T_149 e_T_entriesIn ⟨Nat.le_of_ble_eq_true rfl, Nat.le_of_ble_eq_true rfl⟩ ⟨rfl, rfl⟩ ⟨Nat.zero_le _, Nat.zero_le _⟩ rfl hl.1 rfl (Nat.le_of_ble_eq_true rfl) d_T_closeGaps_15 (fun H locs V => ?_)
        refine lv_if_ne (tgt := 27) hx hb d_T_closeGaps_18 (by decide) (fun hc => ?_) (fun hc => ?_)
        · replace h := q_ifn hc h
          refine lv_iinc (k := 2) (v := v2 + (-1)) (lv' := [(2, .int (v2 + (-1))), (0, .ref (b 0)), (1, .int (u1))]) hx hb d_T_closeGaps_27 hl rfl rfl (by decide) rfl (fun ls hl => ?_)
          refine lv_goto (tgt := 8) hx hb d_T_closeGaps_30 (by decide) ?_
          exact ih _ _ _ _ ls h (lv_sub hl [1, 2, 0] rfl) V
        · replace h := q_ifp hc h
          refine lv_aload_n hx hb d_T_closeGaps_21 rfl (lv_at hl 0 rfl) ?_
          refine lv_iload_n hx hb d_T_closeGaps_22 rfl (lv_at hl 1 rfl) ?_
          refine lv_iload_n hx hb d_T_closeGaps_23 rfl (lv_at hl 2 rfl) ?_
          obtain ⟨s6, h5, h⟩ := q_bind h
          refine x_cV_v (As := [.int (u1), .int (v2)]) (rest := []) G V hml (c_T_moveUpBehind l D b ad cs N σ u1 v2 s6 h5) 0 0 rfl x_w0 g_T_271 e_T_moveUpBehind ⟨Nat.le_of_ble_eq_true rfl, Nat.le_of_ble_eq_true rfl⟩ ⟨rfl, rfl⟩ ⟨Nat.zero_le _, Nat.zero_le _⟩ rfl hl.1 rfl (Nat.le_of_ble_eq_true rfl) d_T_closeGaps_24 (fun H locs V => ?_)
          refine lv_iinc (k := 2) (v := v2 + (-1)) (lv' := [(2, .int (v2 + (-1))), (0, .ref (b 0)), (1, .int (u1))]) hx hb d_T_closeGaps_27 hl rfl rfl (by decide) rfl (fun ls hl => ?_)
          refine lv_goto (tgt := 8) hx hb d_T_closeGaps_30 (by decide) ?_
          exact ih _ _ _ _ ls h (lv_sub hl [1, 2, 0] rfl) V
  replace hl := lv_sub (l' := [(0, .ref (b 0)), (1, .int (a1)), (2, .int (r2 - 1))]) hl [1, 2, 0] rfl
  refine lp8 _ _ ?_ _ _ _ _ _ ls h hl V
  intro t7 H locs ls h hl V
  exact x_ret_v G hr hlk h V d_T_closeGaps_33

set_option maxHeartbeats 40000000 in
set_option maxRecDepth 100000 in
theorem c_T_split (l : Launch) (D : va_G) (b ad : Nat → Nat) (cs : Nat → ClassId) (N : Nat) (σ : x_T) (a1 : Int32) (a2 : Int32) (r : Int32) (σ' : x_T) (h : f_T_split N σ a1 a2 = some (r, σ')) : x_Ci l y_T_split b_T_split 4 (some .boolean) { frames := 4, cells := 0, slots := 0, locals := 90 } D b ad cs σ [.ref (b 0), .int (a1), .int (a2)] r σ' := by
  refine x_met_i (own := R_T) (by decide) rfl (Nat.le_of_ble_eq_true rfl) ?_
  intro p e s m args below meth c A G hr hlk hml ls hl V
  have hx := G.1
  have hb := G.2.1
  have hown := G.2.2.1
  have hts := G.2.2.2.1
  have hN := G.2.2.2.2.2
  have hl : lv_has ls 4 [(0, .ref (b 0)), (1, .int (a1)), (2, .int (a2))] := hl
  unfold f_T_split at h
  refine lv_aload_n hx hb d_T_split_0 rfl (lv_at hl 0 rfl) ?_
  refine lv_iload_n hx hb d_T_split_1 rfl (lv_at hl 1 rfl) ?_
  obtain ⟨r2, h1, h⟩ := q_bind h
  refine x_cV_i (As := [.int (a1)]) (rest := []) G V hml (c_T_isTablet l D b ad cs N σ a1 r2 h1) 0 0 rfl x_w0 g_T_235 e_T_isTablet ⟨Nat.le_of_ble_eq_true rfl, Nat.le_of_ble_eq_true rfl⟩ ⟨rfl, rfl⟩ ⟨Nat.zero_le _, Nat.zero_le _⟩ rfl hl.1 rfl (Nat.le_of_ble_eq_true rfl) d_T_split_2 (fun H locs V => ?_)
  refine lv_if_eq (tgt := 17) hx hb d_T_split_5 (by decide) (fun hc => ?_) (fun hc => ?_)
  · replace h := q_ifp hc h
    refine lv_iconst (v := 0) hx hb d_T_split_17 (by decide) ?_
    exact x_zret_i G hr hlk rfl h V d_T_split_18
  · replace h := q_ifn hc h
    refine lv_aload_n hx hb d_T_split_8 rfl (lv_at hl 0 rfl) ?_
    refine x_get (v := .int (x_S σ 7)) G V 0 0 7 x_w0 rfl in_T (by decide) k_T_35 rfl d_T_split_9 ?_
    refine lv_bipush (v := 8) hx hb d_T_split_12 (by decide) ?_
    refine lv_icmp_lt (tgt := 19) hx hb d_T_split_14 (by decide) (fun hc => ?_) (fun hc => ?_)
    · replace h := q_ifp hc h
      refine lv_iload_n hx hb d_T_split_19 rfl (lv_at hl 2 rfl) ?_
      refine lv_aload_n hx hb d_T_split_20 rfl (lv_at hl 0 rfl) ?_
      refine x_get (v := .ref (b 4)) G V 0 0 6 x_w0 rfl in_T (by decide) k_T_32 rfl d_T_split_21 ?_
      refine lv_iload_n hx hb d_T_split_24 rfl (lv_at hl 1 rfl) ?_
      obtain ⟨g3, h⟩ := q_gd_h h
      refine x_iald G V 4 x_w4 g3 d_T_split_25 ?_
      refine lv_icmp_le (tgt := 41) hx hb d_T_split_26 (by decide) (fun hc => ?_) (fun hc => ?_)
      · replace h := q_ifp hc h
        refine lv_iconst (v := 0) hx hb d_T_split_41 (by decide) ?_
        exact x_zret_i G hr hlk rfl h V d_T_split_42
      · replace h := q_ifn hc h
        refine lv_iload_n hx hb d_T_split_29 rfl (lv_at hl 2 rfl) ?_
        refine lv_aload_n hx hb d_T_split_30 rfl (lv_at hl 0 rfl) ?_
        refine x_get (v := .ref (b 4)) G V 0 0 6 x_w0 rfl in_T (by decide) k_T_32 rfl d_T_split_31 ?_
        refine lv_iload_n hx hb d_T_split_34 rfl (lv_at hl 1 rfl) ?_
        refine lv_iconst (v := 1) hx hb d_T_split_35 (by decide) ?_
        refine lv_iadd hx hb d_T_split_36 ?_
        obtain ⟨g4, h⟩ := q_gd_h h
        refine x_iald G V 4 x_w4 g4 d_T_split_37 ?_
        refine lv_icmp_lt (tgt := 43) hx hb d_T_split_38 (by decide) (fun hc => ?_) (fun hc => ?_)
        · replace h := q_ifp hc h
          refine lv_aload_n hx hb d_T_split_43 rfl (lv_at hl 0 rfl) ?_
          refine x_get (v := .int (x_S σ 7)) G V 0 0 7 x_w0 rfl in_T (by decide) k_T_35 rfl d_T_split_44 ?_
          refine lv_istore_n (lv' := [(3, .int (x_S σ 7)), (0, .ref (b 0)), (1, .int (a1)), (2, .int (a2))]) hx hb d_T_split_47 rfl hl (by decide) rfl (fun ls hl => ?_)
          have lp48 : ∀ (u1 : Int32) (u2 : Int32) (K : x_T → Option (Int32 × x_T)) (_ : ∀ (σ : x_T) (H : Heap) (locs : List Loc) (ls : Array Slot), K σ = some (r, σ') → lv_has ls 4 [(0, .ref (b 0)), (1, .int (u1)), (2, .int (u2))] → x_V D b ad cs σ A s.heap H locs → W p l e { frames := 4, cells := 0, slots := 0, locals := 90 } s m args below meth c H locs 0 0 (x_Qi below args s D b ad cs A r σ') (F0 m 73 ls [])) (n : Nat) (v3 : Int32) (σ : x_T) (H : Heap) (locs : List Loc) (ls : Array Slot), f_T_split_L48 N u1 u2 K n v3 σ = some (r, σ') → lv_has ls 4 [(0, .ref (b 0)), (1, .int (u1)), (2, .int (u2)), (3, .int (v3))] → x_V D b ad cs σ A s.heap H locs → W p l e { frames := 4, cells := 0, slots := 0, locals := 90 } s m args below meth c H locs 0 0 (x_Qi below args s D b ad cs A r σ') (F0 m 48 ls []) := by
            intro u1 u2 K hK n
            induction n with
            | zero => intro v3 σ H locs ls h hl V; cases h
            | succ n ih =>
              intro v3 σ H locs ls h hl V
              rw [f_T_split_L48] at h
              refine lv_iload_n hx hb d_T_split_48 rfl (lv_at hl 3 rfl) ?_
              refine lv_iload_n hx hb d_T_split_49 rfl (lv_at hl 1 rfl) ?_
              refine lv_icmp_le (tgt := 73) hx hb d_T_split_50 (by decide) (fun hc => ?_) (fun hc => ?_)
              · replace h := q_ifp hc h
                exact hK _ _ _ ls h (lv_sub hl [0, 1, 2] rfl) V
              · replace h := q_ifn hc h
                refine lv_aload_n hx hb d_T_split_53 rfl (lv_at hl 0 rfl) ?_
                refine x_get (v := .ref (b 4)) G V 0 0 6 x_w0 rfl in_T (by decide) k_T_32 rfl d_T_split_54 ?_
                refine lv_iload_n hx hb d_T_split_57 rfl (lv_at hl 3 rfl) ?_
                refine lv_iconst (v := 1) hx hb d_T_split_58 (by decide) ?_
                refine lv_iadd hx hb d_T_split_59 ?_
                refine lv_aload_n hx hb d_T_split_60 rfl (lv_at hl 0 rfl) ?_
                refine x_get (v := .ref (b 4)) G V 0 0 6 x_w0 rfl in_T (by decide) k_T_32 rfl d_T_split_61 ?_
                refine lv_iload_n hx hb d_T_split_64 rfl (lv_at hl 3 rfl) ?_
                obtain ⟨g5, h⟩ := q_gd_h h
                refine x_iald G V 4 x_w4 g5 d_T_split_65 ?_
                obtain ⟨g6, h⟩ := q_gd_h h
                obtain ⟨s7, e7, h⟩ := q_let_h h
                refine x_iast (σ' := s7) G V 4 x_w4 (x_u4.trans (congrArg (x_W b ad cs) e7.symm)) g6 d_T_split_66 (fun H locs V => ?_)
                refine lv_iinc (k := 3) (v := v3 + (-1)) (lv' := [(3, .int (v3 + (-1))), (0, .ref (b 0)), (1, .int (u1)), (2, .int (u2))]) hx hb d_T_split_67 hl rfl rfl (by decide) rfl (fun ls hl => ?_)
                refine lv_goto (tgt := 48) hx hb d_T_split_70 (by decide) ?_
                exact ih _ _ _ _ ls h (lv_sub hl [1, 2, 3, 0] rfl) V
          replace hl := lv_sub (l' := [(0, .ref (b 0)), (1, .int (a1)), (2, .int (a2)), (3, .int (x_S σ 7))]) hl [1, 2, 3, 0] rfl
          refine lp48 _ _ _ ?_ _ _ _ _ _ ls h hl V
          intro t8 H locs ls h hl V
          refine lv_aload_n hx hb d_T_split_73 rfl (lv_at hl 0 rfl) ?_
          refine x_get (v := .ref (b 4)) G V 0 0 6 x_w0 rfl in_T (by decide) k_T_32 rfl d_T_split_74 ?_
          refine lv_iload_n hx hb d_T_split_77 rfl (lv_at hl 1 rfl) ?_
          refine lv_iconst (v := 1) hx hb d_T_split_78 (by decide) ?_
          refine lv_iadd hx hb d_T_split_79 ?_
          refine lv_iload_n hx hb d_T_split_80 rfl (lv_at hl 2 rfl) ?_
          obtain ⟨g9, h⟩ := q_gd_h h
          obtain ⟨s10, e10, h⟩ := q_let_h h
          refine x_iast (σ' := s10) G V 4 x_w4 (x_u4.trans (congrArg (x_W b ad cs) e10.symm)) g9 d_T_split_81 (fun H locs V => ?_)
          refine lv_aload_n hx hb d_T_split_82 rfl (lv_at hl 0 rfl) ?_
          refine lv_dup hx hb d_T_split_83 rfl ?_
          refine x_get (v := .int (x_S s10 7)) G V 0 0 7 x_w0 rfl in_T (by decide) k_T_35 rfl d_T_split_84 ?_
          refine lv_iconst (v := 1) hx hb d_T_split_87 (by decide) ?_
          refine lv_iadd hx hb d_T_split_88 ?_
          obtain ⟨s11, e11, h⟩ := q_let_h h
          refine x_put (σ' := s11) (ty := .int) G V 0 0 7 x_w0 rfl in_T tt_T_ok n_T (by decide) k_T_35 rfl rfl rfl rfl (Nat.le_of_ble_eq_true rfl) (x_uT7.trans (congrArg (x_W b ad cs) e11.symm)) d_T_split_89 (fun H locs V => ?_)
          refine lv_aload_n hx hb d_T_split_92 rfl (lv_at hl 0 rfl) ?_
          refine lv_iload_n hx hb d_T_split_93 rfl (lv_at hl 1 rfl) ?_
          obtain ⟨s13, h12, h⟩ := q_bind h
          refine x_cV_v (As := [.int (a1)]) (rest := []) G V hml (c_T_closeGaps l D b ad cs N s11 a1 s13 h12) 0 0 rfl x_w0 g_T_268 e_T_closeGaps ⟨Nat.le_of_ble_eq_true rfl, Nat.le_of_ble_eq_true rfl⟩ ⟨rfl, rfl⟩ ⟨Nat.zero_le _, Nat.zero_le _⟩ rfl hl.1 rfl (Nat.le_of_ble_eq_true rfl) d_T_split_94 (fun H locs V => ?_)
          refine lv_aload_n hx hb d_T_split_97 rfl (lv_at hl 0 rfl) ?_
          refine lv_iload_n hx hb d_T_split_98 rfl (lv_at hl 1 rfl) ?_
          refine lv_iconst (v := 1) hx hb d_T_split_99 (by decide) ?_
          refine lv_iadd hx hb d_T_split_100 ?_
          obtain ⟨s15, h14, h⟩ := q_bind h
          refine x_cV_v (As := [.int (a1 + 1)]) (rest := []) G V hml (c_T_closeGaps l D b ad cs N s13 (a1 + 1) s15 h14) 0 0 rfl x_w0 g_T_268 e_T_closeGaps ⟨Nat.le_of_ble_eq_true rfl, Nat.le_of_ble_eq_true rfl⟩ ⟨rfl, rfl⟩ ⟨Nat.zero_le _, Nat.zero_le _⟩ rfl hl.1 rfl (Nat.le_of_ble_eq_true rfl) d_T_split_101 (fun H locs V => ?_)
          refine lv_iconst (v := 1) hx hb d_T_split_104 (by decide) ?_
          exact x_zret_i G hr hlk rfl h V d_T_split_105
        · replace h := q_ifn hc h
          refine lv_iconst (v := 0) hx hb d_T_split_41 (by decide) ?_
          exact x_zret_i G hr hlk rfl h V d_T_split_42
    · replace h := q_ifn hc h
      refine lv_iconst (v := 0) hx hb d_T_split_17 (by decide) ?_
      exact x_zret_i G hr hlk rfl h V d_T_split_18

set_option maxHeartbeats 40000000 in
set_option maxRecDepth 100000 in
theorem c_T_join (l : Launch) (D : va_G) (b ad : Nat → Nat) (cs : Nat → ClassId) (N : Nat) (σ : x_T) (a1 : Int32) (r : Int32) (σ' : x_T) (h : f_T_join N σ a1 = some (r, σ')) : x_Ci l y_T_join b_T_join 5 (some .boolean) { frames := 3, cells := 0, slots := 0, locals := 67 } D b ad cs σ [.ref (b 0), .int (a1)] r σ' := by
  refine x_met_i (own := R_T) (by decide) rfl (Nat.le_of_ble_eq_true rfl) ?_
  intro p e s m args below meth c A G hr hlk hml ls hl V
  have hx := G.1
  have hb := G.2.1
  have hown := G.2.2.1
  have hts := G.2.2.2.1
  have hN := G.2.2.2.2.2
  have hl : lv_has ls 5 [(0, .ref (b 0)), (1, .int (a1))] := hl
  unfold f_T_join at h
  refine lv_iload_n hx hb d_T_join_0 rfl (lv_at hl 1 rfl) ?_
  refine lv_if_lt (tgt := 14) hx hb d_T_join_1 (by decide) (fun hc => ?_) (fun hc => ?_)
  · replace h := q_ifp hc h
    refine lv_iconst (v := 0) hx hb d_T_join_14 (by decide) ?_
    exact x_zret_i G hr hlk rfl h V d_T_join_15
  · replace h := q_ifn hc h
    refine lv_iload_n hx hb d_T_join_4 rfl (lv_at hl 1 rfl) ?_
    refine lv_aload_n hx hb d_T_join_5 rfl (lv_at hl 0 rfl) ?_
    refine x_get (v := .int (x_S σ 7)) G V 0 0 7 x_w0 rfl in_T (by decide) k_T_35 rfl d_T_join_6 ?_
    refine lv_iconst (v := 1) hx hb d_T_join_9 (by decide) ?_
    refine lv_isub hx hb d_T_join_10 ?_
    refine lv_icmp_lt (tgt := 16) hx hb d_T_join_11 (by decide) (fun hc => ?_) (fun hc => ?_)
    · replace h := q_ifp hc h
      refine lv_aload_n hx hb d_T_join_16 rfl (lv_at hl 0 rfl) ?_
      refine lv_iload_n hx hb d_T_join_17 rfl (lv_at hl 1 rfl) ?_
      obtain ⟨r2, h1, h⟩ := q_bind h
      refine x_cV_i (As := [.int (a1)]) (rest := []) G V hml (c_T_tableCount l D b ad cs N σ a1 r2 h1) 0 0 rfl x_w0 g_T_238 e_T_tableCount ⟨Nat.le_of_ble_eq_true rfl, Nat.le_of_ble_eq_true rfl⟩ ⟨rfl, rfl⟩ ⟨Nat.zero_le _, Nat.zero_le _⟩ rfl hl.1 rfl (Nat.le_of_ble_eq_true rfl) d_T_join_18 (fun H locs V => ?_)
      refine lv_istore_n (lv' := [(2, .int (r2)), (0, .ref (b 0)), (1, .int (a1))]) hx hb d_T_join_21 rfl hl (by decide) rfl (fun ls hl => ?_)
      refine lv_aload_n hx hb d_T_join_22 rfl (lv_at hl 1 rfl) ?_
      refine lv_iload_n hx hb d_T_join_23 rfl (lv_at hl 2 rfl) ?_
      refine lv_iconst (v := 1) hx hb d_T_join_24 (by decide) ?_
      refine lv_iadd hx hb d_T_join_25 ?_
      obtain ⟨r4, h3, h⟩ := q_bind h
      refine x_cV_i (As := [.int (a1 + 1)]) (rest := []) G V hml (c_T_endOf l D b ad cs N σ (a1 + 1) r4 h3) 0 0 rfl x_w0 g_T_217 e_T_endOf ⟨Nat.le_of_ble_eq_true rfl, Nat.le_of_ble_eq_true rfl⟩ ⟨rfl, rfl⟩ ⟨Nat.zero_le _, Nat.zero_le _⟩ rfl hl.1 rfl (Nat.le_of_ble_eq_true rfl) d_T_join_26 (fun H locs V => ?_)
      refine lv_istore_n (lv' := [(3, .int (r4)), (2, .int (r2)), (0, .ref (b 0)), (1, .int (a1))]) hx hb d_T_join_29 rfl hl (by decide) rfl (fun ls hl => ?_)
      refine lv_aload_n hx hb d_T_join_30 rfl (lv_at hl 2 rfl) ?_
      refine lv_iload_n hx hb d_T_join_31 rfl (lv_at hl 3 rfl) ?_
      refine lv_iconst (v := 1) hx hb d_T_join_32 (by decide) ?_
      refine lv_iadd hx hb d_T_join_33 ?_
      obtain ⟨r6, h5, h⟩ := q_bind h
      refine x_cV_i (As := [.int (a1 + 1)]) (rest := []) G V hml (c_T_startOf l D b ad cs N σ (a1 + 1) r6 h5) 0 0 rfl x_w0 g_T_223 e_T_startOf ⟨Nat.le_of_ble_eq_true rfl, Nat.le_of_ble_eq_true rfl⟩ ⟨rfl, rfl⟩ ⟨Nat.zero_le _, Nat.zero_le _⟩ rfl hl.1 rfl (Nat.le_of_ble_eq_true rfl) d_T_join_34 (fun H locs V => ?_)
      refine lv_istore (lv' := [(4, .int (r6)), (3, .int (r4)), (2, .int (r2)), (0, .ref (b 0)), (1, .int (a1))]) hx hb d_T_join_37 hl (by decide) rfl (fun ls hl => ?_)
      have lp39 : ∀ (u1 : Int32) (u2 : Int32) (u3 : Int32) (K : x_T → Option (Int32 × x_T)) (_ : ∀ (σ : x_T) (H : Heap) (locs : List Loc) (ls : Array Slot), K σ = some (r, σ') → lv_has ls 5 [(0, .ref (b 0)), (1, .int (u1))] → x_V D b ad cs σ A s.heap H locs → W p l e { frames := 3, cells := 0, slots := 0, locals := 67 } s m args below meth c H locs 0 0 (x_Qi below args s D b ad cs A r σ') (F0 m 81 ls [])) (n : Nat) (v4 : Int32) (σ : x_T) (H : Heap) (locs : List Loc) (ls : Array Slot), f_T_join_L39 N u1 u2 u3 K n v4 σ = some (r, σ') → lv_has ls 5 [(0, .ref (b 0)), (1, .int (u1)), (2, .int (u2)), (3, .int (u3)), (4, .int (v4))] → x_V D b ad cs σ A s.heap H locs → W p l e { frames := 3, cells := 0, slots := 0, locals := 67 } s m args below meth c H locs 0 0 (x_Qi below args s D b ad cs A r σ') (F0 m 39 ls []) := by
        intro u1 u2 u3 K hK n
        induction n with
        | zero => intro v4 σ H locs ls h hl V; cases h
        | succ n ih =>
          intro v4 σ H locs ls h hl V
          rw [f_T_join_L39] at h
          refine lv_iload hx hb d_T_join_39 (lv_at hl 4 rfl) ?_
          refine lv_iload_n hx hb d_T_join_41 rfl (lv_at hl 3 rfl) ?_
          refine lv_icmp_ge (tgt := 81) hx hb d_T_join_42 (by decide) (fun hc => ?_) (fun hc => ?_)
          · replace h := q_ifp hc h
            exact hK _ _ _ ls h (lv_sub hl [0, 1] rfl) V
          · replace h := q_ifn hc h
            refine lv_aload_n hx hb d_T_join_45 rfl (lv_at hl 0 rfl) ?_
            refine x_get (v := .ref (b 3)) G V 0 0 3 x_w0 rfl in_T (by decide) k_T_22 rfl d_T_join_46 ?_
            refine lv_iload hx hb d_T_join_49 (lv_at hl 4 rfl) ?_
            obtain ⟨g7, h⟩ := q_gd_h h
            refine x_aald G V g7 d_T_join_51 (fun hE => ?_) (fun k8 hE => ?_)
            · replace h := q_omn hE h
              cases h
            · replace h := q_oms hE h
              obtain ⟨b9, h⟩ := q_gd_h h
              replace b9 := q_lt_h b9
              refine x_getN (v := .int (x_P σ k8 8)) G V (15 + k8) 1 8 (x_wE b9) rfl in_E (by decide) k_T_226 rfl d_T_join_52 ?_
              refine lv_iconst (v := (-1)) hx hb d_T_join_55 (by decide) ?_
              refine lv_icmp_eq (tgt := 75) hx hb d_T_join_56 (by decide) (fun hc => ?_) (fun hc => ?_)
              · replace h := q_ifp hc h
                refine lv_iinc (k := 4) (v := v4 + 1) (lv' := [(4, .int (v4 + 1)), (0, .ref (b 0)), (1, .int (u1)), (2, .int (u2)), (3, .int (u3))]) hx hb d_T_join_75 hl rfl rfl (by decide) rfl (fun ls hl => ?_)
                refine lv_goto (tgt := 39) hx hb d_T_join_78 (by decide) ?_
                exact ih _ _ _ _ ls h (lv_sub hl [1, 2, 3, 4, 0] rfl) V
              · replace h := q_ifn hc h
                refine lv_aload_n hx hb d_T_join_59 rfl (lv_at hl 0 rfl) ?_
                refine x_get (v := .ref (b 3)) G V 0 0 3 x_w0 rfl in_T (by decide) k_T_22 rfl d_T_join_60 ?_
                refine lv_iload hx hb d_T_join_63 (lv_at hl 4 rfl) ?_
                obtain ⟨g10, h⟩ := q_gd_h h
                refine x_aald G V g10 d_T_join_65 (fun hE => ?_) (fun k11 hE => ?_)
                · replace h := q_omn hE h
                  cases h
                · replace h := q_oms hE h
                  refine lv_dup hx hb d_T_join_66 rfl ?_
                  obtain ⟨b12, h⟩ := q_gd_h h
                  replace b12 := q_lt_h b12
                  refine x_getN (v := .int (x_P σ k11 8)) G V (15 + k11) 1 8 (x_wE b12) rfl in_E (by decide) k_T_226 rfl d_T_join_67 ?_
                  refine lv_iload_n hx hb d_T_join_70 rfl (lv_at hl 2 rfl) ?_
                  refine lv_iadd hx hb d_T_join_71 ?_
                  obtain ⟨s13, e13, h⟩ := q_let_h h
                  refine x_putN (σ' := s13) (ty := .int) G V (15 + k11) 1 8 (x_wE b12) rfl in_E tt_E_ok n_E (by decide) k_T_226 rfl rfl rfl rfl (Nat.le_of_ble_eq_true rfl) (x_uE8.trans (congrArg (x_W b ad cs) e13.symm)) d_T_join_72 (fun H locs V => ?_)
                  have b14 : k8 < x_N s13 := by rw [e13]; exact b9
                  have b15 : k11 < x_N s13 := by rw [e13]; exact b12
                  refine lv_iinc (k := 4) (v := v4 + 1) (lv' := [(4, .int (v4 + 1)), (0, .ref (b 0)), (1, .int (u1)), (2, .int (u2)), (3, .int (u3))]) hx hb d_T_join_75 hl rfl rfl (by decide) rfl (fun ls hl => ?_)
                  refine lv_goto (tgt := 39) hx hb d_T_join_78 (by decide) ?_
                  exact ih _ _ _ _ ls h (lv_sub hl [1, 2, 3, 4, 0] rfl) V
      replace hl := lv_sub (l' := [(0, .ref (b 0)), (1, .int (a1)), (2, .int (r2)), (3, .int (r4)), (4, .int (r6))]) hl [3, 4, 2, 1, 0] rfl
      refine lp39 _ _ _ _ ?_ _ _ _ _ _ ls h hl V
      intro t16 H locs ls h hl V
      refine lv_aload_n hx hb d_T_join_81 rfl (lv_at hl 0 rfl) ?_
      refine lv_dup hx hb d_T_join_82 rfl ?_
      refine x_get (v := .int (x_S t16 7)) G V 0 0 7 x_w0 rfl in_T (by decide) k_T_35 rfl d_T_join_83 ?_
      refine lv_iconst (v := 1) hx hb d_T_join_86 (by decide) ?_
      refine lv_isub hx hb d_T_join_87 ?_
      obtain ⟨s17, e17, h⟩ := q_let_h h
      refine x_put (σ' := s17) (ty := .int) G V 0 0 7 x_w0 rfl in_T tt_T_ok n_T (by decide) k_T_35 rfl rfl rfl rfl (Nat.le_of_ble_eq_true rfl) (x_uT7.trans (congrArg (x_W b ad cs) e17.symm)) d_T_join_88 (fun H locs V => ?_)
      refine lv_iload_n hx hb d_T_join_91 rfl (lv_at hl 1 rfl) ?_
      refine lv_iconst (v := 1) hx hb d_T_join_92 (by decide) ?_
      refine lv_iadd hx hb d_T_join_93 ?_
      refine lv_istore (lv' := [(4, .int (a1 + 1)), (0, .ref (b 0)), (1, .int (a1))]) hx hb d_T_join_94 hl (by decide) rfl (fun ls hl => ?_)
      have lp96 : ∀ (K : x_T → Option (Int32 × x_T)) (_ : ∀ (σ : x_T) (H : Heap) (locs : List Loc) (ls : Array Slot), K σ = some (r, σ') → lv_has ls 5 [] → x_V D b ad cs σ A s.heap H locs → W p l e { frames := 3, cells := 0, slots := 0, locals := 67 } s m args below meth c H locs 0 0 (x_Qi below args s D b ad cs A r σ') (F0 m 127 ls [])) (n : Nat) (v4 : Int32) (σ : x_T) (H : Heap) (locs : List Loc) (ls : Array Slot), f_T_join_L96 N K n v4 σ = some (r, σ') → lv_has ls 5 [(0, .ref (b 0)), (4, .int (v4))] → x_V D b ad cs σ A s.heap H locs → W p l e { frames := 3, cells := 0, slots := 0, locals := 67 } s m args below meth c H locs 0 0 (x_Qi below args s D b ad cs A r σ') (F0 m 96 ls []) := by
        intro K hK n
        induction n with
        | zero => intro v4 σ H locs ls h hl V; cases h
        | succ n ih =>
          intro v4 σ H locs ls h hl V
          rw [f_T_join_L96] at h
          refine lv_iload hx hb d_T_join_96 (lv_at hl 1 rfl) ?_
          refine lv_aload_n hx hb d_T_join_98 rfl (lv_at hl 0 rfl) ?_
          refine x_get (v := .int (x_S σ 7)) G V 0 0 7 x_w0 rfl in_T (by decide) k_T_35 rfl d_T_join_99 ?_
          refine lv_icmp_gt (tgt := 127) hx hb d_T_join_102 (by decide) (fun hc => ?_) (fun hc => ?_)
          · replace h := q_ifp hc h
            exact hK _ _ _ ls h (lv_sub hl [] rfl) V
          · replace h := q_ifn hc h
            refine lv_aload_n hx hb d_T_join_105 rfl (lv_at hl 0 rfl) ?_
            refine x_get (v := .ref (b 4)) G V 0 0 6 x_w0 rfl in_T (by decide) k_T_32 rfl d_T_join_106 ?_
            refine lv_iload hx hb d_T_join_109 (lv_at hl 1 rfl) ?_
            refine lv_aload_n hx hb d_T_join_111 rfl (lv_at hl 0 rfl) ?_
            refine x_get (v := .ref (b 4)) G V 0 0 6 x_w0 rfl in_T (by decide) k_T_32 rfl d_T_join_112 ?_
            refine lv_iload hx hb d_T_join_115 (lv_at hl 1 rfl) ?_
            refine lv_iconst (v := 1) hx hb d_T_join_117 (by decide) ?_
            refine lv_iadd hx hb d_T_join_118 ?_
            obtain ⟨g18, h⟩ := q_gd_h h
            refine x_iald G V 4 x_w4 g18 d_T_join_119 ?_
            obtain ⟨g19, h⟩ := q_gd_h h
            obtain ⟨s20, e20, h⟩ := q_let_h h
            refine x_iast (σ' := s20) G V 4 x_w4 (x_u4.trans (congrArg (x_W b ad cs) e20.symm)) g19 d_T_join_120 (fun H locs V => ?_)
            refine lv_iinc (k := 1) (v := v4 + 1) (lv' := [(4, .int (v4 + 1)), (0, .ref (b 0))]) hx hb d_T_join_121 hl rfl rfl (by decide) rfl (fun ls hl => ?_)
            refine lv_goto (tgt := 96) hx hb d_T_join_124 (by decide) ?_
            exact ih _ _ _ _ ls h (lv_sub hl [1, 0] rfl) V
      replace hl := lv_sub (l' := [(0, .ref (b 0)), (4, .int (a1 + 1))]) hl [1, 0] rfl
      refine lp96 _ ?_ _ _ _ _ _ ls h hl V
      intro t21 H locs ls h hl V
      refine lv_iconst (v := 1) hx hb d_T_join_127 (by decide) ?_
      exact x_zret_i G hr hlk rfl h V d_T_join_128
    · replace h := q_ifn hc h
      refine lv_iconst (v := 0) hx hb d_T_join_14 (by decide) ?_
      exact x_zret_i G hr hlk rfl h V d_T_join_15

set_option maxHeartbeats 40000000 in
set_option maxRecDepth 100000 in
theorem c_T_tablet (l : Launch) (D : va_G) (b ad : Nat → Nat) (cs : Nat → ClassId) (N : Nat) (σ : x_T) (a1 : Int32) (a2 : Int32) (r : Int32) (h : f_T_tablet N σ a1 a2 = some r) : x_Ci l y_T_tablet b_T_tablet 3 (some .int) { frames := 3, cells := 0, slots := 0, locals := 68 } D b ad cs σ [.ref (b 0), .int (a1), .int (a2)] r σ := by
  refine x_met_i (own := R_T) (by decide) rfl (Nat.le_of_ble_eq_true rfl) ?_
  intro p e s m args below meth c A G hr hlk hml ls hl V
  have hx := G.1
  have hb := G.2.1
  have hown := G.2.2.1
  have hts := G.2.2.2.1
  have hN := G.2.2.2.2.2
  have hl : lv_has ls 3 [(0, .ref (b 0)), (1, .int (a1)), (2, .int (a2))] := hl
  unfold f_T_tablet at h
  refine lv_aload_n hx hb d_T_tablet_0 rfl (lv_at hl 0 rfl) ?_
  refine lv_iload_n hx hb d_T_tablet_1 rfl (lv_at hl 1 rfl) ?_
  obtain ⟨r2, h1, h⟩ := q_bind h
  refine x_cV_i (As := [.int (a1)]) (rest := []) G V hml (c_T_isTablet l D b ad cs N σ a1 r2 h1) 0 0 rfl x_w0 g_T_235 e_T_isTablet ⟨Nat.le_of_ble_eq_true rfl, Nat.le_of_ble_eq_true rfl⟩ ⟨rfl, rfl⟩ ⟨Nat.zero_le _, Nat.zero_le _⟩ rfl hl.1 rfl (Nat.le_of_ble_eq_true rfl) d_T_tablet_2 (fun H locs V => ?_)
  refine lv_if_ne (tgt := 10) hx hb d_T_tablet_5 (by decide) (fun hc => ?_) (fun hc => ?_)
  · replace h := q_ifn hc h
    refine lv_iload_n hx hb d_T_tablet_10 rfl (lv_at hl 2 rfl) ?_
    by_cases hc0 : (a2 : Int32) = 0
    · replace h := q_ifp hc0 h
      refine lv_tableIn (tgt := 40) hx hb d_T_tablet_11 (by rw [hc0]; decide) (by rw [hc0]; decide) (by rw [hc0]; rfl) (by decide) ?_
      refine lv_aload_n hx hb d_T_tablet_40 rfl (lv_at hl 0 rfl) ?_
      refine x_get (v := .ref (b 4)) G V 0 0 6 x_w0 rfl in_T (by decide) k_T_32 rfl d_T_tablet_41 ?_
      refine lv_iload_n hx hb d_T_tablet_44 rfl (lv_at hl 1 rfl) ?_
      obtain ⟨g3, h⟩ := q_gd_h h
      refine x_iald G V 4 x_w4 g3 d_T_tablet_45 ?_
      exact x_pret_i G hr hlk h rfl V d_T_tablet_46
    replace h := q_ifn hc0 h
    by_cases hc1 : (a2 : Int32) = 1
    · replace h := q_ifp hc1 h
      refine lv_tableIn (tgt := 47) hx hb d_T_tablet_11 (by rw [hc1]; decide) (by rw [hc1]; decide) (by rw [hc1]; rfl) (by decide) ?_
      refine lv_aload_n hx hb d_T_tablet_47 rfl (lv_at hl 0 rfl) ?_
      refine x_get (v := .ref (b 4)) G V 0 0 6 x_w0 rfl in_T (by decide) k_T_32 rfl d_T_tablet_48 ?_
      refine lv_iload_n hx hb d_T_tablet_51 rfl (lv_at hl 1 rfl) ?_
      refine lv_iconst (v := 1) hx hb d_T_tablet_52 (by decide) ?_
      refine lv_iadd hx hb d_T_tablet_53 ?_
      obtain ⟨g4, h⟩ := q_gd_h h
      refine x_iald G V 4 x_w4 g4 d_T_tablet_54 ?_
      refine lv_iconst (v := 1) hx hb d_T_tablet_55 (by decide) ?_
      refine lv_isub hx hb d_T_tablet_56 ?_
      exact x_pret_i G hr hlk h rfl V d_T_tablet_57
    replace h := q_ifn hc1 h
    by_cases hc2 : (a2 : Int32) = 2
    · replace h := q_ifp hc2 h
      refine lv_tableIn (tgt := 58) hx hb d_T_tablet_11 (by rw [hc2]; decide) (by rw [hc2]; decide) (by rw [hc2]; rfl) (by decide) ?_
      refine lv_aload_n hx hb d_T_tablet_58 rfl (lv_at hl 0 rfl) ?_
      refine lv_iload_n hx hb d_T_tablet_59 rfl (lv_at hl 1 rfl) ?_
      obtain ⟨r6, h5, h⟩ := q_bind h
      refine x_cV_i (As := [.int (a1)]) (rest := []) G V hml (c_T_tableCount l D b ad cs N σ a1 r6 h5) 0 0 rfl x_w0 g_T_238 e_T_tableCount ⟨Nat.le_of_ble_eq_true rfl, Nat.le_of_ble_eq_true rfl⟩ ⟨rfl, rfl⟩ ⟨Nat.zero_le _, Nat.zero_le _⟩ rfl hl.1 rfl (Nat.le_of_ble_eq_true rfl) d_T_tablet_60 (fun H locs V => ?_)
      exact x_pret_i G hr hlk h rfl V d_T_tablet_63
    replace h := q_ifn hc2 h
    by_cases hc3 : (a2 : Int32) = 3
    · replace h := q_ifp hc3 h
      refine lv_tableIn (tgt := 64) hx hb d_T_tablet_11 (by rw [hc3]; decide) (by rw [hc3]; decide) (by rw [hc3]; rfl) (by decide) ?_
      refine lv_aload_n hx hb d_T_tablet_64 rfl (lv_at hl 0 rfl) ?_
      refine lv_iload_n hx hb d_T_tablet_65 rfl (lv_at hl 1 rfl) ?_
      refine lv_iconst (v := (-1)) hx hb d_T_tablet_66 (by decide) ?_
      obtain ⟨r8, h7, h⟩ := q_bind h
      refine x_cV_i (As := [.int (a1), .int ((-1))]) (rest := []) G V hml (c_T_entriesIn l D b ad cs N σ a1 (-1) r8 h7) 0 0 rfl x_w0 g_T_149 e_T_entriesIn ⟨Nat.le_of_ble_eq_true rfl, Nat.le_of_ble_eq_true rfl⟩ ⟨rfl, rfl⟩ ⟨Nat.zero_le _, Nat.zero_le _⟩ rfl hl.1 rfl (Nat.le_of_ble_eq_true rfl) d_T_tablet_67 (fun H locs V => ?_)
      exact x_pret_i G hr hlk h rfl V d_T_tablet_70
    replace h := q_ifn hc3 h
    have hsw : (a2 : Int32).toInt < 0 ∨ 3 < (a2 : Int32).toInt := by
      have e0 := lv_neT hc0 (show (0 : Int32).toInt = 0 from rfl)
      have e1 := lv_neT hc1 (show (1 : Int32).toInt = 1 from rfl)
      have e2 := lv_neT hc2 (show (2 : Int32).toInt = 2 from rfl)
      have e3 := lv_neT hc3 (show (3 : Int32).toInt = 3 from rfl)
      omega
    refine lv_tableOut (tgt := 71) hx hb d_T_tablet_11 hsw (by decide) ?_
    refine lv_iconst (v := (-1)) hx hb d_T_tablet_71 (by decide) ?_
    exact x_pret_i G hr hlk h rfl V d_T_tablet_72
  · replace h := q_ifp hc h
    refine lv_iconst (v := (-1)) hx hb d_T_tablet_8 (by decide) ?_
    exact x_pret_i G hr hlk h rfl V d_T_tablet_9

set_option maxHeartbeats 40000000 in
set_option maxRecDepth 100000 in
theorem c_T_nearest (l : Launch) (a1 : Int32) (a2 : Int32) (r : Int32) (h : f_T_nearest a1 a2 = some r) : q_Ci l y_T_nearest b_T_nearest 2 (some .int) { frames := 1, cells := 0, slots := 0, locals := 24 } [.int (a1), .int (a2)] r := by
  refine q_met_i (own := R_T) (by decide) rfl (Nat.le_of_ble_eq_true rfl) ?_
  intro p e s m args below meth c G hr hlk hml ls hl
  have hx := G.1
  have hb := G.2.1
  have hown := G.2.2.1
  have hts := G.2.2.2.1
  have hN := G.2.2.2.2
  have hl : lv_has ls 2 [(0, .int (a1)), (1, .int (a2))] := hl
  unfold f_T_nearest at h
  refine lv_iconst (v := 0) hx hb d_T_nearest_0 (by decide) ?_
  refine lv_iload_n hx hb d_T_nearest_1 rfl (lv_at hl 0 rfl) ?_
  refine lv_iload_n hx hb d_T_nearest_2 rfl (lv_at hl 1 rfl) ?_
  refine va_mmin hx hb (hml.trans hl.1.symm) hown (hts _ k_T_199) (hts _ k_st_min) (hts _ k_in_Math) (hts _ k_co_min) (Nat.le_of_ble_eq_true rfl) (Nat.le_of_ble_eq_true rfl) (Nat.zero_le _) (Nat.zero_le _) d_T_nearest_3 ?_
  refine va_mmax hx hb (hml.trans hl.1.symm) hown (hts _ k_T_194) (hts _ k_st_max) (hts _ k_in_Math) (hts _ k_co_max) (Nat.le_of_ble_eq_true rfl) (Nat.le_of_ble_eq_true rfl) (Nat.zero_le _) (Nat.zero_le _) d_T_nearest_6 ?_
  exact q_ret_i G hr hlk h d_T_nearest_9
