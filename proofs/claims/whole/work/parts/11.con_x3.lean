set_option maxHeartbeats 40000000 in
set_option maxRecDepth 100000 in
theorem c_S_blocksLookedAt (l : Launch) (D : va_G) (b ad : Nat → Nat) (cs : Nat → ClassId) (N : Nat) (σ : x_T) (r : Int32) (h : f_S_blocksLookedAt N σ = some r) : x_Ci l y_S_blocksLookedAt b_S_blocksLookedAt 5 (some .int) { frames := 1, cells := 0, slots := 0, locals := 23 } D b ad cs σ [.ref (b 11)] r σ := by
  refine x_met_i (own := R_S) (by decide) rfl (Nat.le_of_ble_eq_true rfl) ?_
  intro p e s m args below meth c A G hr hlk hml ls hl V
  have hx := G.1
  have hb := G.2.1
  have hown := G.2.2.1
  have hts := G.2.2.2.1
  have hN := G.2.2.2.2.2
  have hl : lv_has ls 5 [(0, .ref (b 11))] := hl
  unfold f_S_blocksLookedAt at h
  refine lv_aload_n hx hb d_S_blocksLookedAt_0 rfl (lv_at hl 0 rfl) ?_
  refine x_get (v := .int (x_S σ 40)) G V 11 3 0 x_w11 rfl in_S (by decide) k_S_9 rfl d_S_blocksLookedAt_1 ?_
  obtain ⟨r2, h1, h⟩ := q_bind h
  refine q_cS_l (As := [.int (x_S σ 40)]) (rest := []) hx hb hown hts hN hml (c_S_bitsOf l (x_S σ 40) r2 h1) g_S_35 e_S_bitsOf ⟨Nat.le_of_ble_eq_true rfl, Nat.le_of_ble_eq_true rfl⟩ ⟨rfl, rfl⟩ ⟨Nat.zero_le _, Nat.zero_le _⟩ rfl hl.1 rfl (Nat.le_of_ble_eq_true rfl) d_S_blocksLookedAt_4 ?_
  refine lv_lstore_n (lv' := [(1, .long (r2)), (0, .ref (b 11))]) hx hb d_S_blocksLookedAt_7 rfl hl (by decide) rfl (fun ls hl => ?_)
  refine lv_iconst (v := 0) hx hb d_S_blocksLookedAt_8 (by decide) ?_
  refine lv_istore_n (lv' := [(3, .int (0)), (1, .long (r2)), (0, .ref (b 11))]) hx hb d_S_blocksLookedAt_9 rfl hl (by decide) rfl (fun ls hl => ?_)
  refine lv_iconst (v := 0) hx hb d_S_blocksLookedAt_10 (by decide) ?_
  refine lv_istore (lv' := [(4, .int (0)), (3, .int (0)), (1, .long (r2)), (0, .ref (b 11))]) hx hb d_S_blocksLookedAt_11 hl (by decide) rfl (fun ls hl => ?_)
  have lp13 : ∀ (u1 : Int64) (K : Int32 → Option Int32) (_ : ∀ (v3 : Int32) (H : Heap) (locs : List Loc) (ls : Array Slot), K v3 = some r → lv_has ls 5 [(3, .int (v3))] → x_V D b ad cs σ A s.heap H locs → W p l e { frames := 1, cells := 0, slots := 0, locals := 23 } s m args below meth c H locs 0 0 (x_Qi below args s D b ad cs A r σ) (F0 m 65 ls [])) (n : Nat) (v3 : Int32) (v4 : Int32) (H : Heap) (locs : List Loc) (ls : Array Slot), f_S_blocksLookedAt_L13 N σ u1 K n v3 v4 = some r → lv_has ls 5 [(0, .ref (b 11)), (1, .long (u1)), (3, .int (v3)), (4, .int (v4))] → x_V D b ad cs σ A s.heap H locs → W p l e { frames := 1, cells := 0, slots := 0, locals := 23 } s m args below meth c H locs 0 0 (x_Qi below args s D b ad cs A r σ) (F0 m 13 ls []) := by
    intro u1 K hK n
    induction n with
    | zero => intro v3 v4 H locs ls h hl V; cases h
    | succ n ih =>
      intro v3 v4 H locs ls h hl V
      rw [f_S_blocksLookedAt_L13] at h
      refine lv_iload hx hb d_S_blocksLookedAt_13 (lv_at hl 3 rfl) ?_
      refine lv_aload_n hx hb d_S_blocksLookedAt_15 rfl (lv_at hl 0 rfl) ?_
      refine x_get (v := .int (x_S σ 41)) G V 11 3 1 x_w11 rfl in_S (by decide) k_S_15 rfl d_S_blocksLookedAt_16 ?_
      refine lv_icmp_ge (tgt := 65) hx hb d_S_blocksLookedAt_19 (by decide) (fun hc => ?_) (fun hc => ?_)
      · replace h := q_ifp hc h
        exact hK _ _ _ ls h (lv_sub hl [2] rfl) V
      · replace h := q_ifn hc h
        refine lv_aload_n hx hb d_S_blocksLookedAt_22 rfl (lv_at hl 0 rfl) ?_
        refine x_get (v := .ref (b 12)) G V 11 3 2 x_w11 rfl in_S (by decide) k_S_18 rfl d_S_blocksLookedAt_23 ?_
        refine lv_iload hx hb d_S_blocksLookedAt_26 (lv_at hl 3 rfl) ?_
        obtain ⟨g3, h⟩ := q_gd_h h
        refine x_lald G V 12 x_w12 g3 d_S_blocksLookedAt_28 ?_
        refine lv_lload_n hx hb d_S_blocksLookedAt_29 rfl (lv_at hl 1 rfl) ?_
        refine lv_land hx hb d_S_blocksLookedAt_30 ?_
        refine lv_lload_n hx hb d_S_blocksLookedAt_31 rfl (lv_at hl 1 rfl) ?_
        refine W.lcmp hx hb d_S_blocksLookedAt_32 ?_
        refine lv_if_ne (tgt := 59) hx hb d_S_blocksLookedAt_33 (by decide) (fun hc => ?_) (fun hc => ?_)
        · replace h := q_ifn hc h
          refine lv_iinc (k := 3) (v := v4 + 1) (lv' := [(4, .int (v4 + 1)), (0, .ref (b 11)), (1, .long (u1)), (3, .int (v3))]) hx hb d_S_blocksLookedAt_59 hl rfl rfl (by decide) rfl (fun ls hl => ?_)
          refine lv_goto (tgt := 13) hx hb d_S_blocksLookedAt_62 (by decide) ?_
          exact ih _ _ _ _ ls h (lv_sub hl [1, 2, 3, 0] rfl) V
        · replace h := q_ifp hc h
          refine lv_iload_n hx hb d_S_blocksLookedAt_36 rfl (lv_at hl 2 rfl) ?_
          refine lv_aload_n hx hb d_S_blocksLookedAt_37 rfl (lv_at hl 0 rfl) ?_
          refine x_get (v := .ref (b 14)) G V 11 3 4 x_w11 rfl in_S (by decide) k_S_26 rfl d_S_blocksLookedAt_38 ?_
          refine lv_iload hx hb d_S_blocksLookedAt_41 (lv_at hl 3 rfl) ?_
          obtain ⟨g4, h⟩ := q_gd_h h
          refine x_iald G V 14 x_w14 g4 d_S_blocksLookedAt_43 ?_
          refine lv_if_ne (tgt := 51) hx hb d_S_blocksLookedAt_44 (by decide) (fun hc => ?_) (fun hc => ?_)
          · replace h := q_ifn hc h
            refine lv_aload_n hx hb d_S_blocksLookedAt_51 rfl (lv_at hl 0 rfl) ?_
            refine lv_iload hx hb d_S_blocksLookedAt_52 (lv_at hl 3 rfl) ?_
            obtain ⟨r6, h5, h⟩ := q_bind h
            refine x_cV_i (As := [.int (v4)]) (rest := [.int (v3)]) G V hml (c_S_blocksOfRow l D b ad cs N σ v4 r6 h5) 11 3 rfl x_w11 g_S_39 e_S_blocksOfRow ⟨Nat.le_of_ble_eq_true rfl, Nat.le_of_ble_eq_true rfl⟩ ⟨rfl, rfl⟩ ⟨Nat.zero_le _, Nat.zero_le _⟩ rfl hl.1 rfl (Nat.le_of_ble_eq_true rfl) d_S_blocksLookedAt_54 (fun H locs V => ?_)
            refine lv_iadd hx hb d_S_blocksLookedAt_57 ?_
            refine lv_istore_n (lv' := [(3, .int (v3 + r6)), (0, .ref (b 11)), (1, .long (u1)), (4, .int (v4))]) hx hb d_S_blocksLookedAt_58 rfl hl (by decide) rfl (fun ls hl => ?_)
            refine lv_iinc (k := 3) (v := v4 + 1) (lv' := [(4, .int (v4 + 1)), (3, .int (v3 + r6)), (0, .ref (b 11)), (1, .long (u1))]) hx hb d_S_blocksLookedAt_59 hl rfl rfl (by decide) rfl (fun ls hl => ?_)
            refine lv_goto (tgt := 13) hx hb d_S_blocksLookedAt_62 (by decide) ?_
            exact ih _ _ _ _ ls h (lv_sub hl [2, 3, 1, 0] rfl) V
          · replace h := q_ifp hc h
            refine lv_iconst (v := 1) hx hb d_S_blocksLookedAt_47 (by decide) ?_
            refine lv_goto (tgt := 57) hx hb d_S_blocksLookedAt_48 (by decide) ?_
            refine lv_iadd hx hb d_S_blocksLookedAt_57 ?_
            refine lv_istore_n (lv' := [(3, .int (v3 + 1)), (0, .ref (b 11)), (1, .long (u1)), (4, .int (v4))]) hx hb d_S_blocksLookedAt_58 rfl hl (by decide) rfl (fun ls hl => ?_)
            refine lv_iinc (k := 3) (v := v4 + 1) (lv' := [(4, .int (v4 + 1)), (3, .int (v3 + 1)), (0, .ref (b 11)), (1, .long (u1))]) hx hb d_S_blocksLookedAt_59 hl rfl rfl (by decide) rfl (fun ls hl => ?_)
            refine lv_goto (tgt := 13) hx hb d_S_blocksLookedAt_62 (by decide) ?_
            exact ih _ _ _ _ ls h (lv_sub hl [2, 3, 1, 0] rfl) V
  replace hl := lv_sub (l' := [(0, .ref (b 11)), (1, .long (r2)), (3, .int (0)), (4, .int (0))]) hl [3, 2, 1, 0] rfl
  refine lp13 _ _ ?_ _ _ _ _ _ ls h hl V
  intro v3 H locs ls h hl V
  refine lv_iload_n hx hb d_S_blocksLookedAt_65 rfl (lv_at hl 0 rfl) ?_
  exact x_pret_i G hr hlk h rfl V d_S_blocksLookedAt_66

set_option maxHeartbeats 40000000 in
set_option maxRecDepth 100000 in
theorem c_T_lookFor (l : Launch) (D : va_G) (b ad : Nat → Nat) (cs : Nat → ClassId) (N : Nat) (σ : x_T) (a1 : Int32) (σ' : x_T) (h : f_T_lookFor N σ a1 = some σ') : x_Cv l y_T_lookFor b_T_lookFor 5 none { frames := 2, cells := 0, slots := 0, locals := 47 } D b ad cs σ [.ref (b 0), .int (a1)] σ' := by
  refine x_met_v (own := R_T) (by decide) rfl (Nat.le_of_ble_eq_true rfl) ?_
  intro p e s m args below meth c A G hr hlk hml ls hl V
  have hx := G.1
  have hb := G.2.1
  have hown := G.2.2.1
  have hts := G.2.2.2.1
  have hN := G.2.2.2.2.2
  have hl : lv_has ls 5 [(0, .ref (b 0)), (1, .int (a1))] := hl
  unfold f_T_lookFor at h
  refine lv_aload_n hx hb d_T_lookFor_0 rfl (lv_at hl 0 rfl) ?_
  refine lv_iload_n hx hb d_T_lookFor_1 rfl (lv_at hl 1 rfl) ?_
  obtain ⟨r2, h1, h⟩ := q_bind h
  refine x_cV_i (As := [.int (a1)]) (rest := []) G V hml (c_T_tabletOf l D b ad cs N σ a1 r2 h1) 0 0 rfl x_w0 g_T_145 e_T_tabletOf ⟨Nat.le_of_ble_eq_true rfl, Nat.le_of_ble_eq_true rfl⟩ ⟨rfl, rfl⟩ ⟨Nat.zero_le _, Nat.zero_le _⟩ rfl hl.1 rfl (Nat.le_of_ble_eq_true rfl) d_T_lookFor_2 (fun H locs V => ?_)
  refine lv_istore_n (lv' := [(2, .int (r2)), (0, .ref (b 0)), (1, .int (a1))]) hx hb d_T_lookFor_5 rfl hl (by decide) rfl (fun ls hl => ?_)
  refine lv_aload_n hx hb d_T_lookFor_6 rfl (lv_at hl 1 rfl) ?_
  refine lv_iload_n hx hb d_T_lookFor_7 rfl (lv_at hl 0 rfl) ?_
  obtain ⟨r4, h3, h⟩ := q_bind h
  refine x_cV_i (As := [.int (r2)]) (rest := []) G V hml (c_T_endOf l D b ad cs N σ r2 r4 h3) 0 0 rfl x_w0 g_T_217 e_T_endOf ⟨Nat.le_of_ble_eq_true rfl, Nat.le_of_ble_eq_true rfl⟩ ⟨rfl, rfl⟩ ⟨Nat.zero_le _, Nat.zero_le _⟩ rfl hl.1 rfl (Nat.le_of_ble_eq_true rfl) d_T_lookFor_8 (fun H locs V => ?_)
  refine lv_istore_n (lv' := [(3, .int (r4)), (2, .int (r2)), (0, .ref (b 0)), (1, .int (a1))]) hx hb d_T_lookFor_11 rfl hl (by decide) rfl (fun ls hl => ?_)
  refine lv_aload_n hx hb d_T_lookFor_12 rfl (lv_at hl 2 rfl) ?_
  refine x_get (v := .ref (b 11)) G V 0 0 12 x_w0 rfl in_T (by decide) k_T_59 rfl d_T_lookFor_13 ?_
  refine lv_iload_n hx hb d_T_lookFor_16 rfl (lv_at hl 3 rfl) ?_
  obtain ⟨s6, h5, h⟩ := q_bind h
  refine x_cN_v (As := [.int (a1)]) (rest := []) G V hml (c_S_begin l D b ad cs N σ a1 s6 h5) 11 3 rfl x_w11 k_co_S_begin k_T_220 k_in_S k_im_S_begin k_se_S_begin (e_S_begin).2 ⟨Nat.le_of_ble_eq_true rfl, Nat.le_of_ble_eq_true rfl⟩ ⟨rfl, rfl⟩ ⟨Nat.zero_le _, Nat.zero_le _⟩ rfl hl.1 rfl (Nat.le_of_ble_eq_true rfl) d_T_lookFor_17 (fun H locs V => ?_)
  refine lv_aload_n hx hb d_T_lookFor_20 rfl (lv_at hl 2 rfl) ?_
  refine lv_iload_n hx hb d_T_lookFor_21 rfl (lv_at hl 1 rfl) ?_
  obtain ⟨r8, h7, h⟩ := q_bind h
  refine x_cV_i (As := [.int (r2)]) (rest := []) G V hml (c_T_startOf l D b ad cs N s6 r2 r8 h7) 0 0 rfl x_w0 g_T_223 e_T_startOf ⟨Nat.le_of_ble_eq_true rfl, Nat.le_of_ble_eq_true rfl⟩ ⟨rfl, rfl⟩ ⟨Nat.zero_le _, Nat.zero_le _⟩ rfl hl.1 rfl (Nat.le_of_ble_eq_true rfl) d_T_lookFor_22 (fun H locs V => ?_)
  refine lv_istore (lv' := [(4, .int (r8)), (3, .int (r4)), (2, .int (r2)), (0, .ref (b 0)), (1, .int (a1))]) hx hb d_T_lookFor_25 hl (by decide) rfl (fun ls hl => ?_)
  have lp27 : ∀ (u3 : Int32) (K : x_T → Option x_T) (_ : ∀ (σ : x_T) (H : Heap) (locs : List Loc) (ls : Array Slot), K σ = some σ' → lv_has ls 5 [(0, .ref (b 0))] → x_V D b ad cs σ A s.heap H locs → W p l e { frames := 2, cells := 0, slots := 0, locals := 47 } s m args below meth c H locs 0 0 (x_Qv below args s D b ad cs A σ') (F0 m 80 ls [])) (n : Nat) (v4 : Int32) (σ : x_T) (H : Heap) (locs : List Loc) (ls : Array Slot), f_T_lookFor_L27 N u3 K n v4 σ = some σ' → lv_has ls 5 [(0, .ref (b 0)), (3, .int (u3)), (4, .int (v4))] → x_V D b ad cs σ A s.heap H locs → W p l e { frames := 2, cells := 0, slots := 0, locals := 47 } s m args below meth c H locs 0 0 (x_Qv below args s D b ad cs A σ') (F0 m 27 ls []) := by
    intro u3 K hK n
    induction n with
    | zero => intro v4 σ H locs ls h hl V; cases h
    | succ n ih =>
      intro v4 σ H locs ls h hl V
      rw [f_T_lookFor_L27] at h
      refine lv_iload hx hb d_T_lookFor_27 (lv_at hl 2 rfl) ?_
      refine lv_iload_n hx hb d_T_lookFor_29 rfl (lv_at hl 1 rfl) ?_
      refine lv_icmp_ge (tgt := 80) hx hb d_T_lookFor_30 (by decide) (fun hc => ?_) (fun hc => ?_)
      · replace h := q_ifp hc h
        exact hK _ _ _ ls h (lv_sub hl [0] rfl) V
      · replace h := q_ifn hc h
        refine lv_aload_n hx hb d_T_lookFor_33 rfl (lv_at hl 0 rfl) ?_
        refine x_get (v := .ref (b 3)) G V 0 0 3 x_w0 rfl in_T (by decide) k_T_22 rfl d_T_lookFor_34 ?_
        refine lv_iload hx hb d_T_lookFor_37 (lv_at hl 2 rfl) ?_
        obtain ⟨g9, h⟩ := q_gd_h h
        refine x_aald G V g9 d_T_lookFor_39 (fun hE => ?_) (fun k10 hE => ?_)
        · replace h := q_omn hE h
          cases h
        · replace h := q_oms hE h
          obtain ⟨b11, h⟩ := q_gd_h h
          replace b11 := q_lt_h b11
          refine x_getN (v := .int (x_P σ k10 8)) G V (15 + k10) 1 8 (x_wE b11) rfl in_E (by decide) k_T_226 rfl d_T_lookFor_40 ?_
          refine lv_iconst (v := (-1)) hx hb d_T_lookFor_43 (by decide) ?_
          refine lv_icmp_eq (tgt := 74) hx hb d_T_lookFor_44 (by decide) (fun hc => ?_) (fun hc => ?_)
          · replace h := q_ifp hc h
            refine lv_iinc (k := 2) (v := v4 + 1) (lv' := [(4, .int (v4 + 1)), (0, .ref (b 0)), (3, .int (u3))]) hx hb d_T_lookFor_74 hl rfl rfl (by decide) rfl (fun ls hl => ?_)
            refine lv_goto (tgt := 27) hx hb d_T_lookFor_77 (by decide) ?_
            exact ih _ _ _ _ ls h (lv_sub hl [1, 2, 0] rfl) V
          · replace h := q_ifn hc h
            refine lv_aload_n hx hb d_T_lookFor_47 rfl (lv_at hl 0 rfl) ?_
            refine x_get (v := .ref (b 11)) G V 0 0 12 x_w0 rfl in_T (by decide) k_T_59 rfl d_T_lookFor_48 ?_
            refine lv_aload_n hx hb d_T_lookFor_51 rfl (lv_at hl 0 rfl) ?_
            refine x_get (v := .ref (b 3)) G V 0 0 3 x_w0 rfl in_T (by decide) k_T_22 rfl d_T_lookFor_52 ?_
            refine lv_iload hx hb d_T_lookFor_55 (lv_at hl 2 rfl) ?_
            obtain ⟨g12, h⟩ := q_gd_h h
            refine x_aald G V g12 d_T_lookFor_57 (fun hE => ?_) (fun k13 hE => ?_)
            · replace h := q_omn hE h
              cases h
            · replace h := q_oms hE h
              obtain ⟨b14, h⟩ := q_gd_h h
              replace b14 := q_lt_h b14
              refine x_getN (v := .int (x_P σ k13 8)) G V (15 + k13) 1 8 (x_wE b14) rfl in_E (by decide) k_T_226 rfl d_T_lookFor_58 ?_
              refine lv_aload_n hx hb d_T_lookFor_61 rfl (lv_at hl 0 rfl) ?_
              refine x_get (v := .ref (b 3)) G V 0 0 3 x_w0 rfl in_T (by decide) k_T_22 rfl d_T_lookFor_62 ?_
              refine lv_iload hx hb d_T_lookFor_65 (lv_at hl 2 rfl) ?_
              obtain ⟨g15, h⟩ := q_gd_h h
              refine x_aald G V g15 d_T_lookFor_67 (fun hE => ?_) (fun k16 hE => ?_)
              · replace h := q_omn hE h
                cases h
              · replace h := q_oms hE h
                obtain ⟨b17, h⟩ := q_gd_h h
                replace b17 := q_lt_h b17
                refine x_getN (v := .int (x_P σ k16 0)) G V (15 + k16) 1 0 (x_wE b17) rfl in_E (by decide) k_T_202 rfl d_T_lookFor_68 ?_
                obtain ⟨s19, h18, h⟩ := q_bind h
                refine x_cN_v (As := [.int (x_P σ k13 8), .int (x_P σ k16 0)]) (rest := []) G V hml (c_S_pass l D b ad cs N σ (x_P σ k13 8) (x_P σ k16 0) s19 h18) 11 3 rfl x_w11 k_co_S_pass k_T_229 k_in_S k_im_S_pass k_se_S_pass (e_S_pass).2 ⟨Nat.le_of_ble_eq_true rfl, Nat.le_of_ble_eq_true rfl⟩ ⟨rfl, rfl⟩ ⟨Nat.zero_le _, Nat.zero_le _⟩ rfl hl.1 rfl (Nat.le_of_ble_eq_true rfl) d_T_lookFor_71 (fun H locs V => ?_)
                refine lv_iinc (k := 2) (v := v4 + 1) (lv' := [(4, .int (v4 + 1)), (0, .ref (b 0)), (3, .int (u3))]) hx hb d_T_lookFor_74 hl rfl rfl (by decide) rfl (fun ls hl => ?_)
                refine lv_goto (tgt := 27) hx hb d_T_lookFor_77 (by decide) ?_
                exact ih _ _ _ _ ls h (lv_sub hl [1, 2, 0] rfl) V
  replace hl := lv_sub (l' := [(0, .ref (b 0)), (3, .int (r4)), (4, .int (r8))]) hl [3, 1, 0] rfl
  refine lp27 _ _ ?_ _ _ _ _ _ ls h hl V
  intro t20 H locs ls h hl V
  refine lv_aload_n hx hb d_T_lookFor_80 rfl (lv_at hl 0 rfl) ?_
  refine lv_dup hx hb d_T_lookFor_81 rfl ?_
  refine x_get (v := .int (x_S t20 13)) G V 0 0 13 x_w0 rfl in_T (by decide) k_T_63 rfl d_T_lookFor_82 ?_
  refine lv_aload_n hx hb d_T_lookFor_85 rfl (lv_at hl 0 rfl) ?_
  refine x_get (v := .ref (b 11)) G V 0 0 12 x_w0 rfl in_T (by decide) k_T_59 rfl d_T_lookFor_86 ?_
  obtain ⟨r22, h21, h⟩ := q_bind h
  refine x_cN_i (As := []) (rest := [.int (x_S t20 13), .ref (b 0)]) G V hml (c_S_blocksLookedAt l D b ad cs N t20 r22 h21) 11 3 rfl x_w11 k_co_S_blocksLookedAt k_T_232 k_in_S k_im_S_blocksLookedAt k_se_S_blocksLookedAt (e_S_blocksLookedAt).2 ⟨Nat.le_of_ble_eq_true rfl, Nat.le_of_ble_eq_true rfl⟩ ⟨rfl, rfl⟩ ⟨Nat.zero_le _, Nat.zero_le _⟩ rfl hl.1 rfl (Nat.le_of_ble_eq_true rfl) d_T_lookFor_89 (fun H locs V => ?_)
  refine lv_iadd hx hb d_T_lookFor_92 ?_
  obtain ⟨s23, e23, h⟩ := q_let_h h
  refine x_put (σ' := s23) (ty := .int) G V 0 0 13 x_w0 rfl in_T tt_T_ok n_T (by decide) k_T_63 rfl rfl rfl rfl (Nat.le_of_ble_eq_true rfl) (x_uT13.trans (congrArg (x_W b ad cs) e23.symm)) d_T_lookFor_93 (fun H locs V => ?_)
  exact x_ret_v G hr hlk h V d_T_lookFor_96

set_option maxHeartbeats 40000000 in
set_option maxRecDepth 100000 in
theorem c_T_packed (l : Launch) (a1 : Int32) (a2 : Int32) (r : Int64) (h : f_T_packed a1 a2 = some r) : q_Cl l y_T_packed b_T_packed 2 (some .long) { frames := 0, cells := 0, slots := 0, locals := 0 } [.int (a1), .int (a2)] r := by
  refine q_met_l (own := R_T) (by decide) rfl (Nat.le_of_ble_eq_true rfl) ?_
  intro p e s m args below meth c G hr hlk hml ls hl
  have hx := G.1
  have hb := G.2.1
  have hown := G.2.2.1
  have hts := G.2.2.2.1
  have hN := G.2.2.2.2
  have hl : lv_has ls 2 [(0, .int (a1)), (1, .int (a2))] := hl
  unfold f_T_packed at h
  refine lv_ldc2 (v := 4294967296) hx hb hown (hts _ k_T_294) d_T_packed_0 ?_
  refine lv_iload_n hx hb d_T_packed_3 rfl (lv_at hl 0 rfl) ?_
  refine lv_i2l (v := (a1 : Int32).toInt64) hx hb d_T_packed_4 rfl ?_
  refine lv_lmul hx hb d_T_packed_5 ?_
  refine lv_iload_n hx hb d_T_packed_6 rfl (lv_at hl 1 rfl) ?_
  refine lv_i2l (v := (a2 : Int32).toInt64) hx hb d_T_packed_7 rfl ?_
  refine lv_ldc2 (v := 4294967295) hx hb hown (hts _ k_T_296) d_T_packed_8 ?_
  refine lv_land hx hb d_T_packed_11 ?_
  refine lv_ladd hx hb d_T_packed_12 ?_
  exact q_ret_l G hr hlk h d_T_packed_13

set_option maxHeartbeats 40000000 in
set_option maxRecDepth 100000 in
theorem c_T_get (l : Launch) (D : va_G) (b ad : Nat → Nat) (cs : Nat → ClassId) (N : Nat) (σ : x_T) (a1 : Int32) (a2 : Int32) (a3 : Int32) (a4 : Int32) (r : Int64) (σ' : x_T) (h : f_T_get N σ a1 a2 a3 a4 = some (r, σ')) : x_Cl l y_T_get b_T_get 6 (some .long) { frames := 3, cells := 0, slots := 0, locals := 71 } D b ad cs σ [.ref (b 0), .int (a1), .int (a2), .int (a3), .int (a4)] r σ' := by
  refine x_met_l (own := R_T) (by decide) rfl (Nat.le_of_ble_eq_true rfl) ?_
  intro p e s m args below meth c A G hr hlk hml ls hl V
  have hx := G.1
  have hb := G.2.1
  have hown := G.2.2.1
  have hts := G.2.2.2.1
  have hN := G.2.2.2.2.2
  have hl : lv_has ls 6 [(0, .ref (b 0)), (1, .int (a1)), (2, .int (a2)), (3, .int (a3)), (4, .int (a4))] := hl
  unfold f_T_get at h
  refine lv_iload_n hx hb d_T_get_0 rfl (lv_at hl 1 rfl) ?_
  obtain ⟨r2, h1, h⟩ := q_bind h
  refine q_cS_i (As := [.int (a1)]) (rest := []) hx hb hown hts hN hml (c_T_isRow l a1 r2 h1) g_T_70 e_T_isRow ⟨Nat.le_of_ble_eq_true rfl, Nat.le_of_ble_eq_true rfl⟩ ⟨rfl, rfl⟩ ⟨Nat.zero_le _, Nat.zero_le _⟩ rfl hl.1 rfl (Nat.le_of_ble_eq_true rfl) d_T_get_1 ?_
  refine lv_if_eq (tgt := 14) hx hb d_T_get_4 (by decide) (fun hc => ?_) (fun hc => ?_)
  · replace h := q_ifp hc h
    refine lv_ldc2 (v := -1) hx hb hown (hts _ k_T_185) d_T_get_14 ?_
    exact x_ret_l G hr hlk h V d_T_get_17
  · replace h := q_ifn hc h
    refine lv_iload_n hx hb d_T_get_7 rfl (lv_at hl 2 rfl) ?_
    obtain ⟨r4, h3, h⟩ := q_bind h
    refine q_cS_i (As := [.int (a2)]) (rest := []) hx hb hown hts hN hml (c_T_isColumn l a2 r4 h3) g_T_74 e_T_isColumn ⟨Nat.le_of_ble_eq_true rfl, Nat.le_of_ble_eq_true rfl⟩ ⟨rfl, rfl⟩ ⟨Nat.zero_le _, Nat.zero_le _⟩ rfl hl.1 rfl (Nat.le_of_ble_eq_true rfl) d_T_get_8 ?_
    refine lv_if_ne (tgt := 18) hx hb d_T_get_11 (by decide) (fun hc => ?_) (fun hc => ?_)
    · replace h := q_ifn hc h
      refine lv_aload_n hx hb d_T_get_18 rfl (lv_at hl 0 rfl) ?_
      refine lv_iload_n hx hb d_T_get_19 rfl (lv_at hl 1 rfl) ?_
      obtain ⟨s6, h5, h⟩ := q_bind h
      refine x_cV_v (As := [.int (a1)]) (rest := []) G V hml (c_T_lookFor l D b ad cs N σ a1 s6 h5) 0 0 rfl x_w0 g_T_187 e_T_lookFor ⟨Nat.le_of_ble_eq_true rfl, Nat.le_of_ble_eq_true rfl⟩ ⟨rfl, rfl⟩ ⟨Nat.zero_le _, Nat.zero_le _⟩ rfl hl.1 rfl (Nat.le_of_ble_eq_true rfl) d_T_get_20 (fun H locs V => ?_)
      refine lv_aload_n hx hb d_T_get_23 rfl (lv_at hl 0 rfl) ?_
      refine lv_iload_n hx hb d_T_get_24 rfl (lv_at hl 1 rfl) ?_
      refine lv_iload_n hx hb d_T_get_25 rfl (lv_at hl 2 rfl) ?_
      refine lv_iload_n hx hb d_T_get_26 rfl (lv_at hl 3 rfl) ?_
      refine lv_iload hx hb d_T_get_27 (lv_at hl 4 rfl) ?_
      obtain ⟨r8, h7, h⟩ := q_bind h
      refine x_cV_q (As := [.int (a1), .int (a2), .int (a3), .int (a4)]) (rest := []) G V hml (c_T_liveCell l D b ad cs N s6 a1 a2 a3 a4 r8 h7) 0 0 rfl x_w0 g_T_125 e_T_liveCell ⟨Nat.le_of_ble_eq_true rfl, Nat.le_of_ble_eq_true rfl⟩ ⟨rfl, rfl⟩ ⟨Nat.zero_le _, Nat.zero_le _⟩ rfl hl.1 rfl (Nat.le_of_ble_eq_true rfl) d_T_get_29 (fun hE H locs V => ?_) (fun k9 hE H locs V => ?_)
      · replace h := q_omn hE h
        refine lv_astoreN (lv' := [(5, .null), (0, .ref (b 0)), (1, .int (a1)), (2, .int (a2)), (3, .int (a3)), (4, .int (a4))]) hx hb d_T_get_32 hl (by decide) rfl (fun ls hl => ?_)
        refine lv_aloadN hx hb d_T_get_34 (lv_at hl 0 rfl) ?_
        refine lv_ifnonnullN hx hb d_T_get_36 ?_
        refine lv_ldc2 (v := -1) hx hb hown (hts _ k_T_185) d_T_get_39 ?_
        refine lv_goto (tgt := 58) hx hb d_T_get_42 (by decide) ?_
        exact x_ret_l G hr hlk h V d_T_get_58
      · replace h := q_oms hE h
        refine lv_astore (lv' := [(5, .ref (ad k9)), (0, .ref (b 0)), (1, .int (a1)), (2, .int (a2)), (3, .int (a3)), (4, .int (a4))]) hx hb d_T_get_32 hl (by decide) rfl (fun ls hl => ?_)
        refine lv_aload hx hb d_T_get_34 (lv_at hl 0 rfl) ?_
        refine lv_ifnonnull (tgt := 45) hx hb d_T_get_36 (by decide) ?_
        refine lv_aload hx hb d_T_get_45 (lv_at hl 0 rfl) ?_
        obtain ⟨b10, h⟩ := q_gd_h h
        replace b10 := q_lt_h b10
        refine x_getN (v := .int (x_P s6 k9 3)) G V (15 + k9) 1 3 (x_wE b10) rfl in_E (by decide) k_T_182 rfl d_T_get_47 ?_
        refine lv_aload hx hb d_T_get_50 (lv_at hl 0 rfl) ?_
        refine x_getN (v := .int (x_P s6 k9 5)) G V (15 + k9) 1 5 (x_wE b10) rfl in_E (by decide) k_T_132 rfl d_T_get_52 ?_
        obtain ⟨r12, h11, h⟩ := q_bind h
        refine q_cS_l (As := [.int (x_P s6 k9 3), .int (x_P s6 k9 5)]) (rest := []) hx hb hown hts hN hml (c_T_packed l (x_P s6 k9 3) (x_P s6 k9 5) r12 h11) g_T_190 e_T_packed ⟨Nat.le_of_ble_eq_true rfl, Nat.le_of_ble_eq_true rfl⟩ ⟨rfl, rfl⟩ ⟨Nat.zero_le _, Nat.zero_le _⟩ rfl hl.1 rfl (Nat.le_of_ble_eq_true rfl) d_T_get_55 ?_
        exact x_ret_l G hr hlk h V d_T_get_58
    · replace h := q_ifp hc h
      refine lv_ldc2 (v := -1) hx hb hown (hts _ k_T_185) d_T_get_14 ?_
      exact x_ret_l G hr hlk h V d_T_get_17

set_option maxHeartbeats 40000000 in
set_option maxRecDepth 100000 in
theorem c_T_addToResult (l : Launch) (D : va_G) (b ad : Nat → Nat) (cs : Nat → ClassId) (N : Nat) (σ : x_T) (a1 : Nat) (σ' : x_T) (h : f_T_addToResult N σ a1 = some σ') : x_Cv l y_T_addToResult b_T_addToResult 2 none { frames := 1, cells := 0, slots := 0, locals := 21 } D b ad cs σ [.ref (b 0), .ref (ad a1)] σ' := by
  refine x_met_v (own := R_T) (by decide) rfl (Nat.le_of_ble_eq_true rfl) ?_
  intro p e s m args below meth c A G hr hlk hml ls hl V
  have hx := G.1
  have hb := G.2.1
  have hown := G.2.2.1
  have hts := G.2.2.2.1
  have hN := G.2.2.2.2.2
  have hl : lv_has ls 2 [(0, .ref (b 0)), (1, .ref (ad a1))] := hl
  unfold f_T_addToResult at h
  refine lv_aload_n hx hb d_T_addToResult_0 rfl (lv_at hl 0 rfl) ?_
  refine x_get (v := .int (x_S σ 11)) G V 0 0 11 x_w0 rfl in_T (by decide) k_T_53 rfl d_T_addToResult_1 ?_
  refine lv_aload_n hx hb d_T_addToResult_4 rfl (lv_at hl 0 rfl) ?_
  refine x_get (v := .ref (b 10)) G V 0 0 10 x_w0 rfl in_T (by decide) k_T_49 rfl d_T_addToResult_5 ?_
  refine x_alen (v := 247) G V 10 1 x_w10 rfl rfl d_T_addToResult_8 ?_
  refine lv_icmp_ge (tgt := 59) hx hb d_T_addToResult_9 (by decide) (fun hc => ?_) (fun hc => ?_)
  · replace h := q_ifp hc h
    exact x_ret_v G hr hlk h V d_T_addToResult_59
  · replace h := q_ifn hc h
    refine lv_aload_n hx hb d_T_addToResult_12 rfl (lv_at hl 0 rfl) ?_
    refine x_get (v := .ref (b 10)) G V 0 0 10 x_w0 rfl in_T (by decide) k_T_49 rfl d_T_addToResult_13 ?_
    refine lv_aload_n hx hb d_T_addToResult_16 rfl (lv_at hl 0 rfl) ?_
    refine x_get (v := .int (x_S σ 11)) G V 0 0 11 x_w0 rfl in_T (by decide) k_T_53 rfl d_T_addToResult_17 ?_
    refine lv_aload_n hx hb d_T_addToResult_20 rfl (lv_at hl 1 rfl) ?_
    obtain ⟨b1, h⟩ := q_gd_h h
    replace b1 := q_lt_h b1
    refine x_getN (v := .int (x_P σ a1 0)) G V (15 + a1) 1 0 (x_wE b1) rfl in_E (by decide) k_T_202 rfl d_T_addToResult_21 ?_
    refine lv_bipush (v := 8) hx hb d_T_addToResult_24 (by decide) ?_
    refine lv_imul hx hb d_T_addToResult_26 ?_
    refine lv_aload_n hx hb d_T_addToResult_27 rfl (lv_at hl 1 rfl) ?_
    refine x_getN (v := .int (x_P σ a1 1)) G V (15 + a1) 1 1 (x_wE b1) rfl in_E (by decide) k_T_203 rfl d_T_addToResult_28 ?_
    refine lv_iadd hx hb d_T_addToResult_31 ?_
    refine lv_sipush (v := 10000) hx hb d_T_addToResult_32 (by decide) ?_
    refine lv_imul hx hb d_T_addToResult_35 ?_
    refine lv_aload_n hx hb d_T_addToResult_36 rfl (lv_at hl 1 rfl) ?_
    refine x_getN (v := .int (x_P σ a1 3)) G V (15 + a1) 1 3 (x_wE b1) rfl in_E (by decide) k_T_182 rfl d_T_addToResult_37 ?_
    refine lv_iadd hx hb d_T_addToResult_40 ?_
    refine lv_aload_n hx hb d_T_addToResult_41 rfl (lv_at hl 1 rfl) ?_
    refine x_getN (v := .int (x_P σ a1 5)) G V (15 + a1) 1 5 (x_wE b1) rfl in_E (by decide) k_T_132 rfl d_T_addToResult_42 ?_
    obtain ⟨r3, h2, h⟩ := q_bind h
    refine q_cS_l (As := [.int (((((x_P σ a1 0) * 8) + (x_P σ a1 1)) * 10000) + (x_P σ a1 3)), .int (x_P σ a1 5)]) (rest := [.int (x_S σ 11), .ref (b 10)]) hx hb hown hts hN hml (c_T_packed l (((((x_P σ a1 0) * 8) + (x_P σ a1 1)) * 10000) + (x_P σ a1 3)) (x_P σ a1 5) r3 h2) g_T_190 e_T_packed ⟨Nat.le_of_ble_eq_true rfl, Nat.le_of_ble_eq_true rfl⟩ ⟨rfl, rfl⟩ ⟨Nat.zero_le _, Nat.zero_le _⟩ rfl hl.1 rfl (Nat.le_of_ble_eq_true rfl) d_T_addToResult_45 ?_
    obtain ⟨g4, h⟩ := q_gd_h h
    obtain ⟨s5, e5, h⟩ := q_let_h h
    refine x_last (σ' := s5) G V 10 x_w10 (x_u10.trans (congrArg (x_W b ad cs) e5.symm)) g4 d_T_addToResult_48 (fun H locs V => ?_)
    have b6 : a1 < x_N s5 := by rw [e5]; exact b1
    refine lv_aload_n hx hb d_T_addToResult_49 rfl (lv_at hl 0 rfl) ?_
    refine lv_dup hx hb d_T_addToResult_50 rfl ?_
    refine x_get (v := .int (x_S s5 11)) G V 0 0 11 x_w0 rfl in_T (by decide) k_T_53 rfl d_T_addToResult_51 ?_
    refine lv_iconst (v := 1) hx hb d_T_addToResult_54 (by decide) ?_
    refine lv_iadd hx hb d_T_addToResult_55 ?_
    obtain ⟨s7, e7, h⟩ := q_let_h h
    refine x_put (σ' := s7) (ty := .int) G V 0 0 11 x_w0 rfl in_T tt_T_ok n_T (by decide) k_T_53 rfl rfl rfl rfl (Nat.le_of_ble_eq_true rfl) (x_uT11.trans (congrArg (x_W b ad cs) e7.symm)) d_T_addToResult_56 (fun H locs V => ?_)
    have b8 : a1 < x_N s7 := by rw [e7]; exact b6
    exact x_ret_v G hr hlk h V d_T_addToResult_59

set_option maxHeartbeats 40000000 in
set_option maxRecDepth 100000 in
theorem c_T_scan (l : Launch) (D : va_G) (b ad : Nat → Nat) (cs : Nat → ClassId) (N : Nat) (σ : x_T) (a1 : Int32) (a2 : Int32) (a3 : Int32) (a4 : Int32) (a5 : Int32) (r : Int32) (σ' : x_T) (h : f_T_scan N σ a1 a2 a3 a4 a5 = some (r, σ')) : x_Ci l y_T_scan b_T_scan 11 (some .int) { frames := 3, cells := 0, slots := 0, locals := 71 } D b ad cs σ [.ref (b 0), .int (a1), .int (a2), .int (a3), .int (a4), .int (a5)] r σ' := by
  refine x_met_i (own := R_T) (by decide) rfl (Nat.le_of_ble_eq_true rfl) ?_
  intro p e s m args below meth c A G hr hlk hml ls hl V
  have hx := G.1
  have hb := G.2.1
  have hown := G.2.2.1
  have hts := G.2.2.2.1
  have hN := G.2.2.2.2.2
  have hl : lv_has ls 11 [(0, .ref (b 0)), (1, .int (a1)), (2, .int (a2)), (3, .int (a3)), (4, .int (a4)), (5, .int (a5))] := hl
  unfold f_T_scan at h
  refine lv_iload_n hx hb d_T_scan_0 rfl (lv_at hl 3 rfl) ?_
  refine lv_iconst (v := (-1)) hx hb d_T_scan_1 (by decide) ?_
  refine lv_icmp_eq (tgt := 14) hx hb d_T_scan_2 (by decide) (fun hc => ?_) (fun hc => ?_)
  · replace h := q_ifp hc h
    refine lv_iload_n hx hb d_T_scan_14 rfl (lv_at hl 1 rfl) ?_
    refine lv_iconst (v := 0) hx hb d_T_scan_15 (by decide) ?_
    refine va_mmax hx hb (hml.trans hl.1.symm) hown (hts _ k_T_194) (hts _ k_st_max) (hts _ k_in_Math) (hts _ k_co_max) (Nat.le_of_ble_eq_true rfl) (Nat.le_of_ble_eq_true rfl) (Nat.zero_le _) (Nat.zero_le _) d_T_scan_16 ?_
    refine lv_istore (lv' := [(6, .int ((if (a1 : Int32) < (0 : Int32) then (0 : Int32) else (a1 : Int32)))), (0, .ref (b 0)), (1, .int (a1)), (2, .int (a2)), (3, .int (a3)), (4, .int (a4)), (5, .int (a5))]) hx hb d_T_scan_19 hl (by decide) rfl (fun ls hl => ?_)
    refine lv_iload_n hx hb d_T_scan_21 rfl (lv_at hl 3 rfl) ?_
    refine lv_bipush (v := 63) hx hb d_T_scan_22 (by decide) ?_
    refine va_mmin hx hb (hml.trans hl.1.symm) hown (hts _ k_T_199) (hts _ k_st_min) (hts _ k_in_Math) (hts _ k_co_min) (Nat.le_of_ble_eq_true rfl) (Nat.le_of_ble_eq_true rfl) (Nat.zero_le _) (Nat.zero_le _) d_T_scan_24 ?_
    refine lv_istore (lv' := [(7, .int ((if (63 : Int32) < (a2 : Int32) then (63 : Int32) else (a2 : Int32)))), (6, .int ((if (a1 : Int32) < (0 : Int32) then (0 : Int32) else (a1 : Int32)))), (0, .ref (b 0)), (1, .int (a1)), (2, .int (a2)), (3, .int (a3)), (4, .int (a4)), (5, .int (a5))]) hx hb d_T_scan_27 hl (by decide) rfl (fun ls hl => ?_)
    refine lv_iload hx hb d_T_scan_29 (lv_at hl 1 rfl) ?_
    refine lv_istore (lv' := [(8, .int ((if (a1 : Int32) < (0 : Int32) then (0 : Int32) else (a1 : Int32)))), (7, .int ((if (63 : Int32) < (a2 : Int32) then (63 : Int32) else (a2 : Int32)))), (6, .int ((if (a1 : Int32) < (0 : Int32) then (0 : Int32) else (a1 : Int32)))), (0, .ref (b 0)), (1, .int (a1)), (2, .int (a2)), (3, .int (a3)), (4, .int (a4)), (5, .int (a5))]) hx hb d_T_scan_31 hl (by decide) rfl (fun ls hl => ?_)
    have lp33 : ∀ (u3 : Int32) (u4 : Int32) (u5 : Int32) (u6 : Int32) (u7 : Int32) (K : x_T → Option (Int32 × x_T)) (_ : ∀ (σ : x_T) (H : Heap) (locs : List Loc) (ls : Array Slot), K σ = some (r, σ') → lv_has ls 11 [(0, .ref (b 0)), (3, .int (u3)), (4, .int (u4)), (5, .int (u5)), (6, .int (u6)), (7, .int (u7))] → x_V D b ad cs σ A s.heap H locs → W p l e { frames := 3, cells := 0, slots := 0, locals := 71 } s m args below meth c H locs 0 0 (x_Qi below args s D b ad cs A r σ') (F0 m 52 ls [])) (n : Nat) (v8 : Int32) (σ : x_T) (H : Heap) (locs : List Loc) (ls : Array Slot), f_T_scan_L33 N u3 u4 u5 u6 u7 K n v8 σ = some (r, σ') → lv_has ls 11 [(0, .ref (b 0)), (3, .int (u3)), (4, .int (u4)), (5, .int (u5)), (6, .int (u6)), (7, .int (u7)), (8, .int (v8))] → x_V D b ad cs σ A s.heap H locs → W p l e { frames := 3, cells := 0, slots := 0, locals := 71 } s m args below meth c H locs 0 0 (x_Qi below args s D b ad cs A r σ') (F0 m 33 ls []) := by
      intro u3 u4 u5 u6 u7 K hK n
      induction n with
      | zero => intro v8 σ H locs ls h hl V; cases h
      | succ n ih =>
        intro v8 σ H locs ls h hl V
        rw [f_T_scan_L33] at h
        refine lv_iload hx hb d_T_scan_33 (lv_at hl 6 rfl) ?_
        refine lv_iload hx hb d_T_scan_35 (lv_at hl 5 rfl) ?_
        refine lv_icmp_gt (tgt := 52) hx hb d_T_scan_37 (by decide) (fun hc => ?_) (fun hc => ?_)
        · replace h := q_ifp hc h
          exact hK _ _ _ ls h (lv_sub hl [0, 1, 2, 3, 4, 5] rfl) V
        · replace h := q_ifn hc h
          refine lv_aload_n hx hb d_T_scan_40 rfl (lv_at hl 0 rfl) ?_
          refine lv_iload hx hb d_T_scan_41 (lv_at hl 6 rfl) ?_
          obtain ⟨s2, h1, h⟩ := q_bind h
          refine x_cV_v (As := [.int (v8)]) (rest := []) G V hml (c_T_lookFor l D b ad cs N σ v8 s2 h1) 0 0 rfl x_w0 g_T_187 e_T_lookFor ⟨Nat.le_of_ble_eq_true rfl, Nat.le_of_ble_eq_true rfl⟩ ⟨rfl, rfl⟩ ⟨Nat.zero_le _, Nat.zero_le _⟩ rfl hl.1 rfl (Nat.le_of_ble_eq_true rfl) d_T_scan_43 (fun H locs V => ?_)
          refine lv_iinc (k := 6) (v := v8 + 1) (lv' := [(8, .int (v8 + 1)), (0, .ref (b 0)), (3, .int (u3)), (4, .int (u4)), (5, .int (u5)), (6, .int (u6)), (7, .int (u7))]) hx hb d_T_scan_46 hl rfl rfl (by decide) rfl (fun ls hl => ?_)
          refine lv_goto (tgt := 33) hx hb d_T_scan_49 (by decide) ?_
          exact ih _ _ _ _ ls h (lv_sub hl [1, 2, 3, 4, 5, 6, 0] rfl) V
    replace hl := lv_sub (l' := [(0, .ref (b 0)), (3, .int (a3)), (4, .int (a4)), (5, .int (a5)), (6, .int ((if (a1 : Int32) < (0 : Int32) then (0 : Int32) else (a1 : Int32)))), (7, .int ((if (63 : Int32) < (a2 : Int32) then (63 : Int32) else (a2 : Int32)))), (8, .int ((if (a1 : Int32) < (0 : Int32) then (0 : Int32) else (a1 : Int32))))]) hl [3, 6, 7, 8, 2, 1, 0] rfl
    refine lp33 _ _ _ _ _ _ ?_ _ _ _ _ _ ls h hl V
    intro t3 H locs ls h hl V
    refine lv_aload_n hx hb d_T_scan_52 rfl (lv_at hl 0 rfl) ?_
    refine lv_iconst (v := 0) hx hb d_T_scan_53 (by decide) ?_
    obtain ⟨s4, e4, h⟩ := q_let_h h
    refine x_put (σ' := s4) (ty := .int) G V 0 0 11 x_w0 rfl in_T tt_T_ok n_T (by decide) k_T_53 rfl rfl rfl rfl (Nat.le_of_ble_eq_true rfl) (x_uT11.trans (congrArg (x_W b ad cs) e4.symm)) d_T_scan_54 (fun H locs V => ?_)
    refine lv_iconst (v := 0) hx hb d_T_scan_57 (by decide) ?_
    refine lv_istore (lv' := [(8, .int (0)), (0, .ref (b 0)), (3, .int (a3)), (4, .int (a4)), (5, .int (a5)), (6, .int ((if (a1 : Int32) < (0 : Int32) then (0 : Int32) else (a1 : Int32)))), (7, .int ((if (63 : Int32) < (a2 : Int32) then (63 : Int32) else (a2 : Int32))))]) hx hb d_T_scan_58 hl (by decide) rfl (fun ls hl => ?_)
    have lp60 : ∀ (u3 : Int32) (u4 : Int32) (u5 : Int32) (u6 : Int32) (u7 : Int32) (K : x_T → Option (Int32 × x_T)) (_ : ∀ (σ : x_T) (H : Heap) (locs : List Loc) (ls : Array Slot), K σ = some (r, σ') → lv_has ls 11 [(0, .ref (b 0))] → x_V D b ad cs σ A s.heap H locs → W p l e { frames := 3, cells := 0, slots := 0, locals := 71 } s m args below meth c H locs 0 0 (x_Qi below args s D b ad cs A r σ') (F0 m 165 ls [])) (n : Nat) (v8 : Int32) (σ : x_T) (H : Heap) (locs : List Loc) (ls : Array Slot), f_T_scan_L60 N u3 u4 u5 u6 u7 K n v8 σ = some (r, σ') → lv_has ls 11 [(0, .ref (b 0)), (3, .int (u3)), (4, .int (u4)), (5, .int (u5)), (6, .int (u6)), (7, .int (u7)), (8, .int (v8))] → x_V D b ad cs σ A s.heap H locs → W p l e { frames := 3, cells := 0, slots := 0, locals := 71 } s m args below meth c H locs 0 0 (x_Qi below args s D b ad cs A r σ') (F0 m 60 ls []) := by
      intro u3 u4 u5 u6 u7 K hK n
      induction n with
      | zero => intro v8 σ H locs ls h hl V; cases h
      | succ n ih =>
        intro v8 σ H locs ls h hl V
        rw [f_T_scan_L60] at h
        refine lv_iload hx hb d_T_scan_60 (lv_at hl 6 rfl) ?_
        refine lv_aload_n hx hb d_T_scan_62 rfl (lv_at hl 0 rfl) ?_
        refine x_get (v := .int (x_S σ 4)) G V 0 0 4 x_w0 rfl in_T (by decide) k_T_26 rfl d_T_scan_63 ?_
        refine lv_icmp_ge (tgt := 165) hx hb d_T_scan_66 (by decide) (fun hc => ?_) (fun hc => ?_)
        · replace h := q_ifp hc h
          exact hK _ _ _ ls h (lv_sub hl [0] rfl) V
        · replace h := q_ifn hc h
          refine lv_aload_n hx hb d_T_scan_69 rfl (lv_at hl 0 rfl) ?_
          refine x_get (v := .ref (b 3)) G V 0 0 3 x_w0 rfl in_T (by decide) k_T_22 rfl d_T_scan_70 ?_
          refine lv_iload hx hb d_T_scan_73 (lv_at hl 6 rfl) ?_
          obtain ⟨g5, h⟩ := q_gd_h h
          refine x_aald G V g5 d_T_scan_75 (fun hE => ?_) (fun k6 hE => ?_)
          · replace h := q_omn hE h
            cases h
          · replace h := q_oms hE h
            refine lv_astore (lv' := [(9, .ref (ad k6)), (0, .ref (b 0)), (3, .int (u3)), (4, .int (u4)), (5, .int (u5)), (6, .int (u6)), (7, .int (u7)), (8, .int (v8))]) hx hb d_T_scan_76 hl (by decide) rfl (fun ls hl => ?_)
            refine lv_aload hx hb d_T_scan_78 (lv_at hl 0 rfl) ?_
            obtain ⟨b7, h⟩ := q_gd_h h
            replace b7 := q_lt_h b7
            refine x_getN (v := .int (x_P σ k6 0)) G V (15 + k6) 1 0 (x_wE b7) rfl in_E (by decide) k_T_202 rfl d_T_scan_80 ?_
            refine lv_iload hx hb d_T_scan_83 (lv_at hl 5 rfl) ?_
            refine lv_icmp_lt (tgt := 122) hx hb d_T_scan_85 (by decide) (fun hc => ?_) (fun hc => ?_)
            · replace h := q_ifp hc h
              refine lv_iconst (v := 0) hx hb d_T_scan_122 (by decide) ?_
              refine lv_istore (lv' := [(10, .int (0)), (9, .ref (ad k6)), (0, .ref (b 0)), (3, .int (u3)), (4, .int (u4)), (5, .int (u5)), (6, .int (u6)), (7, .int (u7)), (8, .int (v8))]) hx hb d_T_scan_123 hl (by decide) rfl (fun ls hl => ?_)
              refine lv_iload hx hb d_T_scan_125 (lv_at hl 0 rfl) ?_
              refine lv_if_eq (tgt := 159) hx hb d_T_scan_127 (by decide) (fun _ => ?_) (fun hc => absurd (by decide) hc)
              refine lv_iinc (k := 8) (v := v8 + 1) (lv' := [(8, .int (v8 + 1)), (10, .int (0)), (9, .ref (ad k6)), (0, .ref (b 0)), (3, .int (u3)), (4, .int (u4)), (5, .int (u5)), (6, .int (u6)), (7, .int (u7))]) hx hb d_T_scan_159 hl rfl rfl (by decide) rfl (fun ls hl => ?_)
              refine lv_goto (tgt := 60) hx hb d_T_scan_162 (by decide) ?_
              exact ih _ _ _ _ ls h (lv_sub hl [3, 4, 5, 6, 7, 8, 0] rfl) V
            · replace h := q_ifn hc h
              refine lv_aload hx hb d_T_scan_88 (lv_at hl 0 rfl) ?_
              refine x_getN (v := .int (x_P σ k6 0)) G V (15 + k6) 1 0 (x_wE b7) rfl in_E (by decide) k_T_202 rfl d_T_scan_90 ?_
              refine lv_iload hx hb d_T_scan_93 (lv_at hl 6 rfl) ?_
              refine lv_icmp_gt (tgt := 122) hx hb d_T_scan_95 (by decide) (fun hc => ?_) (fun hc => ?_)
              · replace h := q_ifp hc h
                refine lv_iconst (v := 0) hx hb d_T_scan_122 (by decide) ?_
                refine lv_istore (lv' := [(10, .int (0)), (9, .ref (ad k6)), (0, .ref (b 0)), (3, .int (u3)), (4, .int (u4)), (5, .int (u5)), (6, .int (u6)), (7, .int (u7)), (8, .int (v8))]) hx hb d_T_scan_123 hl (by decide) rfl (fun ls hl => ?_)
                refine lv_iload hx hb d_T_scan_125 (lv_at hl 0 rfl) ?_
                refine lv_if_eq (tgt := 159) hx hb d_T_scan_127 (by decide) (fun _ => ?_) (fun hc => absurd (by decide) hc)
                refine lv_iinc (k := 8) (v := v8 + 1) (lv' := [(8, .int (v8 + 1)), (10, .int (0)), (9, .ref (ad k6)), (0, .ref (b 0)), (3, .int (u3)), (4, .int (u4)), (5, .int (u5)), (6, .int (u6)), (7, .int (u7))]) hx hb d_T_scan_159 hl rfl rfl (by decide) rfl (fun ls hl => ?_)
                refine lv_goto (tgt := 60) hx hb d_T_scan_162 (by decide) ?_
                exact ih _ _ _ _ ls h (lv_sub hl [3, 4, 5, 6, 7, 8, 0] rfl) V
              · replace h := q_ifn hc h
                refine lv_aload hx hb d_T_scan_98 (lv_at hl 0 rfl) ?_
                refine x_getN (v := .int (x_P σ k6 3)) G V (15 + k6) 1 3 (x_wE b7) rfl in_E (by decide) k_T_182 rfl d_T_scan_100 ?_
                refine lv_iload hx hb d_T_scan_103 (lv_at hl 3 rfl) ?_
                refine lv_icmp_lt (tgt := 122) hx hb d_T_scan_105 (by decide) (fun hc => ?_) (fun hc => ?_)
                · replace h := q_ifp hc h
                  refine lv_iconst (v := 0) hx hb d_T_scan_122 (by decide) ?_
                  refine lv_istore (lv' := [(10, .int (0)), (9, .ref (ad k6)), (0, .ref (b 0)), (3, .int (u3)), (4, .int (u4)), (5, .int (u5)), (6, .int (u6)), (7, .int (u7)), (8, .int (v8))]) hx hb d_T_scan_123 hl (by decide) rfl (fun ls hl => ?_)
                  refine lv_iload hx hb d_T_scan_125 (lv_at hl 0 rfl) ?_
                  refine lv_if_eq (tgt := 159) hx hb d_T_scan_127 (by decide) (fun _ => ?_) (fun hc => absurd (by decide) hc)
                  refine lv_iinc (k := 8) (v := v8 + 1) (lv' := [(8, .int (v8 + 1)), (10, .int (0)), (9, .ref (ad k6)), (0, .ref (b 0)), (3, .int (u3)), (4, .int (u4)), (5, .int (u5)), (6, .int (u6)), (7, .int (u7))]) hx hb d_T_scan_159 hl rfl rfl (by decide) rfl (fun ls hl => ?_)
                  refine lv_goto (tgt := 60) hx hb d_T_scan_162 (by decide) ?_
                  exact ih _ _ _ _ ls h (lv_sub hl [3, 4, 5, 6, 7, 8, 0] rfl) V
                · replace h := q_ifn hc h
                  refine lv_aload hx hb d_T_scan_108 (lv_at hl 0 rfl) ?_
                  refine x_getN (v := .int (x_P σ k6 3)) G V (15 + k6) 1 3 (x_wE b7) rfl in_E (by decide) k_T_182 rfl d_T_scan_110 ?_
                  refine lv_iload hx hb d_T_scan_113 (lv_at hl 4 rfl) ?_
                  refine lv_icmp_gt (tgt := 122) hx hb d_T_scan_115 (by decide) (fun hc => ?_) (fun hc => ?_)
                  · replace h := q_ifp hc h
                    refine lv_iconst (v := 0) hx hb d_T_scan_122 (by decide) ?_
                    refine lv_istore (lv' := [(10, .int (0)), (9, .ref (ad k6)), (0, .ref (b 0)), (3, .int (u3)), (4, .int (u4)), (5, .int (u5)), (6, .int (u6)), (7, .int (u7)), (8, .int (v8))]) hx hb d_T_scan_123 hl (by decide) rfl (fun ls hl => ?_)
                    refine lv_iload hx hb d_T_scan_125 (lv_at hl 0 rfl) ?_
                    refine lv_if_eq (tgt := 159) hx hb d_T_scan_127 (by decide) (fun _ => ?_) (fun hc => absurd (by decide) hc)
                    refine lv_iinc (k := 8) (v := v8 + 1) (lv' := [(8, .int (v8 + 1)), (10, .int (0)), (9, .ref (ad k6)), (0, .ref (b 0)), (3, .int (u3)), (4, .int (u4)), (5, .int (u5)), (6, .int (u6)), (7, .int (u7))]) hx hb d_T_scan_159 hl rfl rfl (by decide) rfl (fun ls hl => ?_)
                    refine lv_goto (tgt := 60) hx hb d_T_scan_162 (by decide) ?_
                    exact ih _ _ _ _ ls h (lv_sub hl [3, 4, 5, 6, 7, 8, 0] rfl) V
                  · replace h := q_ifn hc h
                    refine lv_iconst (v := 1) hx hb d_T_scan_118 (by decide) ?_
                    refine lv_goto (tgt := 123) hx hb d_T_scan_119 (by decide) ?_
                    refine lv_istore (lv' := [(10, .int (1)), (9, .ref (ad k6)), (0, .ref (b 0)), (3, .int (u3)), (4, .int (u4)), (5, .int (u5)), (6, .int (u6)), (7, .int (u7)), (8, .int (v8))]) hx hb d_T_scan_123 hl (by decide) rfl (fun ls hl => ?_)
                    refine lv_iload hx hb d_T_scan_125 (lv_at hl 0 rfl) ?_
                    refine lv_if_eq (tgt := 159) hx hb d_T_scan_127 (by decide) (fun hc => absurd hc (by decide)) (fun _ => ?_)
                    refine lv_iload_n hx hb d_T_scan_130 rfl (lv_at hl 3 rfl) ?_
                    refine lv_iconst (v := (-1)) hx hb d_T_scan_131 (by decide) ?_
                    refine lv_icmp_eq (tgt := 144) hx hb d_T_scan_132 (by decide) (fun hc => ?_) (fun hc => ?_)
                    · replace h := q_ifp hc h
                      refine lv_aload_n hx hb d_T_scan_144 rfl (lv_at hl 2 rfl) ?_
                      refine lv_aload hx hb d_T_scan_145 (lv_at hl 1 rfl) ?_
                      obtain ⟨r9, h8, h⟩ := q_bind h
                      refine x_cV_i (As := [.ref (ad k6)]) (rest := []) G V hml (c_T_isLive l D b ad cs N σ k6 r9 h8) 0 0 rfl x_w0 g_T_206 e_T_isLive ⟨Nat.le_of_ble_eq_true rfl, Nat.le_of_ble_eq_true rfl⟩ ⟨rfl, rfl⟩ ⟨Nat.zero_le _, Nat.zero_le _⟩ rfl hl.1 rfl (Nat.le_of_ble_eq_true rfl) d_T_scan_147 (fun H locs V => ?_)
                      refine lv_if_eq (tgt := 159) hx hb d_T_scan_150 (by decide) (fun hc => ?_) (fun hc => ?_)
                      · replace h := q_ifp hc h
                        refine lv_iinc (k := 8) (v := v8 + 1) (lv' := [(8, .int (v8 + 1)), (10, .int (1)), (9, .ref (ad k6)), (0, .ref (b 0)), (3, .int (u3)), (4, .int (u4)), (5, .int (u5)), (6, .int (u6)), (7, .int (u7))]) hx hb d_T_scan_159 hl rfl rfl (by decide) rfl (fun ls hl => ?_)
                        refine lv_goto (tgt := 60) hx hb d_T_scan_162 (by decide) ?_
                        exact ih _ _ _ _ ls h (lv_sub hl [3, 4, 5, 6, 7, 8, 0] rfl) V
                      · replace h := q_ifn hc h
                        refine lv_aload_n hx hb d_T_scan_153 rfl (lv_at hl 2 rfl) ?_
                        refine lv_aload hx hb d_T_scan_154 (lv_at hl 1 rfl) ?_
                        obtain ⟨s11, h10, h⟩ := q_bind h
                        refine x_cV_v (As := [.ref (ad k6)]) (rest := []) G V hml (c_T_addToResult l D b ad cs N σ k6 s11 h10) 0 0 rfl x_w0 g_T_210 e_T_addToResult ⟨Nat.le_of_ble_eq_true rfl, Nat.le_of_ble_eq_true rfl⟩ ⟨rfl, rfl⟩ ⟨Nat.zero_le _, Nat.zero_le _⟩ rfl hl.1 rfl (Nat.le_of_ble_eq_true rfl) d_T_scan_156 (fun H locs V => ?_)
                        refine lv_iinc (k := 8) (v := v8 + 1) (lv' := [(8, .int (v8 + 1)), (10, .int (1)), (9, .ref (ad k6)), (0, .ref (b 0)), (3, .int (u3)), (4, .int (u4)), (5, .int (u5)), (6, .int (u6)), (7, .int (u7))]) hx hb d_T_scan_159 hl rfl rfl (by decide) rfl (fun ls hl => ?_)
                        refine lv_goto (tgt := 60) hx hb d_T_scan_162 (by decide) ?_
                        exact ih _ _ _ _ ls h (lv_sub hl [3, 4, 5, 6, 7, 8, 0] rfl) V
                    · replace h := q_ifn hc h
                      refine lv_aload hx hb d_T_scan_135 (lv_at hl 1 rfl) ?_
                      refine x_getN (v := .int (x_P σ k6 1)) G V (15 + k6) 1 1 (x_wE b7) rfl in_E (by decide) k_T_203 rfl d_T_scan_137 ?_
                      refine lv_iload_n hx hb d_T_scan_140 rfl (lv_at hl 3 rfl) ?_
                      refine lv_icmp_ne (tgt := 159) hx hb d_T_scan_141 (by decide) (fun hc => ?_) (fun hc => ?_)
                      · replace h := q_ifn hc h
                        refine lv_iinc (k := 8) (v := v8 + 1) (lv' := [(8, .int (v8 + 1)), (10, .int (1)), (9, .ref (ad k6)), (0, .ref (b 0)), (3, .int (u3)), (4, .int (u4)), (5, .int (u5)), (6, .int (u6)), (7, .int (u7))]) hx hb d_T_scan_159 hl rfl rfl (by decide) rfl (fun ls hl => ?_)
                        refine lv_goto (tgt := 60) hx hb d_T_scan_162 (by decide) ?_
                        exact ih _ _ _ _ ls h (lv_sub hl [3, 4, 5, 6, 7, 8, 0] rfl) V
                      · replace h := q_ifp hc h
                        refine lv_aload_n hx hb d_T_scan_144 rfl (lv_at hl 2 rfl) ?_
                        refine lv_aload hx hb d_T_scan_145 (lv_at hl 1 rfl) ?_
                        obtain ⟨r13, h12, h⟩ := q_bind h
                        refine x_cV_i (As := [.ref (ad k6)]) (rest := []) G V hml (c_T_isLive l D b ad cs N σ k6 r13 h12) 0 0 rfl x_w0 g_T_206 e_T_isLive ⟨Nat.le_of_ble_eq_true rfl, Nat.le_of_ble_eq_true rfl⟩ ⟨rfl, rfl⟩ ⟨Nat.zero_le _, Nat.zero_le _⟩ rfl hl.1 rfl (Nat.le_of_ble_eq_true rfl) d_T_scan_147 (fun H locs V => ?_)
                        refine lv_if_eq (tgt := 159) hx hb d_T_scan_150 (by decide) (fun hc => ?_) (fun hc => ?_)
                        · replace h := q_ifp hc h
                          refine lv_iinc (k := 8) (v := v8 + 1) (lv' := [(8, .int (v8 + 1)), (10, .int (1)), (9, .ref (ad k6)), (0, .ref (b 0)), (3, .int (u3)), (4, .int (u4)), (5, .int (u5)), (6, .int (u6)), (7, .int (u7))]) hx hb d_T_scan_159 hl rfl rfl (by decide) rfl (fun ls hl => ?_)
                          refine lv_goto (tgt := 60) hx hb d_T_scan_162 (by decide) ?_
                          exact ih _ _ _ _ ls h (lv_sub hl [3, 4, 5, 6, 7, 8, 0] rfl) V
                        · replace h := q_ifn hc h
                          refine lv_aload_n hx hb d_T_scan_153 rfl (lv_at hl 2 rfl) ?_
                          refine lv_aload hx hb d_T_scan_154 (lv_at hl 1 rfl) ?_
                          obtain ⟨s15, h14, h⟩ := q_bind h
                          refine x_cV_v (As := [.ref (ad k6)]) (rest := []) G V hml (c_T_addToResult l D b ad cs N σ k6 s15 h14) 0 0 rfl x_w0 g_T_210 e_T_addToResult ⟨Nat.le_of_ble_eq_true rfl, Nat.le_of_ble_eq_true rfl⟩ ⟨rfl, rfl⟩ ⟨Nat.zero_le _, Nat.zero_le _⟩ rfl hl.1 rfl (Nat.le_of_ble_eq_true rfl) d_T_scan_156 (fun H locs V => ?_)
                          refine lv_iinc (k := 8) (v := v8 + 1) (lv' := [(8, .int (v8 + 1)), (10, .int (1)), (9, .ref (ad k6)), (0, .ref (b 0)), (3, .int (u3)), (4, .int (u4)), (5, .int (u5)), (6, .int (u6)), (7, .int (u7))]) hx hb d_T_scan_159 hl rfl rfl (by decide) rfl (fun ls hl => ?_)
                          refine lv_goto (tgt := 60) hx hb d_T_scan_162 (by decide) ?_
                          exact ih _ _ _ _ ls h (lv_sub hl [3, 4, 5, 6, 7, 8, 0] rfl) V
    replace hl := lv_sub (l' := [(0, .ref (b 0)), (3, .int (a3)), (4, .int (a4)), (5, .int (a5)), (6, .int ((if (a1 : Int32) < (0 : Int32) then (0 : Int32) else (a1 : Int32)))), (7, .int ((if (63 : Int32) < (a2 : Int32) then (63 : Int32) else (a2 : Int32)))), (8, .int (0))]) hl [1, 2, 3, 4, 5, 6, 0] rfl
    refine lp60 _ _ _ _ _ _ ?_ _ _ _ _ _ ls h hl V
    intro t16 H locs ls h hl V
    refine lv_aload_n hx hb d_T_scan_165 rfl (lv_at hl 0 rfl) ?_
    refine x_get (v := .int (x_S t16 11)) G V 0 0 11 x_w0 rfl in_T (by decide) k_T_53 rfl d_T_scan_166 ?_
    exact x_ret_i G hr hlk h V d_T_scan_169
  · replace h := q_ifn hc h
    refine lv_iload_n hx hb d_T_scan_5 rfl (lv_at hl 3 rfl) ?_
    obtain ⟨r18, h17, h⟩ := q_bind h
    refine q_cS_i (As := [.int (a3)]) (rest := []) hx hb hown hts hN hml (c_T_isColumn l a3 r18 h17) g_T_74 e_T_isColumn ⟨Nat.le_of_ble_eq_true rfl, Nat.le_of_ble_eq_true rfl⟩ ⟨rfl, rfl⟩ ⟨Nat.zero_le _, Nat.zero_le _⟩ rfl hl.1 rfl (Nat.le_of_ble_eq_true rfl) d_T_scan_6 ?_
    refine lv_if_ne (tgt := 14) hx hb d_T_scan_9 (by decide) (fun hc => ?_) (fun hc => ?_)
    · replace h := q_ifn hc h
      refine lv_iload_n hx hb d_T_scan_14 rfl (lv_at hl 1 rfl) ?_
      refine lv_iconst (v := 0) hx hb d_T_scan_15 (by decide) ?_
      refine va_mmax hx hb (hml.trans hl.1.symm) hown (hts _ k_T_194) (hts _ k_st_max) (hts _ k_in_Math) (hts _ k_co_max) (Nat.le_of_ble_eq_true rfl) (Nat.le_of_ble_eq_true rfl) (Nat.zero_le _) (Nat.zero_le _) d_T_scan_16 ?_
      refine lv_istore (lv' := [(6, .int ((if (a1 : Int32) < (0 : Int32) then (0 : Int32) else (a1 : Int32)))), (0, .ref (b 0)), (1, .int (a1)), (2, .int (a2)), (3, .int (a3)), (4, .int (a4)), (5, .int (a5))]) hx hb d_T_scan_19 hl (by decide) rfl (fun ls hl => ?_)
      refine lv_iload_n hx hb d_T_scan_21 rfl (lv_at hl 3 rfl) ?_
      refine lv_bipush (v := 63) hx hb d_T_scan_22 (by decide) ?_
      refine va_mmin hx hb (hml.trans hl.1.symm) hown (hts _ k_T_199) (hts _ k_st_min) (hts _ k_in_Math) (hts _ k_co_min) (Nat.le_of_ble_eq_true rfl) (Nat.le_of_ble_eq_true rfl) (Nat.zero_le _) (Nat.zero_le _) d_T_scan_24 ?_
      refine lv_istore (lv' := [(7, .int ((if (63 : Int32) < (a2 : Int32) then (63 : Int32) else (a2 : Int32)))), (6, .int ((if (a1 : Int32) < (0 : Int32) then (0 : Int32) else (a1 : Int32)))), (0, .ref (b 0)), (1, .int (a1)), (2, .int (a2)), (3, .int (a3)), (4, .int (a4)), (5, .int (a5))]) hx hb d_T_scan_27 hl (by decide) rfl (fun ls hl => ?_)
      refine lv_iload hx hb d_T_scan_29 (lv_at hl 1 rfl) ?_
      refine lv_istore (lv' := [(8, .int ((if (a1 : Int32) < (0 : Int32) then (0 : Int32) else (a1 : Int32)))), (7, .int ((if (63 : Int32) < (a2 : Int32) then (63 : Int32) else (a2 : Int32)))), (6, .int ((if (a1 : Int32) < (0 : Int32) then (0 : Int32) else (a1 : Int32)))), (0, .ref (b 0)), (1, .int (a1)), (2, .int (a2)), (3, .int (a3)), (4, .int (a4)), (5, .int (a5))]) hx hb d_T_scan_31 hl (by decide) rfl (fun ls hl => ?_)
      have lp33 : ∀ (u3 : Int32) (u4 : Int32) (u5 : Int32) (u6 : Int32) (u7 : Int32) (K : x_T → Option (Int32 × x_T)) (_ : ∀ (σ : x_T) (H : Heap) (locs : List Loc) (ls : Array Slot), K σ = some (r, σ') → lv_has ls 11 [(0, .ref (b 0)), (3, .int (u3)), (4, .int (u4)), (5, .int (u5)), (6, .int (u6)), (7, .int (u7))] → x_V D b ad cs σ A s.heap H locs → W p l e { frames := 3, cells := 0, slots := 0, locals := 71 } s m args below meth c H locs 0 0 (x_Qi below args s D b ad cs A r σ') (F0 m 52 ls [])) (n : Nat) (v8 : Int32) (σ : x_T) (H : Heap) (locs : List Loc) (ls : Array Slot), f_T_scan_L33 N u3 u4 u5 u6 u7 K n v8 σ = some (r, σ') → lv_has ls 11 [(0, .ref (b 0)), (3, .int (u3)), (4, .int (u4)), (5, .int (u5)), (6, .int (u6)), (7, .int (u7)), (8, .int (v8))] → x_V D b ad cs σ A s.heap H locs → W p l e { frames := 3, cells := 0, slots := 0, locals := 71 } s m args below meth c H locs 0 0 (x_Qi below args s D b ad cs A r σ') (F0 m 33 ls []) := by
        intro u3 u4 u5 u6 u7 K hK n
        induction n with
        | zero => intro v8 σ H locs ls h hl V; cases h
        | succ n ih =>
          intro v8 σ H locs ls h hl V
          rw [f_T_scan_L33] at h
          refine lv_iload hx hb d_T_scan_33 (lv_at hl 6 rfl) ?_
          refine lv_iload hx hb d_T_scan_35 (lv_at hl 5 rfl) ?_
          refine lv_icmp_gt (tgt := 52) hx hb d_T_scan_37 (by decide) (fun hc => ?_) (fun hc => ?_)
          · replace h := q_ifp hc h
            exact hK _ _ _ ls h (lv_sub hl [0, 1, 2, 3, 4, 5] rfl) V
          · replace h := q_ifn hc h
            refine lv_aload_n hx hb d_T_scan_40 rfl (lv_at hl 0 rfl) ?_
            refine lv_iload hx hb d_T_scan_41 (lv_at hl 6 rfl) ?_
            obtain ⟨s20, h19, h⟩ := q_bind h
            refine x_cV_v (As := [.int (v8)]) (rest := []) G V hml (c_T_lookFor l D b ad cs N σ v8 s20 h19) 0 0 rfl x_w0 g_T_187 e_T_lookFor ⟨Nat.le_of_ble_eq_true rfl, Nat.le_of_ble_eq_true rfl⟩ ⟨rfl, rfl⟩ ⟨Nat.zero_le _, Nat.zero_le _⟩ rfl hl.1 rfl (Nat.le_of_ble_eq_true rfl) d_T_scan_43 (fun H locs V => ?_)
            refine lv_iinc (k := 6) (v := v8 + 1) (lv' := [(8, .int (v8 + 1)), (0, .ref (b 0)), (3, .int (u3)), (4, .int (u4)), (5, .int (u5)), (6, .int (u6)), (7, .int (u7))]) hx hb d_T_scan_46 hl rfl rfl (by decide) rfl (fun ls hl => ?_)
            refine lv_goto (tgt := 33) hx hb d_T_scan_49 (by decide) ?_
            exact ih _ _ _ _ ls h (lv_sub hl [1, 2, 3, 4, 5, 6, 0] rfl) V
      replace hl := lv_sub (l' := [(0, .ref (b 0)), (3, .int (a3)), (4, .int (a4)), (5, .int (a5)), (6, .int ((if (a1 : Int32) < (0 : Int32) then (0 : Int32) else (a1 : Int32)))), (7, .int ((if (63 : Int32) < (a2 : Int32) then (63 : Int32) else (a2 : Int32)))), (8, .int ((if (a1 : Int32) < (0 : Int32) then (0 : Int32) else (a1 : Int32))))]) hl [3, 6, 7, 8, 2, 1, 0] rfl
      refine lp33 _ _ _ _ _ _ ?_ _ _ _ _ _ ls h hl V
      intro t21 H locs ls h hl V
      refine lv_aload_n hx hb d_T_scan_52 rfl (lv_at hl 0 rfl) ?_
      refine lv_iconst (v := 0) hx hb d_T_scan_53 (by decide) ?_
      obtain ⟨s22, e22, h⟩ := q_let_h h
      refine x_put (σ' := s22) (ty := .int) G V 0 0 11 x_w0 rfl in_T tt_T_ok n_T (by decide) k_T_53 rfl rfl rfl rfl (Nat.le_of_ble_eq_true rfl) (x_uT11.trans (congrArg (x_W b ad cs) e22.symm)) d_T_scan_54 (fun H locs V => ?_)
      refine lv_iconst (v := 0) hx hb d_T_scan_57 (by decide) ?_
      refine lv_istore (lv' := [(8, .int (0)), (0, .ref (b 0)), (3, .int (a3)), (4, .int (a4)), (5, .int (a5)), (6, .int ((if (a1 : Int32) < (0 : Int32) then (0 : Int32) else (a1 : Int32)))), (7, .int ((if (63 : Int32) < (a2 : Int32) then (63 : Int32) else (a2 : Int32))))]) hx hb d_T_scan_58 hl (by decide) rfl (fun ls hl => ?_)
      have lp60 : ∀ (u3 : Int32) (u4 : Int32) (u5 : Int32) (u6 : Int32) (u7 : Int32) (K : x_T → Option (Int32 × x_T)) (_ : ∀ (σ : x_T) (H : Heap) (locs : List Loc) (ls : Array Slot), K σ = some (r, σ') → lv_has ls 11 [(0, .ref (b 0))] → x_V D b ad cs σ A s.heap H locs → W p l e { frames := 3, cells := 0, slots := 0, locals := 71 } s m args below meth c H locs 0 0 (x_Qi below args s D b ad cs A r σ') (F0 m 165 ls [])) (n : Nat) (v8 : Int32) (σ : x_T) (H : Heap) (locs : List Loc) (ls : Array Slot), f_T_scan_L60 N u3 u4 u5 u6 u7 K n v8 σ = some (r, σ') → lv_has ls 11 [(0, .ref (b 0)), (3, .int (u3)), (4, .int (u4)), (5, .int (u5)), (6, .int (u6)), (7, .int (u7)), (8, .int (v8))] → x_V D b ad cs σ A s.heap H locs → W p l e { frames := 3, cells := 0, slots := 0, locals := 71 } s m args below meth c H locs 0 0 (x_Qi below args s D b ad cs A r σ') (F0 m 60 ls []) := by
        intro u3 u4 u5 u6 u7 K hK n
        induction n with
        | zero => intro v8 σ H locs ls h hl V; cases h
        | succ n ih =>
          intro v8 σ H locs ls h hl V
          rw [f_T_scan_L60] at h
          refine lv_iload hx hb d_T_scan_60 (lv_at hl 6 rfl) ?_
          refine lv_aload_n hx hb d_T_scan_62 rfl (lv_at hl 0 rfl) ?_
          refine x_get (v := .int (x_S σ 4)) G V 0 0 4 x_w0 rfl in_T (by decide) k_T_26 rfl d_T_scan_63 ?_
          refine lv_icmp_ge (tgt := 165) hx hb d_T_scan_66 (by decide) (fun hc => ?_) (fun hc => ?_)
          · replace h := q_ifp hc h
            exact hK _ _ _ ls h (lv_sub hl [0] rfl) V
          · replace h := q_ifn hc h
            refine lv_aload_n hx hb d_T_scan_69 rfl (lv_at hl 0 rfl) ?_
            refine x_get (v := .ref (b 3)) G V 0 0 3 x_w0 rfl in_T (by decide) k_T_22 rfl d_T_scan_70 ?_
            refine lv_iload hx hb d_T_scan_73 (lv_at hl 6 rfl) ?_
            obtain ⟨g23, h⟩ := q_gd_h h
            refine x_aald G V g23 d_T_scan_75 (fun hE => ?_) (fun k24 hE => ?_)
            · replace h := q_omn hE h
              cases h
            · replace h := q_oms hE h
              refine lv_astore (lv' := [(9, .ref (ad k24)), (0, .ref (b 0)), (3, .int (u3)), (4, .int (u4)), (5, .int (u5)), (6, .int (u6)), (7, .int (u7)), (8, .int (v8))]) hx hb d_T_scan_76 hl (by decide) rfl (fun ls hl => ?_)
              refine lv_aload hx hb d_T_scan_78 (lv_at hl 0 rfl) ?_
              obtain ⟨b25, h⟩ := q_gd_h h
              replace b25 := q_lt_h b25
              refine x_getN (v := .int (x_P σ k24 0)) G V (15 + k24) 1 0 (x_wE b25) rfl in_E (by decide) k_T_202 rfl d_T_scan_80 ?_
              refine lv_iload hx hb d_T_scan_83 (lv_at hl 5 rfl) ?_
              refine lv_icmp_lt (tgt := 122) hx hb d_T_scan_85 (by decide) (fun hc => ?_) (fun hc => ?_)
              · replace h := q_ifp hc h
                refine lv_iconst (v := 0) hx hb d_T_scan_122 (by decide) ?_
                refine lv_istore (lv' := [(10, .int (0)), (9, .ref (ad k24)), (0, .ref (b 0)), (3, .int (u3)), (4, .int (u4)), (5, .int (u5)), (6, .int (u6)), (7, .int (u7)), (8, .int (v8))]) hx hb d_T_scan_123 hl (by decide) rfl (fun ls hl => ?_)
                refine lv_iload hx hb d_T_scan_125 (lv_at hl 0 rfl) ?_
                refine lv_if_eq (tgt := 159) hx hb d_T_scan_127 (by decide) (fun _ => ?_) (fun hc => absurd (by decide) hc)
                refine lv_iinc (k := 8) (v := v8 + 1) (lv' := [(8, .int (v8 + 1)), (10, .int (0)), (9, .ref (ad k24)), (0, .ref (b 0)), (3, .int (u3)), (4, .int (u4)), (5, .int (u5)), (6, .int (u6)), (7, .int (u7))]) hx hb d_T_scan_159 hl rfl rfl (by decide) rfl (fun ls hl => ?_)
                refine lv_goto (tgt := 60) hx hb d_T_scan_162 (by decide) ?_
                exact ih _ _ _ _ ls h (lv_sub hl [3, 4, 5, 6, 7, 8, 0] rfl) V
              · replace h := q_ifn hc h
                refine lv_aload hx hb d_T_scan_88 (lv_at hl 0 rfl) ?_
                refine x_getN (v := .int (x_P σ k24 0)) G V (15 + k24) 1 0 (x_wE b25) rfl in_E (by decide) k_T_202 rfl d_T_scan_90 ?_
                refine lv_iload hx hb d_T_scan_93 (lv_at hl 6 rfl) ?_
                refine lv_icmp_gt (tgt := 122) hx hb d_T_scan_95 (by decide) (fun hc => ?_) (fun hc => ?_)
                · replace h := q_ifp hc h
                  refine lv_iconst (v := 0) hx hb d_T_scan_122 (by decide) ?_
                  refine lv_istore (lv' := [(10, .int (0)), (9, .ref (ad k24)), (0, .ref (b 0)), (3, .int (u3)), (4, .int (u4)), (5, .int (u5)), (6, .int (u6)), (7, .int (u7)), (8, .int (v8))]) hx hb d_T_scan_123 hl (by decide) rfl (fun ls hl => ?_)
                  refine lv_iload hx hb d_T_scan_125 (lv_at hl 0 rfl) ?_
                  refine lv_if_eq (tgt := 159) hx hb d_T_scan_127 (by decide) (fun _ => ?_) (fun hc => absurd (by decide) hc)
                  refine lv_iinc (k := 8) (v := v8 + 1) (lv' := [(8, .int (v8 + 1)), (10, .int (0)), (9, .ref (ad k24)), (0, .ref (b 0)), (3, .int (u3)), (4, .int (u4)), (5, .int (u5)), (6, .int (u6)), (7, .int (u7))]) hx hb d_T_scan_159 hl rfl rfl (by decide) rfl (fun ls hl => ?_)
                  refine lv_goto (tgt := 60) hx hb d_T_scan_162 (by decide) ?_
                  exact ih _ _ _ _ ls h (lv_sub hl [3, 4, 5, 6, 7, 8, 0] rfl) V
                · replace h := q_ifn hc h
                  refine lv_aload hx hb d_T_scan_98 (lv_at hl 0 rfl) ?_
                  refine x_getN (v := .int (x_P σ k24 3)) G V (15 + k24) 1 3 (x_wE b25) rfl in_E (by decide) k_T_182 rfl d_T_scan_100 ?_
                  refine lv_iload hx hb d_T_scan_103 (lv_at hl 3 rfl) ?_
                  refine lv_icmp_lt (tgt := 122) hx hb d_T_scan_105 (by decide) (fun hc => ?_) (fun hc => ?_)
                  · replace h := q_ifp hc h
                    refine lv_iconst (v := 0) hx hb d_T_scan_122 (by decide) ?_
                    refine lv_istore (lv' := [(10, .int (0)), (9, .ref (ad k24)), (0, .ref (b 0)), (3, .int (u3)), (4, .int (u4)), (5, .int (u5)), (6, .int (u6)), (7, .int (u7)), (8, .int (v8))]) hx hb d_T_scan_123 hl (by decide) rfl (fun ls hl => ?_)
                    refine lv_iload hx hb d_T_scan_125 (lv_at hl 0 rfl) ?_
                    refine lv_if_eq (tgt := 159) hx hb d_T_scan_127 (by decide) (fun _ => ?_) (fun hc => absurd (by decide) hc)
                    refine lv_iinc (k := 8) (v := v8 + 1) (lv' := [(8, .int (v8 + 1)), (10, .int (0)), (9, .ref (ad k24)), (0, .ref (b 0)), (3, .int (u3)), (4, .int (u4)), (5, .int (u5)), (6, .int (u6)), (7, .int (u7))]) hx hb d_T_scan_159 hl rfl rfl (by decide) rfl (fun ls hl => ?_)
                    refine lv_goto (tgt := 60) hx hb d_T_scan_162 (by decide) ?_
                    exact ih _ _ _ _ ls h (lv_sub hl [3, 4, 5, 6, 7, 8, 0] rfl) V
                  · replace h := q_ifn hc h
                    refine lv_aload hx hb d_T_scan_108 (lv_at hl 0 rfl) ?_
                    refine x_getN (v := .int (x_P σ k24 3)) G V (15 + k24) 1 3 (x_wE b25) rfl in_E (by decide) k_T_182 rfl d_T_scan_110 ?_
                    refine lv_iload hx hb d_T_scan_113 (lv_at hl 4 rfl) ?_
                    refine lv_icmp_gt (tgt := 122) hx hb d_T_scan_115 (by decide) (fun hc => ?_) (fun hc => ?_)
                    · replace h := q_ifp hc h
                      refine lv_iconst (v := 0) hx hb d_T_scan_122 (by decide) ?_
                      refine lv_istore (lv' := [(10, .int (0)), (9, .ref (ad k24)), (0, .ref (b 0)), (3, .int (u3)), (4, .int (u4)), (5, .int (u5)), (6, .int (u6)), (7, .int (u7)), (8, .int (v8))]) hx hb d_T_scan_123 hl (by decide) rfl (fun ls hl => ?_)
                      refine lv_iload hx hb d_T_scan_125 (lv_at hl 0 rfl) ?_
                      refine lv_if_eq (tgt := 159) hx hb d_T_scan_127 (by decide) (fun _ => ?_) (fun hc => absurd (by decide) hc)
                      refine lv_iinc (k := 8) (v := v8 + 1) (lv' := [(8, .int (v8 + 1)), (10, .int (0)), (9, .ref (ad k24)), (0, .ref (b 0)), (3, .int (u3)), (4, .int (u4)), (5, .int (u5)), (6, .int (u6)), (7, .int (u7))]) hx hb d_T_scan_159 hl rfl rfl (by decide) rfl (fun ls hl => ?_)
                      refine lv_goto (tgt := 60) hx hb d_T_scan_162 (by decide) ?_
                      exact ih _ _ _ _ ls h (lv_sub hl [3, 4, 5, 6, 7, 8, 0] rfl) V
                    · replace h := q_ifn hc h
                      refine lv_iconst (v := 1) hx hb d_T_scan_118 (by decide) ?_
                      refine lv_goto (tgt := 123) hx hb d_T_scan_119 (by decide) ?_
                      refine lv_istore (lv' := [(10, .int (1)), (9, .ref (ad k24)), (0, .ref (b 0)), (3, .int (u3)), (4, .int (u4)), (5, .int (u5)), (6, .int (u6)), (7, .int (u7)), (8, .int (v8))]) hx hb d_T_scan_123 hl (by decide) rfl (fun ls hl => ?_)
                      refine lv_iload hx hb d_T_scan_125 (lv_at hl 0 rfl) ?_
                      refine lv_if_eq (tgt := 159) hx hb d_T_scan_127 (by decide) (fun hc => absurd hc (by decide)) (fun _ => ?_)
                      refine lv_iload_n hx hb d_T_scan_130 rfl (lv_at hl 3 rfl) ?_
                      refine lv_iconst (v := (-1)) hx hb d_T_scan_131 (by decide) ?_
                      refine lv_icmp_eq (tgt := 144) hx hb d_T_scan_132 (by decide) (fun hc => ?_) (fun hc => ?_)
                      · replace h := q_ifp hc h
                        refine lv_aload_n hx hb d_T_scan_144 rfl (lv_at hl 2 rfl) ?_
                        refine lv_aload hx hb d_T_scan_145 (lv_at hl 1 rfl) ?_
                        obtain ⟨r27, h26, h⟩ := q_bind h
                        refine x_cV_i (As := [.ref (ad k24)]) (rest := []) G V hml (c_T_isLive l D b ad cs N σ k24 r27 h26) 0 0 rfl x_w0 g_T_206 e_T_isLive ⟨Nat.le_of_ble_eq_true rfl, Nat.le_of_ble_eq_true rfl⟩ ⟨rfl, rfl⟩ ⟨Nat.zero_le _, Nat.zero_le _⟩ rfl hl.1 rfl (Nat.le_of_ble_eq_true rfl) d_T_scan_147 (fun H locs V => ?_)
                        refine lv_if_eq (tgt := 159) hx hb d_T_scan_150 (by decide) (fun hc => ?_) (fun hc => ?_)
                        · replace h := q_ifp hc h
                          refine lv_iinc (k := 8) (v := v8 + 1) (lv' := [(8, .int (v8 + 1)), (10, .int (1)), (9, .ref (ad k24)), (0, .ref (b 0)), (3, .int (u3)), (4, .int (u4)), (5, .int (u5)), (6, .int (u6)), (7, .int (u7))]) hx hb d_T_scan_159 hl rfl rfl (by decide) rfl (fun ls hl => ?_)
                          refine lv_goto (tgt := 60) hx hb d_T_scan_162 (by decide) ?_
                          exact ih _ _ _ _ ls h (lv_sub hl [3, 4, 5, 6, 7, 8, 0] rfl) V
                        · replace h := q_ifn hc h
                          refine lv_aload_n hx hb d_T_scan_153 rfl (lv_at hl 2 rfl) ?_
                          refine lv_aload hx hb d_T_scan_154 (lv_at hl 1 rfl) ?_
                          obtain ⟨s29, h28, h⟩ := q_bind h
                          refine x_cV_v (As := [.ref (ad k24)]) (rest := []) G V hml (c_T_addToResult l D b ad cs N σ k24 s29 h28) 0 0 rfl x_w0 g_T_210 e_T_addToResult ⟨Nat.le_of_ble_eq_true rfl, Nat.le_of_ble_eq_true rfl⟩ ⟨rfl, rfl⟩ ⟨Nat.zero_le _, Nat.zero_le _⟩ rfl hl.1 rfl (Nat.le_of_ble_eq_true rfl) d_T_scan_156 (fun H locs V => ?_)
                          refine lv_iinc (k := 8) (v := v8 + 1) (lv' := [(8, .int (v8 + 1)), (10, .int (1)), (9, .ref (ad k24)), (0, .ref (b 0)), (3, .int (u3)), (4, .int (u4)), (5, .int (u5)), (6, .int (u6)), (7, .int (u7))]) hx hb d_T_scan_159 hl rfl rfl (by decide) rfl (fun ls hl => ?_)
                          refine lv_goto (tgt := 60) hx hb d_T_scan_162 (by decide) ?_
                          exact ih _ _ _ _ ls h (lv_sub hl [3, 4, 5, 6, 7, 8, 0] rfl) V
                      · replace h := q_ifn hc h
                        refine lv_aload hx hb d_T_scan_135 (lv_at hl 1 rfl) ?_
                        refine x_getN (v := .int (x_P σ k24 1)) G V (15 + k24) 1 1 (x_wE b25) rfl in_E (by decide) k_T_203 rfl d_T_scan_137 ?_
                        refine lv_iload_n hx hb d_T_scan_140 rfl (lv_at hl 3 rfl) ?_
                        refine lv_icmp_ne (tgt := 159) hx hb d_T_scan_141 (by decide) (fun hc => ?_) (fun hc => ?_)
                        · replace h := q_ifn hc h
                          refine lv_iinc (k := 8) (v := v8 + 1) (lv' := [(8, .int (v8 + 1)), (10, .int (1)), (9, .ref (ad k24)), (0, .ref (b 0)), (3, .int (u3)), (4, .int (u4)), (5, .int (u5)), (6, .int (u6)), (7, .int (u7))]) hx hb d_T_scan_159 hl rfl rfl (by decide) rfl (fun ls hl => ?_)
                          refine lv_goto (tgt := 60) hx hb d_T_scan_162 (by decide) ?_
                          exact ih _ _ _ _ ls h (lv_sub hl [3, 4, 5, 6, 7, 8, 0] rfl) V
                        · replace h := q_ifp hc h
                          refine lv_aload_n hx hb d_T_scan_144 rfl (lv_at hl 2 rfl) ?_
                          refine lv_aload hx hb d_T_scan_145 (lv_at hl 1 rfl) ?_
                          obtain ⟨r31, h30, h⟩ := q_bind h
                          refine x_cV_i (As := [.ref (ad k24)]) (rest := []) G V hml (c_T_isLive l D b ad cs N σ k24 r31 h30) 0 0 rfl x_w0 g_T_206 e_T_isLive ⟨Nat.le_of_ble_eq_true rfl, Nat.le_of_ble_eq_true rfl⟩ ⟨rfl, rfl⟩ ⟨Nat.zero_le _, Nat.zero_le _⟩ rfl hl.1 rfl (Nat.le_of_ble_eq_true rfl) d_T_scan_147 (fun H locs V => ?_)
                          refine lv_if_eq (tgt := 159) hx hb d_T_scan_150 (by decide) (fun hc => ?_) (fun hc => ?_)
                          · replace h := q_ifp hc h
                            refine lv_iinc (k := 8) (v := v8 + 1) (lv' := [(8, .int (v8 + 1)), (10, .int (1)), (9, .ref (ad k24)), (0, .ref (b 0)), (3, .int (u3)), (4, .int (u4)), (5, .int (u5)), (6, .int (u6)), (7, .int (u7))]) hx hb d_T_scan_159 hl rfl rfl (by decide) rfl (fun ls hl => ?_)
                            refine lv_goto (tgt := 60) hx hb d_T_scan_162 (by decide) ?_
                            exact ih _ _ _ _ ls h (lv_sub hl [3, 4, 5, 6, 7, 8, 0] rfl) V
                          · replace h := q_ifn hc h
                            refine lv_aload_n hx hb d_T_scan_153 rfl (lv_at hl 2 rfl) ?_
                            refine lv_aload hx hb d_T_scan_154 (lv_at hl 1 rfl) ?_
                            obtain ⟨s33, h32, h⟩ := q_bind h
                            refine x_cV_v (As := [.ref (ad k24)]) (rest := []) G V hml (c_T_addToResult l D b ad cs N σ k24 s33 h32) 0 0 rfl x_w0 g_T_210 e_T_addToResult ⟨Nat.le_of_ble_eq_true rfl, Nat.le_of_ble_eq_true rfl⟩ ⟨rfl, rfl⟩ ⟨Nat.zero_le _, Nat.zero_le _⟩ rfl hl.1 rfl (Nat.le_of_ble_eq_true rfl) d_T_scan_156 (fun H locs V => ?_)
                            refine lv_iinc (k := 8) (v := v8 + 1) (lv' := [(8, .int (v8 + 1)), (10, .int (1)), (9, .ref (ad k24)), (0, .ref (b 0)), (3, .int (u3)), (4, .int (u4)), (5, .int (u5)), (6, .int (u6)), (7, .int (u7))]) hx hb d_T_scan_159 hl rfl rfl (by decide) rfl (fun ls hl => ?_)
                            refine lv_goto (tgt := 60) hx hb d_T_scan_162 (by decide) ?_
                            exact ih _ _ _ _ ls h (lv_sub hl [3, 4, 5, 6, 7, 8, 0] rfl) V
      replace hl := lv_sub (l' := [(0, .ref (b 0)), (3, .int (a3)), (4, .int (a4)), (5, .int (a5)), (6, .int ((if (a1 : Int32) < (0 : Int32) then (0 : Int32) else (a1 : Int32)))), (7, .int ((if (63 : Int32) < (a2 : Int32) then (63 : Int32) else (a2 : Int32)))), (8, .int (0))]) hl [1, 2, 3, 4, 5, 6, 0] rfl
      refine lp60 _ _ _ _ _ _ ?_ _ _ _ _ _ ls h hl V
      intro t34 H locs ls h hl V
      refine lv_aload_n hx hb d_T_scan_165 rfl (lv_at hl 0 rfl) ?_
      refine x_get (v := .int (x_S t34 11)) G V 0 0 11 x_w0 rfl in_T (by decide) k_T_53 rfl d_T_scan_166 ?_
      exact x_ret_i G hr hlk h V d_T_scan_169
    · replace h := q_ifp hc h
      refine lv_iconst (v := (-1)) hx hb d_T_scan_12 (by decide) ?_
      exact x_ret_i G hr hlk h V d_T_scan_13

set_option maxHeartbeats 40000000 in
set_option maxRecDepth 100000 in
theorem c_T_found (l : Launch) (D : va_G) (b ad : Nat → Nat) (cs : Nat → ClassId) (N : Nat) (σ : x_T) (a1 : Int32) (r : Int64) (h : f_T_found N σ a1 = some r) : x_Cl l y_T_found b_T_found 2 (some .long) { frames := 0, cells := 0, slots := 0, locals := 0 } D b ad cs σ [.ref (b 0), .int (a1)] r σ := by
  refine x_met_l (own := R_T) (by decide) rfl (Nat.le_of_ble_eq_true rfl) ?_
  intro p e s m args below meth c A G hr hlk hml ls hl V
  have hx := G.1
  have hb := G.2.1
  have hown := G.2.2.1
  have hts := G.2.2.2.1
  have hN := G.2.2.2.2.2
  have hl : lv_has ls 2 [(0, .ref (b 0)), (1, .int (a1))] := hl
  unfold f_T_found at h
  refine lv_iload_n hx hb d_T_found_0 rfl (lv_at hl 1 rfl) ?_
  refine lv_if_lt (tgt := 21) hx hb d_T_found_1 (by decide) (fun hc => ?_) (fun hc => ?_)
  · replace h := q_ifp hc h
    refine lv_ldc2 (v := -1) hx hb hown (hts _ k_T_185) d_T_found_21 ?_
    exact x_pret_l G hr hlk h rfl V d_T_found_24
  · replace h := q_ifn hc h
    refine lv_iload_n hx hb d_T_found_4 rfl (lv_at hl 1 rfl) ?_
    refine lv_aload_n hx hb d_T_found_5 rfl (lv_at hl 0 rfl) ?_
    refine x_get (v := .int (x_S σ 11)) G V 0 0 11 x_w0 rfl in_T (by decide) k_T_53 rfl d_T_found_6 ?_
    refine lv_icmp_ge (tgt := 21) hx hb d_T_found_9 (by decide) (fun hc => ?_) (fun hc => ?_)
    · replace h := q_ifp hc h
      refine lv_ldc2 (v := -1) hx hb hown (hts _ k_T_185) d_T_found_21 ?_
      exact x_pret_l G hr hlk h rfl V d_T_found_24
    · replace h := q_ifn hc h
      refine lv_aload_n hx hb d_T_found_12 rfl (lv_at hl 0 rfl) ?_
      refine x_get (v := .ref (b 10)) G V 0 0 10 x_w0 rfl in_T (by decide) k_T_49 rfl d_T_found_13 ?_
      refine lv_iload_n hx hb d_T_found_16 rfl (lv_at hl 1 rfl) ?_
      obtain ⟨g1, h⟩ := q_gd_h h
      refine x_lald G V 10 x_w10 g1 d_T_found_17 ?_
      refine lv_goto (tgt := 24) hx hb d_T_found_18 (by decide) ?_
      exact x_pret_l G hr hlk h rfl V d_T_found_24

set_option maxHeartbeats 40000000 in
set_option maxRecDepth 100000 in
theorem c_T_looked (l : Launch) (D : va_G) (b ad : Nat → Nat) (cs : Nat → ClassId) (N : Nat) (σ : x_T) (r : Int32) (h : f_T_looked N σ = some r) : x_Ci l y_T_looked b_T_looked 1 (some .int) { frames := 0, cells := 0, slots := 0, locals := 0 } D b ad cs σ [.ref (b 0)] r σ := by
  refine x_met_i (own := R_T) (by decide) rfl (Nat.le_of_ble_eq_true rfl) ?_
  intro p e s m args below meth c A G hr hlk hml ls hl V
  have hx := G.1
  have hb := G.2.1
  have hown := G.2.2.1
  have hts := G.2.2.2.1
  have hN := G.2.2.2.2.2
  have hl : lv_has ls 1 [(0, .ref (b 0))] := hl
  unfold f_T_looked at h
  refine lv_aload_n hx hb d_T_looked_0 rfl (lv_at hl 0 rfl) ?_
  refine x_get (v := .int (x_S σ 13)) G V 0 0 13 x_w0 rfl in_T (by decide) k_T_63 rfl d_T_looked_1 ?_
  exact x_pret_i G hr hlk h rfl V d_T_looked_4

set_option maxHeartbeats 40000000 in
set_option maxRecDepth 100000 in
theorem c_T_isTablet (l : Launch) (D : va_G) (b ad : Nat → Nat) (cs : Nat → ClassId) (N : Nat) (σ : x_T) (a1 : Int32) (r : Int32) (h : f_T_isTablet N σ a1 = some r) : x_Ci l y_T_isTablet b_T_isTablet 2 (some .boolean) { frames := 0, cells := 0, slots := 0, locals := 0 } D b ad cs σ [.ref (b 0), .int (a1)] r σ := by
  refine x_met_i (own := R_T) (by decide) rfl (Nat.le_of_ble_eq_true rfl) ?_
  intro p e s m args below meth c A G hr hlk hml ls hl V
  have hx := G.1
  have hb := G.2.1
  have hown := G.2.2.1
  have hts := G.2.2.2.1
  have hN := G.2.2.2.2.2
  have hl : lv_has ls 2 [(0, .ref (b 0)), (1, .int (a1))] := hl
  unfold f_T_isTablet at h
  refine lv_iload_n hx hb d_T_isTablet_0 rfl (lv_at hl 1 rfl) ?_
  refine lv_if_lt (tgt := 16) hx hb d_T_isTablet_1 (by decide) (fun hc => ?_) (fun hc => ?_)
  · replace h := q_ifp hc h
    refine lv_iconst (v := 0) hx hb d_T_isTablet_16 (by decide) ?_
    exact x_zpret_i G hr hlk rfl h rfl V d_T_isTablet_17
  · replace h := q_ifn hc h
    refine lv_iload_n hx hb d_T_isTablet_4 rfl (lv_at hl 1 rfl) ?_
    refine lv_aload_n hx hb d_T_isTablet_5 rfl (lv_at hl 0 rfl) ?_
    refine x_get (v := .int (x_S σ 7)) G V 0 0 7 x_w0 rfl in_T (by decide) k_T_35 rfl d_T_isTablet_6 ?_
    refine lv_icmp_ge (tgt := 16) hx hb d_T_isTablet_9 (by decide) (fun hc => ?_) (fun hc => ?_)
    · replace h := q_ifp hc h
      refine lv_iconst (v := 0) hx hb d_T_isTablet_16 (by decide) ?_
      exact x_zpret_i G hr hlk rfl h rfl V d_T_isTablet_17
    · replace h := q_ifn hc h
      refine lv_iconst (v := 1) hx hb d_T_isTablet_12 (by decide) ?_
      refine lv_goto (tgt := 17) hx hb d_T_isTablet_13 (by decide) ?_
      exact x_zpret_i G hr hlk rfl h rfl V d_T_isTablet_17

set_option maxHeartbeats 40000000 in
set_option maxRecDepth 100000 in
theorem c_T_flush (l : Launch) (D : va_G) (b ad : Nat → Nat) (cs : Nat → ClassId) (N : Nat) (σ : x_T) (a1 : Int32) (r : Int32) (σ' : x_T) (h : f_T_flush N σ a1 = some (r, σ')) : x_Ci l y_T_flush b_T_flush 2 (some .int) { frames := 4, cells := 0, slots := 0, locals := 93 } D b ad cs σ [.ref (b 0), .int (a1)] r σ' := by
  refine x_met_i (own := R_T) (by decide) rfl (Nat.le_of_ble_eq_true rfl) ?_
  intro p e s m args below meth c A G hr hlk hml ls hl V
  have hx := G.1
  have hb := G.2.1
  have hown := G.2.2.1
  have hts := G.2.2.2.1
  have hN := G.2.2.2.2.2
  have hl : lv_has ls 2 [(0, .ref (b 0)), (1, .int (a1))] := hl
  unfold f_T_flush at h
  refine lv_aload_n hx hb d_T_flush_0 rfl (lv_at hl 0 rfl) ?_
  refine lv_iload_n hx hb d_T_flush_1 rfl (lv_at hl 1 rfl) ?_
  obtain ⟨r2, h1, h⟩ := q_bind h
  refine x_cV_i (As := [.int (a1)]) (rest := []) G V hml (c_T_isTablet l D b ad cs N σ a1 r2 h1) 0 0 rfl x_w0 g_T_235 e_T_isTablet ⟨Nat.le_of_ble_eq_true rfl, Nat.le_of_ble_eq_true rfl⟩ ⟨rfl, rfl⟩ ⟨Nat.zero_le _, Nat.zero_le _⟩ rfl hl.1 rfl (Nat.le_of_ble_eq_true rfl) d_T_flush_2 (fun H locs V => ?_)
  refine lv_if_eq (tgt := 16) hx hb d_T_flush_5 (by decide) (fun hc => ?_) (fun hc => ?_)
  · replace h := q_ifp hc h
    refine lv_iconst (v := (-1)) hx hb d_T_flush_16 (by decide) ?_
    exact x_ret_i G hr hlk h V d_T_flush_17
  · replace h := q_ifn hc h
    refine lv_aload_n hx hb d_T_flush_8 rfl (lv_at hl 0 rfl) ?_
    refine lv_iload_n hx hb d_T_flush_9 rfl (lv_at hl 1 rfl) ?_
    obtain ⟨q4, h3, h⟩ := q_bind h
    refine x_cV_i (As := [.int (a1)]) (rest := []) G V hml (c_T_flushTablet l D b ad cs N σ a1 q4.1 q4.2 h3) 0 0 rfl x_w0 g_T_152 e_T_flushTablet ⟨Nat.le_of_ble_eq_true rfl, Nat.le_of_ble_eq_true rfl⟩ ⟨rfl, rfl⟩ ⟨Nat.zero_le _, Nat.zero_le _⟩ rfl hl.1 rfl (Nat.le_of_ble_eq_true rfl) d_T_flush_10 (fun H locs V => ?_)
    refine lv_goto (tgt := 17) hx hb d_T_flush_13 (by decide) ?_
    exact x_ret_i G hr hlk h V d_T_flush_17
