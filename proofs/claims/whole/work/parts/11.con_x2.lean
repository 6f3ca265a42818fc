set_option maxHeartbeats 40000000 in
set_option maxRecDepth 100000 in
theorem c_E_begin (l : Launch) (D : va_G) (b ad : Nat → Nat) (cs : Nat → ClassId) (N : Nat) (σ : x_T) (k0 : Nat) (a1 : Int32) (a2 : Int32) (a3 : Int32) (a4 : Int32) (a5 : Int32) (σ' : x_T) (h : f_E_begin N σ k0 a1 a2 a3 a4 a5 = some σ') : x_Cv l y_E_begin b_E_begin 7 none { frames := 1, cells := 0, slots := 0, locals := 20 } D b ad cs σ [.ref (ad k0), .int (a1), .int (a2), .int (a3), .int (a4), .int (a5)] σ' := by
  refine x_met_v (own := R_E) (by decide) rfl (Nat.le_of_ble_eq_true rfl) ?_
  intro p e s m args below meth c A G hr hlk hml ls hl V
  have hx := G.1
  have hb := G.2.1
  have hown := G.2.2.1
  have hts := G.2.2.2.1
  have hN := G.2.2.2.2.2
  have hl : lv_has ls 7 [(0, .ref (ad k0)), (1, .int (a1)), (2, .int (a2)), (3, .int (a3)), (4, .int (a4)), (5, .int (a5))] := hl
  unfold f_E_begin at h
  refine lv_aload_n hx hb d_E_begin_0 rfl (lv_at hl 0 rfl) ?_
  refine lv_iload_n hx hb d_E_begin_1 rfl (lv_at hl 1 rfl) ?_
  obtain ⟨b1, h⟩ := q_gd_h h
  replace b1 := q_lt_h b1
  obtain ⟨s2, e2, h⟩ := q_let_h h
  refine x_put (σ' := s2) (ty := .int) G V (15 + k0) 1 0 (x_wE b1) rfl in_E tt_E_ok n_E (by decide) k_E_9 rfl rfl rfl rfl (Nat.le_of_ble_eq_true rfl) (x_uE0.trans (congrArg (x_W b ad cs) e2.symm)) d_E_begin_2 (fun H locs V => ?_)
  have b3 : k0 < x_N s2 := by rw [e2]; exact b1
  refine lv_aload_n hx hb d_E_begin_5 rfl (lv_at hl 0 rfl) ?_
  refine lv_iload_n hx hb d_E_begin_6 rfl (lv_at hl 2 rfl) ?_
  obtain ⟨s4, e4, h⟩ := q_let_h h
  refine x_put (σ' := s4) (ty := .int) G V (15 + k0) 1 1 (x_wE b3) rfl in_E tt_E_ok n_E (by decide) k_E_15 rfl rfl rfl rfl (Nat.le_of_ble_eq_true rfl) (x_uE1.trans (congrArg (x_W b ad cs) e4.symm)) d_E_begin_7 (fun H locs V => ?_)
  have b5 : k0 < x_N s4 := by rw [e4]; exact b3
  refine lv_aload_n hx hb d_E_begin_10 rfl (lv_at hl 0 rfl) ?_
  refine lv_iload_n hx hb d_E_begin_11 rfl (lv_at hl 2 rfl) ?_
  obtain ⟨r7, h6, h⟩ := q_bind h
  refine q_cSN_i (As := [.int (a2)]) (rest := [.ref (ad k0)]) hx hb hown hts hN hml (c_T_familyOf l a2 r7 h6) k_co_T_familyOf k_E_18 k_in_T k_st_T_familyOf (e_T_familyOf).2 ⟨Nat.le_of_ble_eq_true rfl, Nat.le_of_ble_eq_true rfl⟩ ⟨rfl, rfl⟩ ⟨Nat.zero_le _, Nat.zero_le _⟩ rfl hl.1 rfl (Nat.le_of_ble_eq_true rfl) d_E_begin_12 ?_
  obtain ⟨s8, e8, h⟩ := q_let_h h
  refine x_put (σ' := s8) (ty := .int) G V (15 + k0) 1 2 (x_wE b5) rfl in_E tt_E_ok n_E (by decide) k_E_22 rfl rfl rfl rfl (Nat.le_of_ble_eq_true rfl) (x_uE2.trans (congrArg (x_W b ad cs) e8.symm)) d_E_begin_15 (fun H locs V => ?_)
  have b9 : k0 < x_N s8 := by rw [e8]; exact b5
  refine lv_aload_n hx hb d_E_begin_18 rfl (lv_at hl 0 rfl) ?_
  refine lv_iload_n hx hb d_E_begin_19 rfl (lv_at hl 3 rfl) ?_
  obtain ⟨s10, e10, h⟩ := q_let_h h
  refine x_put (σ' := s10) (ty := .int) G V (15 + k0) 1 3 (x_wE b9) rfl in_E tt_E_ok n_E (by decide) k_E_25 rfl rfl rfl rfl (Nat.le_of_ble_eq_true rfl) (x_uE3.trans (congrArg (x_W b ad cs) e10.symm)) d_E_begin_20 (fun H locs V => ?_)
  have b11 : k0 < x_N s10 := by rw [e10]; exact b9
  refine lv_aload_n hx hb d_E_begin_23 rfl (lv_at hl 0 rfl) ?_
  refine lv_iload hx hb d_E_begin_24 (lv_at hl 4 rfl) ?_
  obtain ⟨z12, h⟩ := q_gd_h h
  obtain ⟨s13, e13, h⟩ := q_let_h h
  refine x_put (σ' := s13) (ty := .boolean) G V (15 + k0) 1 4 (x_wE b11) rfl in_E tt_E_ok n_E (by decide) k_E_28 rfl rfl (q_bz_n z12) (q_bz_f z12) (Nat.le_of_ble_eq_true rfl) (x_uE4.trans (congrArg (x_W b ad cs) e13.symm)) d_E_begin_26 (fun H locs V => ?_)
  have b14 : k0 < x_N s13 := by rw [e13]; exact b11
  refine lv_aload_n hx hb d_E_begin_29 rfl (lv_at hl 0 rfl) ?_
  refine lv_iconst (v := 0) hx hb d_E_begin_30 (by decide) ?_
  obtain ⟨s15, e15, h⟩ := q_let_h h
  refine x_put (σ' := s15) (ty := .int) G V (15 + k0) 1 5 (x_wE b14) rfl in_E tt_E_ok n_E (by decide) k_E_32 rfl rfl rfl rfl (Nat.le_of_ble_eq_true rfl) (x_uE5.trans (congrArg (x_W b ad cs) e15.symm)) d_E_begin_31 (fun H locs V => ?_)
  have b16 : k0 < x_N s15 := by rw [e15]; exact b14
  refine lv_aload_n hx hb d_E_begin_34 rfl (lv_at hl 0 rfl) ?_
  refine lv_iload hx hb d_E_begin_35 (lv_at hl 5 rfl) ?_
  obtain ⟨s17, e17, h⟩ := q_let_h h
  refine x_put (σ' := s17) (ty := .int) G V (15 + k0) 1 6 (x_wE b16) rfl in_E tt_E_ok n_E (by decide) k_E_35 rfl rfl rfl rfl (Nat.le_of_ble_eq_true rfl) (x_uE6.trans (congrArg (x_W b ad cs) e17.symm)) d_E_begin_37 (fun H locs V => ?_)
  have b18 : k0 < x_N s17 := by rw [e17]; exact b16
  refine lv_iload_n hx hb d_E_begin_40 rfl (lv_at hl 3 rfl) ?_
  refine lv_iconst (v := (-1)) hx hb d_E_begin_41 (by decide) ?_
  refine lv_icmp_ne (tgt := 49) hx hb d_E_begin_42 (by decide) (fun hc => ?_) (fun hc => ?_)
  · replace h := q_ifn hc h
    refine lv_sipush (v := 10000) hx hb d_E_begin_49 (by decide) ?_
    refine lv_iload_n hx hb d_E_begin_52 rfl (lv_at hl 3 rfl) ?_
    refine lv_isub hx hb d_E_begin_53 ?_
    refine lv_istore (lv' := [(6, .int (10000 - a3)), (0, .ref (ad k0)), (1, .int (a1)), (2, .int (a2)), (3, .int (a3)), (4, .int (a4)), (5, .int (a5))]) hx hb d_E_begin_54 hl (by decide) rfl (fun ls hl => ?_)
    refine lv_aload_n hx hb d_E_begin_56 rfl (lv_at hl 1 rfl) ?_
    refine lv_iload_n hx hb d_E_begin_57 rfl (lv_at hl 2 rfl) ?_
    refine lv_bipush (v := 9) hx hb d_E_begin_58 (by decide) ?_
    refine lv_imul hx hb d_E_begin_60 ?_
    refine lv_iload_n hx hb d_E_begin_61 rfl (lv_at hl 3 rfl) ?_
    refine lv_iadd hx hb d_E_begin_62 ?_
    refine lv_iconst (v := 1) hx hb d_E_begin_63 (by decide) ?_
    refine lv_iadd hx hb d_E_begin_64 ?_
    refine lv_sipush (v := 10001) hx hb d_E_begin_65 (by decide) ?_
    refine lv_imul hx hb d_E_begin_68 ?_
    refine lv_iload hx hb d_E_begin_69 (lv_at hl 0 rfl) ?_
    refine lv_iadd hx hb d_E_begin_71 ?_
    obtain ⟨s19, e19, h⟩ := q_let_h h
    refine x_put (σ' := s19) (ty := .int) G V (15 + k0) 1 7 (x_wE b18) rfl in_E tt_E_ok n_E (by decide) k_E_38 rfl rfl rfl rfl (Nat.le_of_ble_eq_true rfl) (x_uE7.trans (congrArg (x_W b ad cs) e19.symm)) d_E_begin_72 (fun H locs V => ?_)
    have b20 : k0 < x_N s19 := by rw [e19]; exact b18
    refine lv_aload_n hx hb d_E_begin_75 rfl (lv_at hl 1 rfl) ?_
    refine lv_iconst (v := (-1)) hx hb d_E_begin_76 (by decide) ?_
    obtain ⟨s21, e21, h⟩ := q_let_h h
    refine x_put (σ' := s21) (ty := .int) G V (15 + k0) 1 8 (x_wE b20) rfl in_E tt_E_ok n_E (by decide) k_E_41 rfl rfl rfl rfl (Nat.le_of_ble_eq_true rfl) (x_uE8.trans (congrArg (x_W b ad cs) e21.symm)) d_E_begin_77 (fun H locs V => ?_)
    have b22 : k0 < x_N s21 := by rw [e21]; exact b20
    refine lv_aload_n hx hb d_E_begin_80 rfl (lv_at hl 1 rfl) ?_
    refine lv_iconst (v := 0) hx hb d_E_begin_81 (by decide) ?_
    obtain ⟨s23, e23, h⟩ := q_let_h h
    refine x_put (σ' := s23) (ty := .boolean) G V (15 + k0) 1 9 (x_wE b22) rfl in_E tt_E_ok n_E (by decide) k_E_44 rfl rfl rfl rfl (Nat.le_of_ble_eq_true rfl) (x_uE9.trans (congrArg (x_W b ad cs) e23.symm)) d_E_begin_82 (fun H locs V => ?_)
    have b24 : k0 < x_N s23 := by rw [e23]; exact b22
    refine lv_aload_n hx hb d_E_begin_85 rfl (lv_at hl 1 rfl) ?_
    refine lv_iconst (v := 0) hx hb d_E_begin_86 (by decide) ?_
    obtain ⟨s25, e25, h⟩ := q_let_h h
    refine x_put (σ' := s25) (ty := .boolean) G V (15 + k0) 1 10 (x_wE b24) rfl in_E tt_E_ok n_E (by decide) k_E_47 rfl rfl rfl rfl (Nat.le_of_ble_eq_true rfl) (x_uE10.trans (congrArg (x_W b ad cs) e25.symm)) d_E_begin_87 (fun H locs V => ?_)
    have b26 : k0 < x_N s25 := by rw [e25]; exact b24
    refine lv_aload_n hx hb d_E_begin_90 rfl (lv_at hl 1 rfl) ?_
    refine lv_iconst (v := 0) hx hb d_E_begin_91 (by decide) ?_
    obtain ⟨s27, e27, h⟩ := q_let_h h
    refine x_put (σ' := s27) (ty := .boolean) G V (15 + k0) 1 11 (x_wE b26) rfl in_E tt_E_ok n_E (by decide) k_E_50 rfl rfl rfl rfl (Nat.le_of_ble_eq_true rfl) (x_uE11.trans (congrArg (x_W b ad cs) e27.symm)) d_E_begin_92 (fun H locs V => ?_)
    have b28 : k0 < x_N s27 := by rw [e27]; exact b26
    exact x_ret_v G hr hlk h V d_E_begin_95
  · replace h := q_ifp hc h
    refine lv_iconst (v := 0) hx hb d_E_begin_45 (by decide) ?_
    refine lv_goto (tgt := 54) hx hb d_E_begin_46 (by decide) ?_
    refine lv_istore (lv' := [(6, .int (0)), (0, .ref (ad k0)), (1, .int (a1)), (2, .int (a2)), (3, .int (a3)), (4, .int (a4)), (5, .int (a5))]) hx hb d_E_begin_54 hl (by decide) rfl (fun ls hl => ?_)
    refine lv_aload_n hx hb d_E_begin_56 rfl (lv_at hl 1 rfl) ?_
    refine lv_iload_n hx hb d_E_begin_57 rfl (lv_at hl 2 rfl) ?_
    refine lv_bipush (v := 9) hx hb d_E_begin_58 (by decide) ?_
    refine lv_imul hx hb d_E_begin_60 ?_
    refine lv_iload_n hx hb d_E_begin_61 rfl (lv_at hl 3 rfl) ?_
    refine lv_iadd hx hb d_E_begin_62 ?_
    refine lv_iconst (v := 1) hx hb d_E_begin_63 (by decide) ?_
    refine lv_iadd hx hb d_E_begin_64 ?_
    refine lv_sipush (v := 10001) hx hb d_E_begin_65 (by decide) ?_
    refine lv_imul hx hb d_E_begin_68 ?_
    refine lv_iload hx hb d_E_begin_69 (lv_at hl 0 rfl) ?_
    refine lv_iadd hx hb d_E_begin_71 ?_
    obtain ⟨s29, e29, h⟩ := q_let_h h
    refine x_put (σ' := s29) (ty := .int) G V (15 + k0) 1 7 (x_wE b18) rfl in_E tt_E_ok n_E (by decide) k_E_38 rfl rfl rfl rfl (Nat.le_of_ble_eq_true rfl) (x_uE7.trans (congrArg (x_W b ad cs) e29.symm)) d_E_begin_72 (fun H locs V => ?_)
    have b30 : k0 < x_N s29 := by rw [e29]; exact b18
    refine lv_aload_n hx hb d_E_begin_75 rfl (lv_at hl 1 rfl) ?_
    refine lv_iconst (v := (-1)) hx hb d_E_begin_76 (by decide) ?_
    obtain ⟨s31, e31, h⟩ := q_let_h h
    refine x_put (σ' := s31) (ty := .int) G V (15 + k0) 1 8 (x_wE b30) rfl in_E tt_E_ok n_E (by decide) k_E_41 rfl rfl rfl rfl (Nat.le_of_ble_eq_true rfl) (x_uE8.trans (congrArg (x_W b ad cs) e31.symm)) d_E_begin_77 (fun H locs V => ?_)
    have b32 : k0 < x_N s31 := by rw [e31]; exact b30
    refine lv_aload_n hx hb d_E_begin_80 rfl (lv_at hl 1 rfl) ?_
    refine lv_iconst (v := 0) hx hb d_E_begin_81 (by decide) ?_
    obtain ⟨s33, e33, h⟩ := q_let_h h
    refine x_put (σ' := s33) (ty := .boolean) G V (15 + k0) 1 9 (x_wE b32) rfl in_E tt_E_ok n_E (by decide) k_E_44 rfl rfl rfl rfl (Nat.le_of_ble_eq_true rfl) (x_uE9.trans (congrArg (x_W b ad cs) e33.symm)) d_E_begin_82 (fun H locs V => ?_)
    have b34 : k0 < x_N s33 := by rw [e33]; exact b32
    refine lv_aload_n hx hb d_E_begin_85 rfl (lv_at hl 1 rfl) ?_
    refine lv_iconst (v := 0) hx hb d_E_begin_86 (by decide) ?_
    obtain ⟨s35, e35, h⟩ := q_let_h h
    refine x_put (σ' := s35) (ty := .boolean) G V (15 + k0) 1 10 (x_wE b34) rfl in_E tt_E_ok n_E (by decide) k_E_47 rfl rfl rfl rfl (Nat.le_of_ble_eq_true rfl) (x_uE10.trans (congrArg (x_W b ad cs) e35.symm)) d_E_begin_87 (fun H locs V => ?_)
    have b36 : k0 < x_N s35 := by rw [e35]; exact b34
    refine lv_aload_n hx hb d_E_begin_90 rfl (lv_at hl 1 rfl) ?_
    refine lv_iconst (v := 0) hx hb d_E_begin_91 (by decide) ?_
    obtain ⟨s37, e37, h⟩ := q_let_h h
    refine x_put (σ' := s37) (ty := .boolean) G V (15 + k0) 1 11 (x_wE b36) rfl in_E tt_E_ok n_E (by decide) k_E_50 rfl rfl rfl rfl (Nat.le_of_ble_eq_true rfl) (x_uE11.trans (congrArg (x_W b ad cs) e37.symm)) d_E_begin_92 (fun H locs V => ?_)
    have b38 : k0 < x_N s37 := by rw [e37]; exact b36
    exact x_ret_v G hr hlk h V d_E_begin_95

set_option maxHeartbeats 40000000 in
set_option maxRecDepth 100000 in
theorem c_E_covers (l : Launch) (D : va_G) (b ad : Nat → Nat) (cs : Nat → ClassId) (N : Nat) (σ : x_T) (k0 : Nat) (a1 : Nat) (r : Int32) (h : f_E_covers N σ k0 a1 = some r) : x_Ci l y_E_covers b_E_covers 2 (some .boolean) { frames := 0, cells := 0, slots := 0, locals := 0 } D b ad cs σ [.ref (ad k0), .ref (ad a1)] r σ := by
  refine x_met_i (own := R_E) (by decide) rfl (Nat.le_of_ble_eq_true rfl) ?_
  intro p e s m args below meth c A G hr hlk hml ls hl V
  have hx := G.1
  have hb := G.2.1
  have hown := G.2.2.1
  have hts := G.2.2.2.1
  have hN := G.2.2.2.2.2
  have hl : lv_has ls 2 [(0, .ref (ad k0)), (1, .ref (ad a1))] := hl
  unfold f_E_covers at h
  refine lv_aload_n hx hb d_E_covers_0 rfl (lv_at hl 0 rfl) ?_
  obtain ⟨b1, h⟩ := q_gd_h h
  replace b1 := q_lt_h b1
  refine x_get (v := .int (x_P σ k0 6)) G V (15 + k0) 1 6 (x_wE b1) rfl in_E (by decide) k_E_35 rfl d_E_covers_1 ?_
  refine lv_aload_n hx hb d_E_covers_4 rfl (lv_at hl 1 rfl) ?_
  obtain ⟨b2, h⟩ := q_gd_h h
  replace b2 := q_lt_h b2
  refine x_get (v := .int (x_P σ a1 6)) G V (15 + a1) 1 6 (x_wE b2) rfl in_E (by decide) k_E_35 rfl d_E_covers_5 ?_
  refine lv_icmp_le (tgt := 22) hx hb d_E_covers_8 (by decide) (fun hc => ?_) (fun hc => ?_)
  · replace h := q_ifp hc h
    refine lv_iconst (v := 0) hx hb d_E_covers_22 (by decide) ?_
    exact x_zpret_i G hr hlk rfl h rfl V d_E_covers_23
  · replace h := q_ifn hc h
    refine lv_aload_n hx hb d_E_covers_11 rfl (lv_at hl 0 rfl) ?_
    refine x_get (v := .int (x_P σ k0 0)) G V (15 + k0) 1 0 (x_wE b1) rfl in_E (by decide) k_E_9 rfl d_E_covers_12 ?_
    refine lv_aload_n hx hb d_E_covers_15 rfl (lv_at hl 1 rfl) ?_
    refine x_get (v := .int (x_P σ a1 0)) G V (15 + a1) 1 0 (x_wE b2) rfl in_E (by decide) k_E_9 rfl d_E_covers_16 ?_
    refine lv_icmp_eq (tgt := 24) hx hb d_E_covers_19 (by decide) (fun hc => ?_) (fun hc => ?_)
    · replace h := q_ifp hc h
      refine lv_aload_n hx hb d_E_covers_24 rfl (lv_at hl 0 rfl) ?_
      refine x_get (v := .int (x_P σ k0 1)) G V (15 + k0) 1 1 (x_wE b1) rfl in_E (by decide) k_E_15 rfl d_E_covers_25 ?_
      refine lv_iconst (v := (-1)) hx hb d_E_covers_28 (by decide) ?_
      refine lv_icmp_ne (tgt := 34) hx hb d_E_covers_29 (by decide) (fun hc => ?_) (fun hc => ?_)
      · replace h := q_ifn hc h
        refine lv_aload_n hx hb d_E_covers_34 rfl (lv_at hl 0 rfl) ?_
        refine x_get (v := .int (x_P σ k0 1)) G V (15 + k0) 1 1 (x_wE b1) rfl in_E (by decide) k_E_15 rfl d_E_covers_35 ?_
        refine lv_aload_n hx hb d_E_covers_38 rfl (lv_at hl 1 rfl) ?_
        refine x_get (v := .int (x_P σ a1 1)) G V (15 + a1) 1 1 (x_wE b2) rfl in_E (by decide) k_E_15 rfl d_E_covers_39 ?_
        refine lv_icmp_ne (tgt := 68) hx hb d_E_covers_42 (by decide) (fun hc => ?_) (fun hc => ?_)
        · replace h := q_ifn hc h
          refine lv_iconst (v := 0) hx hb d_E_covers_68 (by decide) ?_
          exact x_zpret_i G hr hlk rfl h rfl V d_E_covers_69
        · replace h := q_ifp hc h
          refine lv_aload_n hx hb d_E_covers_45 rfl (lv_at hl 0 rfl) ?_
          refine x_get (v := .int (x_P σ k0 3)) G V (15 + k0) 1 3 (x_wE b1) rfl in_E (by decide) k_E_25 rfl d_E_covers_46 ?_
          refine lv_iconst (v := (-1)) hx hb d_E_covers_49 (by decide) ?_
          refine lv_icmp_eq (tgt := 64) hx hb d_E_covers_50 (by decide) (fun hc => ?_) (fun hc => ?_)
          · replace h := q_ifp hc h
            refine lv_iconst (v := 1) hx hb d_E_covers_64 (by decide) ?_
            refine lv_goto (tgt := 69) hx hb d_E_covers_65 (by decide) ?_
            exact x_zpret_i G hr hlk rfl h rfl V d_E_covers_69
          · replace h := q_ifn hc h
            refine lv_aload_n hx hb d_E_covers_53 rfl (lv_at hl 0 rfl) ?_
            refine x_get (v := .int (x_P σ k0 3)) G V (15 + k0) 1 3 (x_wE b1) rfl in_E (by decide) k_E_25 rfl d_E_covers_54 ?_
            refine lv_aload_n hx hb d_E_covers_57 rfl (lv_at hl 1 rfl) ?_
            refine x_get (v := .int (x_P σ a1 3)) G V (15 + a1) 1 3 (x_wE b2) rfl in_E (by decide) k_E_25 rfl d_E_covers_58 ?_
            refine lv_icmp_ne (tgt := 68) hx hb d_E_covers_61 (by decide) (fun hc => ?_) (fun hc => ?_)
            · replace h := q_ifn hc h
              refine lv_iconst (v := 0) hx hb d_E_covers_68 (by decide) ?_
              exact x_zpret_i G hr hlk rfl h rfl V d_E_covers_69
            · replace h := q_ifp hc h
              refine lv_iconst (v := 1) hx hb d_E_covers_64 (by decide) ?_
              refine lv_goto (tgt := 69) hx hb d_E_covers_65 (by decide) ?_
              exact x_zpret_i G hr hlk rfl h rfl V d_E_covers_69
      · replace h := q_ifp hc h
        refine lv_iconst (v := 1) hx hb d_E_covers_32 (by decide) ?_
        exact x_zpret_i G hr hlk rfl h rfl V d_E_covers_33
    · replace h := q_ifn hc h
      refine lv_iconst (v := 0) hx hb d_E_covers_22 (by decide) ?_
      exact x_zpret_i G hr hlk rfl h rfl V d_E_covers_23

set_option maxHeartbeats 40000000 in
set_option maxRecDepth 100000 in
theorem c_T_insert (l : Launch) (D : va_G) (b ad : Nat → Nat) (cs : Nat → ClassId) (N : Nat) (σ : x_T) (a1 : Nat) (σ' : x_T) (h : f_T_insert N σ a1 = some σ') : x_Cv l y_T_insert b_T_insert 3 none { frames := 0, cells := 0, slots := 0, locals := 0 } D b ad cs σ [.ref (b 0), .ref (ad a1)] σ' := by
  refine x_met_v (own := R_T) (by decide) rfl (Nat.le_of_ble_eq_true rfl) ?_
  intro p e s m args below meth c A G hr hlk hml ls hl V
  have hx := G.1
  have hb := G.2.1
  have hown := G.2.2.1
  have hts := G.2.2.2.1
  have hN := G.2.2.2.2.2
  have hl : lv_has ls 3 [(0, .ref (b 0)), (1, .ref (ad a1))] := hl
  unfold f_T_insert at h
  refine lv_aload_n hx hb d_T_insert_0 rfl (lv_at hl 0 rfl) ?_
  refine x_get (v := .int (x_S σ 4)) G V 0 0 4 x_w0 rfl in_T (by decide) k_T_26 rfl d_T_insert_1 ?_
  refine lv_istore_n (lv' := [(2, .int (x_S σ 4)), (0, .ref (b 0)), (1, .ref (ad a1))]) hx hb d_T_insert_4 rfl hl (by decide) rfl (fun ls hl => ?_)
  have lp5 : ∀ (u1 : Nat) (K : Int32 → x_T → Option x_T) (_ : ∀ (v2 : Int32) (σ : x_T) (H : Heap) (locs : List Loc) (ls : Array Slot), K v2 σ = some σ' → lv_has ls 3 [(0, .ref (b 0)), (1, .ref (ad u1)), (2, .int (v2))] → x_V D b ad cs σ A s.heap H locs → W p l e { frames := 0, cells := 0, slots := 0, locals := 0 } s m args below meth c H locs 0 0 (x_Qv below args s D b ad cs A σ') (F0 m 47 ls [])) (n : Nat) (v2 : Int32) (σ : x_T) (H : Heap) (locs : List Loc) (ls : Array Slot), f_T_insert_L5 N u1 K n v2 σ = some σ' → lv_has ls 3 [(0, .ref (b 0)), (1, .ref (ad u1)), (2, .int (v2))] → x_V D b ad cs σ A s.heap H locs → W p l e { frames := 0, cells := 0, slots := 0, locals := 0 } s m args below meth c H locs 0 0 (x_Qv below args s D b ad cs A σ') (F0 m 5 ls []) := by
    intro u1 K hK n
    induction n with
    | zero => intro v2 σ H locs ls h hl V; cases h
    | succ n ih =>
      intro v2 σ H locs ls h hl V
      rw [f_T_insert_L5] at h
      refine lv_iload_n hx hb d_T_insert_5 rfl (lv_at hl 2 rfl) ?_
      refine lv_if_le (tgt := 47) hx hb d_T_insert_6 (by decide) (fun hc => ?_) (fun hc => ?_)
      · replace h := q_ifp hc h
        exact hK _ _ _ _ ls h (lv_sub hl [0, 1, 2] rfl) V
      · replace h := q_ifn hc h
        refine lv_aload_n hx hb d_T_insert_9 rfl (lv_at hl 0 rfl) ?_
        refine x_get (v := .ref (b 3)) G V 0 0 3 x_w0 rfl in_T (by decide) k_T_22 rfl d_T_insert_10 ?_
        refine lv_iload_n hx hb d_T_insert_13 rfl (lv_at hl 2 rfl) ?_
        refine lv_iconst (v := 1) hx hb d_T_insert_14 (by decide) ?_
        refine lv_isub hx hb d_T_insert_15 ?_
        obtain ⟨g1, h⟩ := q_gd_h h
        refine x_aald G V g1 d_T_insert_16 (fun hE => ?_) (fun k2 hE => ?_)
        · replace h := q_omn hE h
          cases h
        · replace h := q_oms hE h
          obtain ⟨b3, h⟩ := q_gd_h h
          replace b3 := q_lt_h b3
          refine x_getN (v := .int (x_P σ k2 7)) G V (15 + k2) 1 7 (x_wE b3) rfl in_E (by decide) k_T_288 rfl d_T_insert_17 ?_
          refine lv_aload_n hx hb d_T_insert_20 rfl (lv_at hl 1 rfl) ?_
          obtain ⟨b4, h⟩ := q_gd_h h
          replace b4 := q_lt_h b4
          refine x_getN (v := .int (x_P σ u1 7)) G V (15 + u1) 1 7 (x_wE b4) rfl in_E (by decide) k_T_288 rfl d_T_insert_21 ?_
          refine lv_icmp_lt (tgt := 47) hx hb d_T_insert_24 (by decide) (fun hc => ?_) (fun hc => ?_)
          · replace h := q_ifp hc h
            exact hK _ _ _ _ ls h (lv_sub hl [0, 1, 2] rfl) V
          · replace h := q_ifn hc h
            refine lv_aload_n hx hb d_T_insert_27 rfl (lv_at hl 0 rfl) ?_
            refine x_get (v := .ref (b 3)) G V 0 0 3 x_w0 rfl in_T (by decide) k_T_22 rfl d_T_insert_28 ?_
            refine lv_iload_n hx hb d_T_insert_31 rfl (lv_at hl 2 rfl) ?_
            refine lv_aload_n hx hb d_T_insert_32 rfl (lv_at hl 0 rfl) ?_
            refine x_get (v := .ref (b 3)) G V 0 0 3 x_w0 rfl in_T (by decide) k_T_22 rfl d_T_insert_33 ?_
            refine lv_iload_n hx hb d_T_insert_36 rfl (lv_at hl 2 rfl) ?_
            refine lv_iconst (v := 1) hx hb d_T_insert_37 (by decide) ?_
            refine lv_isub hx hb d_T_insert_38 ?_
            obtain ⟨g5, h⟩ := q_gd_h h
            refine x_aald G V g5 d_T_insert_39 (fun hE => ?_) (fun k6 hE => ?_)
            · replace h := q_omn hE h
              cases h
            · replace h := q_oms hE h
              obtain ⟨b8, h⟩ := q_gd_h h
              replace b8 := q_lt_h b8
              obtain ⟨g7, h⟩ := q_gd_h h
              obtain ⟨s9, e9, h⟩ := q_let_h h
              refine x_aast (σ' := s9) G V b8 (x_u3.trans (congrArg (x_W b ad cs) e9.symm)) g7 d_T_insert_40 (fun H locs V => ?_)
              have b10 : k2 < x_N s9 := by rw [e9]; exact b3
              have b11 : u1 < x_N s9 := by rw [e9]; exact b4
              have b12 : k6 < x_N s9 := by rw [e9]; exact b8
              refine lv_iinc (k := 2) (v := v2 + (-1)) (lv' := [(2, .int (v2 + (-1))), (0, .ref (b 0)), (1, .ref (ad u1))]) hx hb d_T_insert_41 hl rfl rfl (by decide) rfl (fun ls hl => ?_)
              refine lv_goto (tgt := 5) hx hb d_T_insert_44 (by decide) ?_
              exact ih _ _ _ _ ls h (lv_sub hl [1, 2, 0] rfl) V
  replace hl := lv_sub (l' := [(0, .ref (b 0)), (1, .ref (ad a1)), (2, .int (x_S σ 4))]) hl [1, 2, 0] rfl
  refine lp5 _ _ ?_ _ _ _ _ _ ls h hl V
  intro v2 t13 H locs ls h hl V
  refine lv_aload_n hx hb d_T_insert_47 rfl (lv_at hl 0 rfl) ?_
  refine x_get (v := .ref (b 3)) G V 0 0 3 x_w0 rfl in_T (by decide) k_T_22 rfl d_T_insert_48 ?_
  refine lv_iload_n hx hb d_T_insert_51 rfl (lv_at hl 2 rfl) ?_
  refine lv_aload_n hx hb d_T_insert_52 rfl (lv_at hl 1 rfl) ?_
  obtain ⟨b15, h⟩ := q_gd_h h
  replace b15 := q_lt_h b15
  obtain ⟨g14, h⟩ := q_gd_h h
  obtain ⟨s16, e16, h⟩ := q_let_h h
  refine x_aast (σ' := s16) G V b15 (x_u3.trans (congrArg (x_W b ad cs) e16.symm)) g14 d_T_insert_53 (fun H locs V => ?_)
  have b17 : a1 < x_N s16 := by rw [e16]; exact b15
  refine lv_aload_n hx hb d_T_insert_54 rfl (lv_at hl 0 rfl) ?_
  refine lv_dup hx hb d_T_insert_55 rfl ?_
  refine x_get (v := .int (x_S s16 4)) G V 0 0 4 x_w0 rfl in_T (by decide) k_T_26 rfl d_T_insert_56 ?_
  refine lv_iconst (v := 1) hx hb d_T_insert_59 (by decide) ?_
  refine lv_iadd hx hb d_T_insert_60 ?_
  obtain ⟨s18, e18, h⟩ := q_let_h h
  refine x_put (σ' := s18) (ty := .int) G V 0 0 4 x_w0 rfl in_T tt_T_ok n_T (by decide) k_T_26 rfl rfl rfl rfl (Nat.le_of_ble_eq_true rfl) (x_uT4.trans (congrArg (x_W b ad cs) e18.symm)) d_T_insert_61 (fun H locs V => ?_)
  have b19 : a1 < x_N s18 := by rw [e18]; exact b17
  exact x_ret_v G hr hlk h V d_T_insert_64

set_option maxHeartbeats 40000000 in
set_option maxRecDepth 100000 in
theorem c_T_tabletOf (l : Launch) (D : va_G) (b ad : Nat → Nat) (cs : Nat → ClassId) (N : Nat) (σ : x_T) (a1 : Int32) (r : Int32) (h : f_T_tabletOf N σ a1 = some r) : x_Ci l y_T_tabletOf b_T_tabletOf 3 (some .int) { frames := 0, cells := 0, slots := 0, locals := 0 } D b ad cs σ [.ref (b 0), .int (a1)] r σ := by
  refine x_met_i (own := R_T) (by decide) rfl (Nat.le_of_ble_eq_true rfl) ?_
  intro p e s m args below meth c A G hr hlk hml ls hl V
  have hx := G.1
  have hb := G.2.1
  have hown := G.2.2.1
  have hts := G.2.2.2.1
  have hN := G.2.2.2.2.2
  have hl : lv_has ls 3 [(0, .ref (b 0)), (1, .int (a1))] := hl
  unfold f_T_tabletOf at h
  refine lv_iconst (v := 0) hx hb d_T_tabletOf_0 (by decide) ?_
  refine lv_istore_n (lv' := [(2, .int (0)), (0, .ref (b 0)), (1, .int (a1))]) hx hb d_T_tabletOf_1 rfl hl (by decide) rfl (fun ls hl => ?_)
  have lp2 : ∀ (u1 : Int32) (K : Int32 → Option Int32) (_ : ∀ (v2 : Int32) (H : Heap) (locs : List Loc) (ls : Array Slot), K v2 = some r → lv_has ls 3 [(2, .int (v2))] → x_V D b ad cs σ A s.heap H locs → W p l e { frames := 0, cells := 0, slots := 0, locals := 0 } s m args below meth c H locs 0 0 (x_Qi below args s D b ad cs A r σ) (F0 m 30 ls [])) (n : Nat) (v2 : Int32) (H : Heap) (locs : List Loc) (ls : Array Slot), f_T_tabletOf_L2 N σ u1 K n v2 = some r → lv_has ls 3 [(0, .ref (b 0)), (1, .int (u1)), (2, .int (v2))] → x_V D b ad cs σ A s.heap H locs → W p l e { frames := 0, cells := 0, slots := 0, locals := 0 } s m args below meth c H locs 0 0 (x_Qi below args s D b ad cs A r σ) (F0 m 2 ls []) := by
    intro u1 K hK n
    induction n with
    | zero => intro v2 H locs ls h hl V; cases h
    | succ n ih =>
      intro v2 H locs ls h hl V
      rw [f_T_tabletOf_L2] at h
      refine lv_iload_n hx hb d_T_tabletOf_2 rfl (lv_at hl 2 rfl) ?_
      refine lv_iconst (v := 1) hx hb d_T_tabletOf_3 (by decide) ?_
      refine lv_iadd hx hb d_T_tabletOf_4 ?_
      refine lv_aload_n hx hb d_T_tabletOf_5 rfl (lv_at hl 0 rfl) ?_
      refine x_get (v := .int (x_S σ 7)) G V 0 0 7 x_w0 rfl in_T (by decide) k_T_35 rfl d_T_tabletOf_6 ?_
      refine lv_icmp_ge (tgt := 30) hx hb d_T_tabletOf_9 (by decide) (fun hc => ?_) (fun hc => ?_)
      · replace h := q_ifp hc h
        exact hK _ _ _ ls h (lv_sub hl [2] rfl) V
      · replace h := q_ifn hc h
        refine lv_aload_n hx hb d_T_tabletOf_12 rfl (lv_at hl 0 rfl) ?_
        refine x_get (v := .ref (b 4)) G V 0 0 6 x_w0 rfl in_T (by decide) k_T_32 rfl d_T_tabletOf_13 ?_
        refine lv_iload_n hx hb d_T_tabletOf_16 rfl (lv_at hl 2 rfl) ?_
        refine lv_iconst (v := 1) hx hb d_T_tabletOf_17 (by decide) ?_
        refine lv_iadd hx hb d_T_tabletOf_18 ?_
        obtain ⟨g1, h⟩ := q_gd_h h
        refine x_iald G V 4 x_w4 g1 d_T_tabletOf_19 ?_
        refine lv_iload_n hx hb d_T_tabletOf_20 rfl (lv_at hl 1 rfl) ?_
        refine lv_icmp_gt (tgt := 30) hx hb d_T_tabletOf_21 (by decide) (fun hc => ?_) (fun hc => ?_)
        · replace h := q_ifp hc h
          exact hK _ _ _ ls h (lv_sub hl [2] rfl) V
        · replace h := q_ifn hc h
          refine lv_iinc (k := 2) (v := v2 + 1) (lv' := [(2, .int (v2 + 1)), (0, .ref (b 0)), (1, .int (u1))]) hx hb d_T_tabletOf_24 hl rfl rfl (by decide) rfl (fun ls hl => ?_)
          refine lv_goto (tgt := 2) hx hb d_T_tabletOf_27 (by decide) ?_
          exact ih _ _ _ ls h (lv_sub hl [1, 2, 0] rfl) V
  replace hl := lv_sub (l' := [(0, .ref (b 0)), (1, .int (a1)), (2, .int (0))]) hl [1, 2, 0] rfl
  refine lp2 _ _ ?_ _ _ _ _ ls h hl V
  intro v2 H locs ls h hl V
  refine lv_iload_n hx hb d_T_tabletOf_30 rfl (lv_at hl 0 rfl) ?_
  exact x_pret_i G hr hlk h rfl V d_T_tabletOf_31

set_option maxHeartbeats 40000000 in
set_option maxRecDepth 100000 in
theorem c_T_endOf (l : Launch) (D : va_G) (b ad : Nat → Nat) (cs : Nat → ClassId) (N : Nat) (σ : x_T) (a1 : Int32) (r : Int32) (h : f_T_endOf N σ a1 = some r) : x_Ci l y_T_endOf b_T_endOf 2 (some .int) { frames := 1, cells := 0, slots := 0, locals := 22 } D b ad cs σ [.ref (b 0), .int (a1)] r σ := by
  refine x_met_i (own := R_T) (by decide) rfl (Nat.le_of_ble_eq_true rfl) ?_
  intro p e s m args below meth c A G hr hlk hml ls hl V
  have hx := G.1
  have hb := G.2.1
  have hown := G.2.2.1
  have hts := G.2.2.2.1
  have hN := G.2.2.2.2.2
  have hl : lv_has ls 2 [(0, .ref (b 0)), (1, .int (a1))] := hl
  unfold f_T_endOf at h
  refine lv_aload_n hx hb d_T_endOf_0 rfl (lv_at hl 0 rfl) ?_
  refine lv_aload_n hx hb d_T_endOf_1 rfl (lv_at hl 0 rfl) ?_
  refine x_get (v := .ref (b 4)) G V 0 0 6 x_w0 rfl in_T (by decide) k_T_32 rfl d_T_endOf_2 ?_
  refine lv_iload_n hx hb d_T_endOf_5 rfl (lv_at hl 1 rfl) ?_
  refine lv_iconst (v := 1) hx hb d_T_endOf_6 (by decide) ?_
  refine lv_iadd hx hb d_T_endOf_7 ?_
  obtain ⟨g1, h⟩ := q_gd_h h
  refine x_iald G V 4 x_w4 g1 d_T_endOf_8 ?_
  obtain ⟨r3, h2, h⟩ := q_bind h
  refine x_cV_i (As := [.int (x_I σ 4 ((a1 + 1 : Int32).toNatClampNeg))]) (rest := []) G V hml (c_T_indexOfRow l D b ad cs N σ (x_I σ 4 ((a1 + 1 : Int32).toNatClampNeg)) r3 h2) 0 0 rfl x_w0 g_T_214 e_T_indexOfRow ⟨Nat.le_of_ble_eq_true rfl, Nat.le_of_ble_eq_true rfl⟩ ⟨rfl, rfl⟩ ⟨Nat.zero_le _, Nat.zero_le _⟩ rfl hl.1 rfl (Nat.le_of_ble_eq_true rfl) d_T_endOf_9 (fun H locs V => ?_)
  exact x_pret_i G hr hlk h rfl V d_T_endOf_12

set_option maxHeartbeats 40000000 in
set_option maxRecDepth 100000 in
theorem c_T_startOf (l : Launch) (D : va_G) (b ad : Nat → Nat) (cs : Nat → ClassId) (N : Nat) (σ : x_T) (a1 : Int32) (r : Int32) (h : f_T_startOf N σ a1 = some r) : x_Ci l y_T_startOf b_T_startOf 2 (some .int) { frames := 1, cells := 0, slots := 0, locals := 22 } D b ad cs σ [.ref (b 0), .int (a1)] r σ := by
  refine x_met_i (own := R_T) (by decide) rfl (Nat.le_of_ble_eq_true rfl) ?_
  intro p e s m args below meth c A G hr hlk hml ls hl V
  have hx := G.1
  have hb := G.2.1
  have hown := G.2.2.1
  have hts := G.2.2.2.1
  have hN := G.2.2.2.2.2
  have hl : lv_has ls 2 [(0, .ref (b 0)), (1, .int (a1))] := hl
  unfold f_T_startOf at h
  refine lv_aload_n hx hb d_T_startOf_0 rfl (lv_at hl 0 rfl) ?_
  refine lv_aload_n hx hb d_T_startOf_1 rfl (lv_at hl 0 rfl) ?_
  refine x_get (v := .ref (b 4)) G V 0 0 6 x_w0 rfl in_T (by decide) k_T_32 rfl d_T_startOf_2 ?_
  refine lv_iload_n hx hb d_T_startOf_5 rfl (lv_at hl 1 rfl) ?_
  obtain ⟨g1, h⟩ := q_gd_h h
  refine x_iald G V 4 x_w4 g1 d_T_startOf_6 ?_
  obtain ⟨r3, h2, h⟩ := q_bind h
  refine x_cV_i (As := [.int (x_I σ 4 ((a1 : Int32).toNatClampNeg))]) (rest := []) G V hml (c_T_indexOfRow l D b ad cs N σ (x_I σ 4 ((a1 : Int32).toNatClampNeg)) r3 h2) 0 0 rfl x_w0 g_T_214 e_T_indexOfRow ⟨Nat.le_of_ble_eq_true rfl, Nat.le_of_ble_eq_true rfl⟩ ⟨rfl, rfl⟩ ⟨Nat.zero_le _, Nat.zero_le _⟩ rfl hl.1 rfl (Nat.le_of_ble_eq_true rfl) d_T_startOf_7 (fun H locs V => ?_)
  exact x_pret_i G hr hlk h rfl V d_T_startOf_10

set_option maxHeartbeats 40000000 in
set_option maxRecDepth 100000 in
theorem c_T_entriesIn (l : Launch) (D : va_G) (b ad : Nat → Nat) (cs : Nat → ClassId) (N : Nat) (σ : x_T) (a1 : Int32) (a2 : Int32) (r : Int32) (h : f_T_entriesIn N σ a1 a2 = some r) : x_Ci l y_T_entriesIn b_T_entriesIn 6 (some .int) { frames := 2, cells := 0, slots := 0, locals := 43 } D b ad cs σ [.ref (b 0), .int (a1), .int (a2)] r σ := by
  refine x_met_i (own := R_T) (by decide) rfl (Nat.le_of_ble_eq_true rfl) ?_
  intro p e s m args below meth c A G hr hlk hml ls hl V
  have hx := G.1
  have hb := G.2.1
  have hown := G.2.2.1
  have hts := G.2.2.2.1
  have hN := G.2.2.2.2.2
  have hl : lv_has ls 6 [(0, .ref (b 0)), (1, .int (a1)), (2, .int (a2))] := hl
  unfold f_T_entriesIn at h
  refine lv_iconst (v := 0) hx hb d_T_entriesIn_0 (by decide) ?_
  refine lv_istore_n (lv' := [(3, .int (0)), (0, .ref (b 0)), (1, .int (a1)), (2, .int (a2))]) hx hb d_T_entriesIn_1 rfl hl (by decide) rfl (fun ls hl => ?_)
  refine lv_aload_n hx hb d_T_entriesIn_2 rfl (lv_at hl 1 rfl) ?_
  refine lv_iload_n hx hb d_T_entriesIn_3 rfl (lv_at hl 2 rfl) ?_
  obtain ⟨r2, h1, h⟩ := q_bind h
  refine x_cV_i (As := [.int (a1)]) (rest := []) G V hml (c_T_endOf l D b ad cs N σ a1 r2 h1) 0 0 rfl x_w0 g_T_217 e_T_endOf ⟨Nat.le_of_ble_eq_true rfl, Nat.le_of_ble_eq_true rfl⟩ ⟨rfl, rfl⟩ ⟨Nat.zero_le _, Nat.zero_le _⟩ rfl hl.1 rfl (Nat.le_of_ble_eq_true rfl) d_T_entriesIn_4 (fun H locs V => ?_)
  refine lv_istore (lv' := [(4, .int (r2)), (3, .int (0)), (0, .ref (b 0)), (1, .int (a1)), (2, .int (a2))]) hx hb d_T_entriesIn_7 hl (by decide) rfl (fun ls hl => ?_)
  refine lv_aload_n hx hb d_T_entriesIn_9 rfl (lv_at hl 2 rfl) ?_
  refine lv_iload_n hx hb d_T_entriesIn_10 rfl (lv_at hl 3 rfl) ?_
  obtain ⟨r4, h3, h⟩ := q_bind h
  refine x_cV_i (As := [.int (a1)]) (rest := []) G V hml (c_T_startOf l D b ad cs N σ a1 r4 h3) 0 0 rfl x_w0 g_T_223 e_T_startOf ⟨Nat.le_of_ble_eq_true rfl, Nat.le_of_ble_eq_true rfl⟩ ⟨rfl, rfl⟩ ⟨Nat.zero_le _, Nat.zero_le _⟩ rfl hl.1 rfl (Nat.le_of_ble_eq_true rfl) d_T_entriesIn_11 (fun H locs V => ?_)
  refine lv_istore (lv' := [(5, .int (r4)), (4, .int (r2)), (3, .int (0)), (0, .ref (b 0)), (1, .int (a1)), (2, .int (a2))]) hx hb d_T_entriesIn_14 hl (by decide) rfl (fun ls hl => ?_)
  have lp16 : ∀ (u2 : Int32) (u4 : Int32) (K : Int32 → Option Int32) (_ : ∀ (v3 : Int32) (H : Heap) (locs : List Loc) (ls : Array Slot), K v3 = some r → lv_has ls 6 [(3, .int (v3))] → x_V D b ad cs σ A s.heap H locs → W p l e { frames := 2, cells := 0, slots := 0, locals := 43 } s m args below meth c H locs 0 0 (x_Qi below args s D b ad cs A r σ) (F0 m 46 ls [])) (n : Nat) (v3 : Int32) (v5 : Int32) (H : Heap) (locs : List Loc) (ls : Array Slot), f_T_entriesIn_L16 N σ u2 u4 K n v3 v5 = some r → lv_has ls 6 [(0, .ref (b 0)), (2, .int (u2)), (3, .int (v3)), (4, .int (u4)), (5, .int (v5))] → x_V D b ad cs σ A s.heap H locs → W p l e { frames := 2, cells := 0, slots := 0, locals := 43 } s m args below meth c H locs 0 0 (x_Qi below args s D b ad cs A r σ) (F0 m 16 ls []) := by
    intro u2 u4 K hK n
    induction n with
    | zero => intro v3 v5 H locs ls h hl V; cases h
    | succ n ih =>
      intro v3 v5 H locs ls h hl V
      rw [f_T_entriesIn_L16] at h
      refine lv_iload hx hb d_T_entriesIn_16 (lv_at hl 4 rfl) ?_
      refine lv_iload hx hb d_T_entriesIn_18 (lv_at hl 3 rfl) ?_
      refine lv_icmp_ge (tgt := 46) hx hb d_T_entriesIn_20 (by decide) (fun hc => ?_) (fun hc => ?_)
      · replace h := q_ifp hc h
        exact hK _ _ _ ls h (lv_sub hl [2] rfl) V
      · replace h := q_ifn hc h
        refine lv_aload_n hx hb d_T_entriesIn_23 rfl (lv_at hl 0 rfl) ?_
        refine x_get (v := .ref (b 3)) G V 0 0 3 x_w0 rfl in_T (by decide) k_T_22 rfl d_T_entriesIn_24 ?_
        refine lv_iload hx hb d_T_entriesIn_27 (lv_at hl 4 rfl) ?_
        obtain ⟨g5, h⟩ := q_gd_h h
        refine x_aald G V g5 d_T_entriesIn_29 (fun hE => ?_) (fun k6 hE => ?_)
        · replace h := q_omn hE h
          cases h
        · replace h := q_oms hE h
          obtain ⟨b7, h⟩ := q_gd_h h
          replace b7 := q_lt_h b7
          refine x_getN (v := .int (x_P σ k6 8)) G V (15 + k6) 1 8 (x_wE b7) rfl in_E (by decide) k_T_226 rfl d_T_entriesIn_30 ?_
          refine lv_iload_n hx hb d_T_entriesIn_33 rfl (lv_at hl 1 rfl) ?_
          refine lv_icmp_ne (tgt := 40) hx hb d_T_entriesIn_34 (by decide) (fun hc => ?_) (fun hc => ?_)
          · replace h := q_ifn hc h
            refine lv_iinc (k := 4) (v := v5 + 1) (lv' := [(5, .int (v5 + 1)), (0, .ref (b 0)), (2, .int (u2)), (3, .int (v3)), (4, .int (u4))]) hx hb d_T_entriesIn_40 hl rfl rfl (by decide) rfl (fun ls hl => ?_)
            refine lv_goto (tgt := 16) hx hb d_T_entriesIn_43 (by decide) ?_
            exact ih _ _ _ _ ls h (lv_sub hl [1, 2, 3, 4, 0] rfl) V
          · replace h := q_ifp hc h
            refine lv_iinc (k := 2) (v := v3 + 1) (lv' := [(3, .int (v3 + 1)), (0, .ref (b 0)), (2, .int (u2)), (4, .int (u4)), (5, .int (v5))]) hx hb d_T_entriesIn_37 hl rfl rfl (by decide) rfl (fun ls hl => ?_)
            refine lv_iinc (k := 4) (v := v5 + 1) (lv' := [(5, .int (v5 + 1)), (3, .int (v3 + 1)), (0, .ref (b 0)), (2, .int (u2)), (4, .int (u4))]) hx hb d_T_entriesIn_40 hl rfl rfl (by decide) rfl (fun ls hl => ?_)
            refine lv_goto (tgt := 16) hx hb d_T_entriesIn_43 (by decide) ?_
            exact ih _ _ _ _ ls h (lv_sub hl [2, 3, 1, 4, 0] rfl) V
  replace hl := lv_sub (l' := [(0, .ref (b 0)), (2, .int (a2)), (3, .int (0)), (4, .int (r2)), (5, .int (r4))]) hl [3, 5, 2, 1, 0] rfl
  refine lp16 _ _ _ ?_ _ _ _ _ _ ls h hl V
  intro v3 H locs ls h hl V
  refine lv_iload_n hx hb d_T_entriesIn_46 rfl (lv_at hl 0 rfl) ?_
  exact x_pret_i G hr hlk h rfl V d_T_entriesIn_47

set_option maxHeartbeats 40000000 in
set_option maxRecDepth 100000 in
theorem c_T_tableCount (l : Launch) (D : va_G) (b ad : Nat → Nat) (cs : Nat → ClassId) (N : Nat) (σ : x_T) (a1 : Int32) (r : Int32) (h : f_T_tableCount N σ a1 = some r) : x_Ci l y_T_tableCount b_T_tableCount 5 (some .int) { frames := 2, cells := 0, slots := 0, locals := 43 } D b ad cs σ [.ref (b 0), .int (a1)] r σ := by
  refine x_met_i (own := R_T) (by decide) rfl (Nat.le_of_ble_eq_true rfl) ?_
  intro p e s m args below meth c A G hr hlk hml ls hl V
  have hx := G.1
  have hb := G.2.1
  have hown := G.2.2.1
  have hts := G.2.2.2.1
  have hN := G.2.2.2.2.2
  have hl : lv_has ls 5 [(0, .ref (b 0)), (1, .int (a1))] := hl
  unfold f_T_tableCount at h
  refine lv_iconst (v := (-1)) hx hb d_T_tableCount_0 (by decide) ?_
  refine lv_istore_n (lv' := [(2, .int ((-1))), (0, .ref (b 0)), (1, .int (a1))]) hx hb d_T_tableCount_1 rfl hl (by decide) rfl (fun ls hl => ?_)
  refine lv_aload_n hx hb d_T_tableCount_2 rfl (lv_at hl 1 rfl) ?_
  refine lv_iload_n hx hb d_T_tableCount_3 rfl (lv_at hl 2 rfl) ?_
  obtain ⟨r2, h1, h⟩ := q_bind h
  refine x_cV_i (As := [.int (a1)]) (rest := []) G V hml (c_T_endOf l D b ad cs N σ a1 r2 h1) 0 0 rfl x_w0 g_T_217 e_T_endOf ⟨Nat.le_of_ble_eq_true rfl, Nat.le_of_ble_eq_true rfl⟩ ⟨rfl, rfl⟩ ⟨Nat.zero_le _, Nat.zero_le _⟩ rfl hl.1 rfl (Nat.le_of_ble_eq_true rfl) d_T_tableCount_4 (fun H locs V => ?_)
  refine lv_istore_n (lv' := [(3, .int (r2)), (2, .int ((-1))), (0, .ref (b 0)), (1, .int (a1))]) hx hb d_T_tableCount_7 rfl hl (by decide) rfl (fun ls hl => ?_)
  refine lv_aload_n hx hb d_T_tableCount_8 rfl (lv_at hl 2 rfl) ?_
  refine lv_iload_n hx hb d_T_tableCount_9 rfl (lv_at hl 3 rfl) ?_
  obtain ⟨r4, h3, h⟩ := q_bind h
  refine x_cV_i (As := [.int (a1)]) (rest := []) G V hml (c_T_startOf l D b ad cs N σ a1 r4 h3) 0 0 rfl x_w0 g_T_223 e_T_startOf ⟨Nat.le_of_ble_eq_true rfl, Nat.le_of_ble_eq_true rfl⟩ ⟨rfl, rfl⟩ ⟨Nat.zero_le _, Nat.zero_le _⟩ rfl hl.1 rfl (Nat.le_of_ble_eq_true rfl) d_T_tableCount_10 (fun H locs V => ?_)
  refine lv_istore (lv' := [(4, .int (r4)), (3, .int (r2)), (2, .int ((-1))), (0, .ref (b 0)), (1, .int (a1))]) hx hb d_T_tableCount_13 hl (by decide) rfl (fun ls hl => ?_)
  have lp15 : ∀ (u3 : Int32) (K : Int32 → Option Int32) (_ : ∀ (v2 : Int32) (H : Heap) (locs : List Loc) (ls : Array Slot), K v2 = some r → lv_has ls 5 [(2, .int (v2))] → x_V D b ad cs σ A s.heap H locs → W p l e { frames := 2, cells := 0, slots := 0, locals := 43 } s m args below meth c H locs 0 0 (x_Qi below args s D b ad cs A r σ) (F0 m 42 ls [])) (n : Nat) (v2 : Int32) (v4 : Int32) (H : Heap) (locs : List Loc) (ls : Array Slot), f_T_tableCount_L15 N σ u3 K n v2 v4 = some r → lv_has ls 5 [(0, .ref (b 0)), (2, .int (v2)), (3, .int (u3)), (4, .int (v4))] → x_V D b ad cs σ A s.heap H locs → W p l e { frames := 2, cells := 0, slots := 0, locals := 43 } s m args below meth c H locs 0 0 (x_Qi below args s D b ad cs A r σ) (F0 m 15 ls []) := by
    intro u3 K hK n
    induction n with
    | zero => intro v2 v4 H locs ls h hl V; cases h
    | succ n ih =>
      intro v2 v4 H locs ls h hl V
      rw [f_T_tableCount_L15] at h
      refine lv_iload hx hb d_T_tableCount_15 (lv_at hl 3 rfl) ?_
      refine lv_iload_n hx hb d_T_tableCount_17 rfl (lv_at hl 2 rfl) ?_
      refine lv_icmp_ge (tgt := 42) hx hb d_T_tableCount_18 (by decide) (fun hc => ?_) (fun hc => ?_)
      · replace h := q_ifp hc h
        exact hK _ _ _ ls h (lv_sub hl [1] rfl) V
      · replace h := q_ifn hc h
        refine lv_iload_n hx hb d_T_tableCount_21 rfl (lv_at hl 1 rfl) ?_
        refine lv_aload_n hx hb d_T_tableCount_22 rfl (lv_at hl 0 rfl) ?_
        refine x_get (v := .ref (b 3)) G V 0 0 3 x_w0 rfl in_T (by decide) k_T_22 rfl d_T_tableCount_23 ?_
        refine lv_iload hx hb d_T_tableCount_26 (lv_at hl 3 rfl) ?_
        obtain ⟨g5, h⟩ := q_gd_h h
        refine x_aald G V g5 d_T_tableCount_28 (fun hE => ?_) (fun k6 hE => ?_)
        · replace h := q_omn hE h
          cases h
        · replace h := q_oms hE h
          obtain ⟨b7, h⟩ := q_gd_h h
          replace b7 := q_lt_h b7
          refine x_getN (v := .int (x_P σ k6 8)) G V (15 + k6) 1 8 (x_wE b7) rfl in_E (by decide) k_T_226 rfl d_T_tableCount_29 ?_
          refine va_mmax hx hb (hml.trans hl.1.symm) hown (hts _ k_T_194) (hts _ k_st_max) (hts _ k_in_Math) (hts _ k_co_max) (Nat.le_of_ble_eq_true rfl) (Nat.le_of_ble_eq_true rfl) (Nat.zero_le _) (Nat.zero_le _) d_T_tableCount_32 ?_
          refine lv_istore_n (lv' := [(2, .int ((if (v2 : Int32) < (x_P σ k6 8 : Int32) then (x_P σ k6 8 : Int32) else (v2 : Int32)))), (0, .ref (b 0)), (3, .int (u3)), (4, .int (v4))]) hx hb d_T_tableCount_35 rfl hl (by decide) rfl (fun ls hl => ?_)
          refine lv_iinc (k := 3) (v := v4 + 1) (lv' := [(4, .int (v4 + 1)), (2, .int ((if (v2 : Int32) < (x_P σ k6 8 : Int32) then (x_P σ k6 8 : Int32) else (v2 : Int32)))), (0, .ref (b 0)), (3, .int (u3))]) hx hb d_T_tableCount_36 hl rfl rfl (by decide) rfl (fun ls hl => ?_)
          refine lv_goto (tgt := 15) hx hb d_T_tableCount_39 (by decide) ?_
          exact ih _ _ _ _ ls h (lv_sub hl [2, 1, 3, 0] rfl) V
  replace hl := lv_sub (l' := [(0, .ref (b 0)), (2, .int ((-1))), (3, .int (r2)), (4, .int (r4))]) hl [3, 2, 1, 0] rfl
  refine lp15 _ _ ?_ _ _ _ _ _ ls h hl V
  intro v2 H locs ls h hl V
  refine lv_iload_n hx hb d_T_tableCount_42 rfl (lv_at hl 0 rfl) ?_
  refine lv_iconst (v := 1) hx hb d_T_tableCount_43 (by decide) ?_
  refine lv_iadd hx hb d_T_tableCount_44 ?_
  exact x_pret_i G hr hlk h rfl V d_T_tableCount_45

set_option maxHeartbeats 40000000 in
set_option maxRecDepth 100000 in
theorem c_T_flushTablet (l : Launch) (D : va_G) (b ad : Nat → Nat) (cs : Nat → ClassId) (N : Nat) (σ : x_T) (a1 : Int32) (r : Int32) (σ' : x_T) (h : f_T_flushTablet N σ a1 = some (r, σ')) : x_Ci l y_T_flushTablet b_T_flushTablet 6 (some .int) { frames := 3, cells := 0, slots := 0, locals := 68 } D b ad cs σ [.ref (b 0), .int (a1)] r σ' := by
  refine x_met_i (own := R_T) (by decide) rfl (Nat.le_of_ble_eq_true rfl) ?_
  intro p e s m args below meth c A G hr hlk hml ls hl V
  have hx := G.1
  have hb := G.2.1
  have hown := G.2.2.1
  have hts := G.2.2.2.1
  have hN := G.2.2.2.2.2
  have hl : lv_has ls 6 [(0, .ref (b 0)), (1, .int (a1))] := hl
  unfold f_T_flushTablet at h
  refine lv_aload_n hx hb d_T_flushTablet_0 rfl (lv_at hl 0 rfl) ?_
  refine lv_iload_n hx hb d_T_flushTablet_1 rfl (lv_at hl 1 rfl) ?_
  refine lv_iconst (v := (-1)) hx hb d_T_flushTablet_2 (by decide) ?_
  obtain ⟨r2, h1, h⟩ := q_bind h
  refine x_cV_i (As := [.int (a1), .int ((-1))]) (rest := []) G V hml (c_T_entriesIn l D b ad cs N σ a1 (-1) r2 h1) 0 0 rfl x_w0 g_T_149 e_T_entriesIn ⟨Nat.le_of_ble_eq_true rfl, Nat.le_of_ble_eq_true rfl⟩ ⟨rfl, rfl⟩ ⟨Nat.zero_le _, Nat.zero_le _⟩ rfl hl.1 rfl (Nat.le_of_ble_eq_true rfl) d_T_flushTablet_3 (fun H locs V => ?_)
  refine lv_istore_n (lv' := [(2, .int (r2)), (0, .ref (b 0)), (1, .int (a1))]) hx hb d_T_flushTablet_6 rfl hl (by decide) rfl (fun ls hl => ?_)
  refine lv_aload_n hx hb d_T_flushTablet_7 rfl (lv_at hl 1 rfl) ?_
  refine lv_iload_n hx hb d_T_flushTablet_8 rfl (lv_at hl 2 rfl) ?_
  obtain ⟨r4, h3, h⟩ := q_bind h
  refine x_cV_i (As := [.int (a1)]) (rest := []) G V hml (c_T_tableCount l D b ad cs N σ a1 r4 h3) 0 0 rfl x_w0 g_T_238 e_T_tableCount ⟨Nat.le_of_ble_eq_true rfl, Nat.le_of_ble_eq_true rfl⟩ ⟨rfl, rfl⟩ ⟨Nat.zero_le _, Nat.zero_le _⟩ rfl hl.1 rfl (Nat.le_of_ble_eq_true rfl) d_T_flushTablet_9 (fun H locs V => ?_)
  refine lv_istore_n (lv' := [(3, .int (r4)), (2, .int (r2)), (0, .ref (b 0)), (1, .int (a1))]) hx hb d_T_flushTablet_12 rfl hl (by decide) rfl (fun ls hl => ?_)
  refine lv_aload_n hx hb d_T_flushTablet_13 rfl (lv_at hl 2 rfl) ?_
  refine lv_iload_n hx hb d_T_flushTablet_14 rfl (lv_at hl 3 rfl) ?_
  obtain ⟨r6, h5, h⟩ := q_bind h
  refine x_cV_i (As := [.int (a1)]) (rest := []) G V hml (c_T_endOf l D b ad cs N σ a1 r6 h5) 0 0 rfl x_w0 g_T_217 e_T_endOf ⟨Nat.le_of_ble_eq_true rfl, Nat.le_of_ble_eq_true rfl⟩ ⟨rfl, rfl⟩ ⟨Nat.zero_le _, Nat.zero_le _⟩ rfl hl.1 rfl (Nat.le_of_ble_eq_true rfl) d_T_flushTablet_15 (fun H locs V => ?_)
  refine lv_istore (lv' := [(4, .int (r6)), (3, .int (r4)), (2, .int (r2)), (0, .ref (b 0)), (1, .int (a1))]) hx hb d_T_flushTablet_18 hl (by decide) rfl (fun ls hl => ?_)
  refine lv_aload_n hx hb d_T_flushTablet_20 rfl (lv_at hl 3 rfl) ?_
  refine lv_iload_n hx hb d_T_flushTablet_21 rfl (lv_at hl 4 rfl) ?_
  obtain ⟨r8, h7, h⟩ := q_bind h
  refine x_cV_i (As := [.int (a1)]) (rest := []) G V hml (c_T_startOf l D b ad cs N σ a1 r8 h7) 0 0 rfl x_w0 g_T_223 e_T_startOf ⟨Nat.le_of_ble_eq_true rfl, Nat.le_of_ble_eq_true rfl⟩ ⟨rfl, rfl⟩ ⟨Nat.zero_le _, Nat.zero_le _⟩ rfl hl.1 rfl (Nat.le_of_ble_eq_true rfl) d_T_flushTablet_22 (fun H locs V => ?_)
  refine lv_istore (lv' := [(5, .int (r8)), (4, .int (r6)), (3, .int (r4)), (2, .int (r2)), (0, .ref (b 0)), (1, .int (a1))]) hx hb d_T_flushTablet_25 hl (by decide) rfl (fun ls hl => ?_)
  have lp27 : ∀ (u2 : Int32) (u3 : Int32) (u4 : Int32) (K : x_T → Option (Int32 × x_T)) (_ : ∀ (σ : x_T) (H : Heap) (locs : List Loc) (ls : Array Slot), K σ = some (r, σ') → lv_has ls 6 [(2, .int (u2))] → x_V D b ad cs σ A s.heap H locs → W p l e { frames := 3, cells := 0, slots := 0, locals := 68 } s m args below meth c H locs 0 0 (x_Qi below args s D b ad cs A r σ') (F0 m 65 ls [])) (n : Nat) (v5 : Int32) (σ : x_T) (H : Heap) (locs : List Loc) (ls : Array Slot), f_T_flushTablet_L27 N u2 u3 u4 K n v5 σ = some (r, σ') → lv_has ls 6 [(0, .ref (b 0)), (2, .int (u2)), (3, .int (u3)), (4, .int (u4)), (5, .int (v5))] → x_V D b ad cs σ A s.heap H locs → W p l e { frames := 3, cells := 0, slots := 0, locals := 68 } s m args below meth c H locs 0 0 (x_Qi below args s D b ad cs A r σ') (F0 m 27 ls []) := by
    intro u2 u3 u4 K hK n
    induction n with
    | zero => intro v5 σ H locs ls h hl V; cases h
    | succ n ih =>
      intro v5 σ H locs ls h hl V
      rw [f_T_flushTablet_L27] at h
      refine lv_iload hx hb d_T_flushTablet_27 (lv_at hl 4 rfl) ?_
      refine lv_iload hx hb d_T_flushTablet_29 (lv_at hl 3 rfl) ?_
      refine lv_icmp_ge (tgt := 65) hx hb d_T_flushTablet_31 (by decide) (fun hc => ?_) (fun hc => ?_)
      · replace h := q_ifp hc h
        exact hK _ _ _ ls h (lv_sub hl [1] rfl) V
      · replace h := q_ifn hc h
        refine lv_aload_n hx hb d_T_flushTablet_34 rfl (lv_at hl 0 rfl) ?_
        refine x_get (v := .ref (b 3)) G V 0 0 3 x_w0 rfl in_T (by decide) k_T_22 rfl d_T_flushTablet_35 ?_
        refine lv_iload hx hb d_T_flushTablet_38 (lv_at hl 4 rfl) ?_
        obtain ⟨g9, h⟩ := q_gd_h h
        refine x_aald G V g9 d_T_flushTablet_40 (fun hE => ?_) (fun k10 hE => ?_)
        · replace h := q_omn hE h
          cases h
        · replace h := q_oms hE h
          obtain ⟨b11, h⟩ := q_gd_h h
          replace b11 := q_lt_h b11
          refine x_getN (v := .int (x_P σ k10 8)) G V (15 + k10) 1 8 (x_wE b11) rfl in_E (by decide) k_T_226 rfl d_T_flushTablet_41 ?_
          refine lv_iconst (v := (-1)) hx hb d_T_flushTablet_44 (by decide) ?_
          refine lv_icmp_ne (tgt := 59) hx hb d_T_flushTablet_45 (by decide) (fun hc => ?_) (fun hc => ?_)
          · replace h := q_ifn hc h
            refine lv_iinc (k := 4) (v := v5 + 1) (lv' := [(5, .int (v5 + 1)), (0, .ref (b 0)), (2, .int (u2)), (3, .int (u3)), (4, .int (u4))]) hx hb d_T_flushTablet_59 hl rfl rfl (by decide) rfl (fun ls hl => ?_)
            refine lv_goto (tgt := 27) hx hb d_T_flushTablet_62 (by decide) ?_
            exact ih _ _ _ _ ls h (lv_sub hl [1, 2, 3, 4, 0] rfl) V
          · replace h := q_ifp hc h
            refine lv_aload_n hx hb d_T_flushTablet_48 rfl (lv_at hl 0 rfl) ?_
            refine x_get (v := .ref (b 3)) G V 0 0 3 x_w0 rfl in_T (by decide) k_T_22 rfl d_T_flushTablet_49 ?_
            refine lv_iload hx hb d_T_flushTablet_52 (lv_at hl 4 rfl) ?_
            obtain ⟨g12, h⟩ := q_gd_h h
            refine x_aald G V g12 d_T_flushTablet_54 (fun hE => ?_) (fun k13 hE => ?_)
            · replace h := q_omn hE h
              cases h
            · replace h := q_oms hE h
              refine lv_iload_n hx hb d_T_flushTablet_55 rfl (lv_at hl 2 rfl) ?_
              obtain ⟨b14, h⟩ := q_gd_h h
              replace b14 := q_lt_h b14
              obtain ⟨s15, e15, h⟩ := q_let_h h
              refine x_putN (σ' := s15) (ty := .int) G V (15 + k13) 1 8 (x_wE b14) rfl in_E tt_E_ok n_E (by decide) k_T_226 rfl rfl rfl rfl (Nat.le_of_ble_eq_true rfl) (x_uE8.trans (congrArg (x_W b ad cs) e15.symm)) d_T_flushTablet_56 (fun H locs V => ?_)
              have b16 : k10 < x_N s15 := by rw [e15]; exact b11
              have b17 : k13 < x_N s15 := by rw [e15]; exact b14
              refine lv_iinc (k := 4) (v := v5 + 1) (lv' := [(5, .int (v5 + 1)), (0, .ref (b 0)), (2, .int (u2)), (3, .int (u3)), (4, .int (u4))]) hx hb d_T_flushTablet_59 hl rfl rfl (by decide) rfl (fun ls hl => ?_)
              refine lv_goto (tgt := 27) hx hb d_T_flushTablet_62 (by decide) ?_
              exact ih _ _ _ _ ls h (lv_sub hl [1, 2, 3, 4, 0] rfl) V
  replace hl := lv_sub (l' := [(0, .ref (b 0)), (2, .int (r2)), (3, .int (r4)), (4, .int (r6)), (5, .int (r8))]) hl [4, 3, 2, 1, 0] rfl
  refine lp27 _ _ _ _ ?_ _ _ _ _ _ ls h hl V
  intro t18 H locs ls h hl V
  refine lv_iload_n hx hb d_T_flushTablet_65 rfl (lv_at hl 0 rfl) ?_
  exact x_ret_i G hr hlk h V d_T_flushTablet_66

set_option maxHeartbeats 40000000 in
set_option maxRecDepth 100000 in
theorem c_T_tear (l : Launch) (D : va_G) (b ad : Nat → Nat) (cs : Nat → ClassId) (N : Nat) (σ : x_T) (σ' : x_T) (h : f_T_tear N σ = some σ') : x_Cv l y_T_tear b_T_tear 1 none { frames := 0, cells := 0, slots := 0, locals := 0 } D b ad cs σ [.ref (b 0)] σ' := by
  refine x_met_v (own := R_T) (by decide) rfl (Nat.le_of_ble_eq_true rfl) ?_
  intro p e s m args below meth c A G hr hlk hml ls hl V
  have hx := G.1
  have hb := G.2.1
  have hown := G.2.2.1
  have hts := G.2.2.2.1
  have hN := G.2.2.2.2.2
  have hl : lv_has ls 1 [(0, .ref (b 0))] := hl
  unfold f_T_tear at h
  refine lv_aload_n hx hb d_T_tear_0 rfl (lv_at hl 0 rfl) ?_
  refine lv_iconst (v := 1) hx hb d_T_tear_1 (by decide) ?_
  obtain ⟨s1, e1, h⟩ := q_let_h h
  refine x_put (σ' := s1) (ty := .boolean) G V 0 0 9 x_w0 rfl in_T tt_T_ok n_T (by decide) k_T_45 rfl rfl rfl rfl (Nat.le_of_ble_eq_true rfl) (x_uT9.trans (congrArg (x_W b ad cs) e1.symm)) d_T_tear_2 (fun H locs V => ?_)
  exact x_ret_v G hr hlk h V d_T_tear_5

set_option maxHeartbeats 40000000 in
set_option maxRecDepth 100000 in
theorem c_T_tick (l : Launch) (D : va_G) (b ad : Nat → Nat) (cs : Nat → ClassId) (N : Nat) (σ : x_T) (a1 : Int32) (r : Int32) (σ' : x_T) (h : f_T_tick N σ a1 = some (r, σ')) : x_Ci l y_T_tick b_T_tick 2 (some .int) { frames := 0, cells := 0, slots := 0, locals := 0 } D b ad cs σ [.ref (b 0), .int (a1)] r σ' := by
  refine x_met_i (own := R_T) (by decide) rfl (Nat.le_of_ble_eq_true rfl) ?_
  intro p e s m args below meth c A G hr hlk hml ls hl V
  have hx := G.1
  have hb := G.2.1
  have hown := G.2.2.1
  have hts := G.2.2.2.1
  have hN := G.2.2.2.2.2
  have hl : lv_has ls 2 [(0, .ref (b 0)), (1, .int (a1))] := hl
  unfold f_T_tick at h
  refine lv_iload_n hx hb d_T_tick_0 rfl (lv_at hl 1 rfl) ?_
  refine lv_if_lt (tgt := 21) hx hb d_T_tick_1 (by decide) (fun hc => ?_) (fun hc => ?_)
  · replace h := q_ifp hc h
    refine lv_aload_n hx hb d_T_tick_21 rfl (lv_at hl 0 rfl) ?_
    refine x_get (v := .int (x_S σ 2)) G V 0 0 2 x_w0 rfl in_T (by decide) k_T_16 rfl d_T_tick_22 ?_
    exact x_ret_i G hr hlk h V d_T_tick_25
  · replace h := q_ifn hc h
    refine lv_iload_n hx hb d_T_tick_4 rfl (lv_at hl 1 rfl) ?_
    refine lv_sipush (v := 5000) hx hb d_T_tick_5 (by decide) ?_
    refine lv_icmp_gt (tgt := 21) hx hb d_T_tick_8 (by decide) (fun hc => ?_) (fun hc => ?_)
    · replace h := q_ifp hc h
      refine lv_aload_n hx hb d_T_tick_21 rfl (lv_at hl 0 rfl) ?_
      refine x_get (v := .int (x_S σ 2)) G V 0 0 2 x_w0 rfl in_T (by decide) k_T_16 rfl d_T_tick_22 ?_
      exact x_ret_i G hr hlk h V d_T_tick_25
    · replace h := q_ifn hc h
      refine lv_aload_n hx hb d_T_tick_11 rfl (lv_at hl 0 rfl) ?_
      refine lv_dup hx hb d_T_tick_12 rfl ?_
      refine x_get (v := .int (x_S σ 2)) G V 0 0 2 x_w0 rfl in_T (by decide) k_T_16 rfl d_T_tick_13 ?_
      refine lv_iload_n hx hb d_T_tick_16 rfl (lv_at hl 1 rfl) ?_
      refine lv_iadd hx hb d_T_tick_17 ?_
      obtain ⟨s1, e1, h⟩ := q_let_h h
      refine x_put (σ' := s1) (ty := .int) G V 0 0 2 x_w0 rfl in_T tt_T_ok n_T (by decide) k_T_16 rfl rfl rfl rfl (Nat.le_of_ble_eq_true rfl) (x_uT2.trans (congrArg (x_W b ad cs) e1.symm)) d_T_tick_18 (fun H locs V => ?_)
      refine lv_aload_n hx hb d_T_tick_21 rfl (lv_at hl 0 rfl) ?_
      refine x_get (v := .int (x_S s1 2)) G V 0 0 2 x_w0 rfl in_T (by decide) k_T_16 rfl d_T_tick_22 ?_
      exact x_ret_i G hr hlk h V d_T_tick_25

set_option maxHeartbeats 40000000 in
set_option maxRecDepth 100000 in
theorem c_S_begin (l : Launch) (D : va_G) (b ad : Nat → Nat) (cs : Nat → ClassId) (N : Nat) (σ : x_T) (a1 : Int32) (σ' : x_T) (h : f_S_begin N σ a1 = some σ') : x_Cv l y_S_begin b_S_begin 3 none { frames := 0, cells := 0, slots := 0, locals := 0 } D b ad cs σ [.ref (b 11), .int (a1)] σ' := by
  refine x_met_v (own := R_S) (by decide) rfl (Nat.le_of_ble_eq_true rfl) ?_
  intro p e s m args below meth c A G hr hlk hml ls hl V
  have hx := G.1
  have hb := G.2.1
  have hown := G.2.2.1
  have hts := G.2.2.2.1
  have hN := G.2.2.2.2.2
  have hl : lv_has ls 3 [(0, .ref (b 11)), (1, .int (a1))] := hl
  unfold f_S_begin at h
  refine lv_iconst (v := 0) hx hb d_S_begin_0 (by decide) ?_
  refine lv_istore_n (lv' := [(2, .int (0)), (0, .ref (b 11)), (1, .int (a1))]) hx hb d_S_begin_1 rfl hl (by decide) rfl (fun ls hl => ?_)
  have lp2 : ∀ (u1 : Int32) (K : x_T → Option x_T) (_ : ∀ (σ : x_T) (H : Heap) (locs : List Loc) (ls : Array Slot), K σ = some σ' → lv_has ls 3 [(0, .ref (b 11)), (1, .int (u1))] → x_V D b ad cs σ A s.heap H locs → W p l e { frames := 0, cells := 0, slots := 0, locals := 0 } s m args below meth c H locs 0 0 (x_Qv below args s D b ad cs A σ') (F0 m 37 ls [])) (n : Nat) (v2 : Int32) (σ : x_T) (H : Heap) (locs : List Loc) (ls : Array Slot), f_S_begin_L2 N u1 K n v2 σ = some σ' → lv_has ls 3 [(0, .ref (b 11)), (1, .int (u1)), (2, .int (v2))] → x_V D b ad cs σ A s.heap H locs → W p l e { frames := 0, cells := 0, slots := 0, locals := 0 } s m args below meth c H locs 0 0 (x_Qv below args s D b ad cs A σ') (F0 m 2 ls []) := by
    intro u1 K hK n
    induction n with
    | zero => intro v2 σ H locs ls h hl V; cases h
    | succ n ih =>
      intro v2 σ H locs ls h hl V
      rw [f_S_begin_L2] at h
      refine lv_iload_n hx hb d_S_begin_2 rfl (lv_at hl 2 rfl) ?_
      refine lv_aload_n hx hb d_S_begin_3 rfl (lv_at hl 0 rfl) ?_
      refine x_get (v := .int (x_S σ 41)) G V 11 3 1 x_w11 rfl in_S (by decide) k_S_15 rfl d_S_begin_4 ?_
      refine lv_icmp_ge (tgt := 37) hx hb d_S_begin_7 (by decide) (fun hc => ?_) (fun hc => ?_)
      · replace h := q_ifp hc h
        exact hK _ _ _ ls h (lv_sub hl [0, 1] rfl) V
      · replace h := q_ifn hc h
        refine lv_aload_n hx hb d_S_begin_10 rfl (lv_at hl 0 rfl) ?_
        refine x_get (v := .ref (b 12)) G V 11 3 2 x_w11 rfl in_S (by decide) k_S_18 rfl d_S_begin_11 ?_
        refine lv_iload_n hx hb d_S_begin_14 rfl (lv_at hl 2 rfl) ?_
        refine lv_lconst (v := 0) hx hb d_S_begin_15 (by decide) ?_
        obtain ⟨g1, h⟩ := q_gd_h h
        obtain ⟨s2, e2, h⟩ := q_let_h h
        refine x_last (σ' := s2) G V 12 x_w12 (x_u12.trans (congrArg (x_W b ad cs) e2.symm)) g1 d_S_begin_16 (fun H locs V => ?_)
        refine lv_aload_n hx hb d_S_begin_17 rfl (lv_at hl 0 rfl) ?_
        refine x_get (v := .ref (b 13)) G V 11 3 3 x_w11 rfl in_S (by decide) k_S_22 rfl d_S_begin_18 ?_
        refine lv_iload_n hx hb d_S_begin_21 rfl (lv_at hl 2 rfl) ?_
        refine lv_iconst (v := 0) hx hb d_S_begin_22 (by decide) ?_
        obtain ⟨g3, h⟩ := q_gd_h h
        obtain ⟨s4, e4, h⟩ := q_let_h h
        refine x_iast (σ' := s4) G V 13 x_w13 (x_u13.trans (congrArg (x_W b ad cs) e4.symm)) g3 d_S_begin_23 (fun H locs V => ?_)
        refine lv_aload_n hx hb d_S_begin_24 rfl (lv_at hl 0 rfl) ?_
        refine x_get (v := .ref (b 14)) G V 11 3 4 x_w11 rfl in_S (by decide) k_S_26 rfl d_S_begin_25 ?_
        refine lv_iload_n hx hb d_S_begin_28 rfl (lv_at hl 2 rfl) ?_
        refine lv_iconst (v := 0) hx hb d_S_begin_29 (by decide) ?_
        obtain ⟨g5, h⟩ := q_gd_h h
        obtain ⟨s6, e6, h⟩ := q_let_h h
        refine x_iast (σ' := s6) G V 14 x_w14 (x_u14.trans (congrArg (x_W b ad cs) e6.symm)) g5 d_S_begin_30 (fun H locs V => ?_)
        refine lv_iinc (k := 2) (v := v2 + 1) (lv' := [(2, .int (v2 + 1)), (0, .ref (b 11)), (1, .int (u1))]) hx hb d_S_begin_31 hl rfl rfl (by decide) rfl (fun ls hl => ?_)
        refine lv_goto (tgt := 2) hx hb d_S_begin_34 (by decide) ?_
        exact ih _ _ _ _ ls h (lv_sub hl [1, 2, 0] rfl) V
  replace hl := lv_sub (l' := [(0, .ref (b 11)), (1, .int (a1)), (2, .int (0))]) hl [1, 2, 0] rfl
  refine lp2 _ _ ?_ _ _ _ _ _ ls h hl V
  intro t7 H locs ls h hl V
  refine lv_aload_n hx hb d_S_begin_37 rfl (lv_at hl 0 rfl) ?_
  refine lv_iload_n hx hb d_S_begin_38 rfl (lv_at hl 1 rfl) ?_
  obtain ⟨s8, e8, h⟩ := q_let_h h
  refine x_put (σ' := s8) (ty := .int) G V 11 3 0 x_w11 rfl in_S tt_S_ok n_S (by decide) k_S_9 rfl rfl rfl rfl (Nat.le_of_ble_eq_true rfl) (x_uS0.trans (congrArg (x_W b ad cs) e8.symm)) d_S_begin_39 (fun H locs V => ?_)
  refine lv_aload_n hx hb d_S_begin_42 rfl (lv_at hl 0 rfl) ?_
  refine lv_iconst (v := 0) hx hb d_S_begin_43 (by decide) ?_
  obtain ⟨s9, e9, h⟩ := q_let_h h
  refine x_put (σ' := s9) (ty := .int) G V 11 3 1 x_w11 rfl in_S tt_S_ok n_S (by decide) k_S_15 rfl rfl rfl rfl (Nat.le_of_ble_eq_true rfl) (x_uS1.trans (congrArg (x_W b ad cs) e9.symm)) d_S_begin_44 (fun H locs V => ?_)
  exact x_ret_v G hr hlk h V d_S_begin_47

set_option maxHeartbeats 40000000 in
set_option maxRecDepth 100000 in
theorem c_S_bitsOf (l : Launch) (a1 : Int32) (r : Int64) (h : f_S_bitsOf a1 = some r) : q_Cl l y_S_bitsOf b_S_bitsOf 1 (some .long) { frames := 0, cells := 0, slots := 0, locals := 0 } [.int (a1)] r := by
  refine q_met_l (own := R_S) (by decide) rfl (Nat.le_of_ble_eq_true rfl) ?_
  intro p e s m args below meth c G hr hlk hml ls hl
  have hx := G.1
  have hb := G.2.1
  have hown := G.2.2.1
  have hts := G.2.2.2.1
  have hN := G.2.2.2.2
  have hl : lv_has ls 1 [(0, .int (a1))] := hl
  unfold f_S_bitsOf at h
  refine lv_lconst (v := 1) hx hb d_S_bitsOf_0 (by decide) ?_
  refine lv_bipush (v := 7) hx hb d_S_bitsOf_1 (by decide) ?_
  refine lv_iload_n hx hb d_S_bitsOf_3 rfl (lv_at hl 0 rfl) ?_
  refine lv_imul hx hb d_S_bitsOf_4 ?_
  refine lv_iconst (v := 3) hx hb d_S_bitsOf_5 (by decide) ?_
  refine lv_iadd hx hb d_S_bitsOf_6 ?_
  refine lv_bipush (v := 64) hx hb d_S_bitsOf_7 (by decide) ?_
  refine lv_irem hx hb d_S_bitsOf_9 (by decide) ?_
  refine lv_lshl (v := (1 : Int64) <<< ((((7 * a1) + 3) - ((7 * a1) + 3) / 64 * 64 : Int32).toInt64 &&& 63)) hx hb d_S_bitsOf_10 rfl ?_
  refine lv_lconst (v := 1) hx hb d_S_bitsOf_11 (by decide) ?_
  refine lv_bipush (v := 13) hx hb d_S_bitsOf_12 (by decide) ?_
  refine lv_iload_n hx hb d_S_bitsOf_14 rfl (lv_at hl 0 rfl) ?_
  refine lv_imul hx hb d_S_bitsOf_15 ?_
  refine lv_bipush (v := 29) hx hb d_S_bitsOf_16 (by decide) ?_
  refine lv_iadd hx hb d_S_bitsOf_18 ?_
  refine lv_bipush (v := 64) hx hb d_S_bitsOf_19 (by decide) ?_
  refine lv_irem hx hb d_S_bitsOf_21 (by decide) ?_
  refine lv_lshl (v := (1 : Int64) <<< ((((13 * a1) + 29) - ((13 * a1) + 29) / 64 * 64 : Int32).toInt64 &&& 63)) hx hb d_S_bitsOf_22 rfl ?_
  refine lv_lor hx hb d_S_bitsOf_23 ?_
  exact q_ret_l G hr hlk h d_S_bitsOf_24

set_option maxHeartbeats 40000000 in
set_option maxRecDepth 100000 in
theorem c_S_pass (l : Launch) (D : va_G) (b ad : Nat → Nat) (cs : Nat → ClassId) (N : Nat) (σ : x_T) (a1 : Int32) (a2 : Int32) (σ' : x_T) (h : f_S_pass N σ a1 a2 = some σ') : x_Cv l y_S_pass b_S_pass 3 none { frames := 1, cells := 0, slots := 0, locals := 24 } D b ad cs σ [.ref (b 11), .int (a1), .int (a2)] σ' := by
  refine x_met_v (own := R_S) (by decide) rfl (Nat.le_of_ble_eq_true rfl) ?_
  intro p e s m args below meth c A G hr hlk hml ls hl V
  have hx := G.1
  have hb := G.2.1
  have hown := G.2.2.1
  have hts := G.2.2.2.1
  have hN := G.2.2.2.2.2
  have hl : lv_has ls 3 [(0, .ref (b 11)), (1, .int (a1)), (2, .int (a2))] := hl
  unfold f_S_pass at h
  refine lv_iload_n hx hb d_S_pass_0 rfl (lv_at hl 1 rfl) ?_
  refine lv_if_lt (tgt := 11) hx hb d_S_pass_1 (by decide) (fun hc => ?_) (fun hc => ?_)
  · replace h := q_ifp hc h
    exact x_ret_v G hr hlk h V d_S_pass_11
  · replace h := q_ifn hc h
    refine lv_iload_n hx hb d_S_pass_4 rfl (lv_at hl 1 rfl) ?_
    refine lv_sipush (v := 247) hx hb d_S_pass_5 (by decide) ?_
    refine lv_icmp_lt (tgt := 12) hx hb d_S_pass_8 (by decide) (fun hc => ?_) (fun hc => ?_)
    · replace h := q_ifp hc h
      refine lv_aload_n hx hb d_S_pass_12 rfl (lv_at hl 0 rfl) ?_
      refine lv_aload_n hx hb d_S_pass_13 rfl (lv_at hl 0 rfl) ?_
      refine x_get (v := .int (x_S σ 41)) G V 11 3 1 x_w11 rfl in_S (by decide) k_S_15 rfl d_S_pass_14 ?_
      refine lv_iload_n hx hb d_S_pass_17 rfl (lv_at hl 1 rfl) ?_
      refine lv_iconst (v := 1) hx hb d_S_pass_18 (by decide) ?_
      refine lv_iadd hx hb d_S_pass_19 ?_
      refine va_mmax hx hb (hml.trans hl.1.symm) hown (hts _ k_S_29) (hts _ k_st_max) (hts _ k_in_Math) (hts _ k_co_max) (Nat.le_of_ble_eq_true rfl) (Nat.le_of_ble_eq_true rfl) (Nat.zero_le _) (Nat.zero_le _) d_S_pass_20 ?_
      obtain ⟨s1, e1, h⟩ := q_let_h h
      refine x_put (σ' := s1) (ty := .int) G V 11 3 1 x_w11 rfl in_S tt_S_ok n_S (by decide) k_S_15 rfl rfl rfl rfl (Nat.le_of_ble_eq_true rfl) (x_uS1.trans (congrArg (x_W b ad cs) e1.symm)) d_S_pass_23 (fun H locs V => ?_)
      refine lv_aload_n hx hb d_S_pass_26 rfl (lv_at hl 0 rfl) ?_
      refine x_get (v := .ref (b 12)) G V 11 3 2 x_w11 rfl in_S (by decide) k_S_18 rfl d_S_pass_27 ?_
      refine lv_iload_n hx hb d_S_pass_30 rfl (lv_at hl 1 rfl) ?_
      refine lv_dup2_11 hx hb d_S_pass_31 rfl rfl ?_
      obtain ⟨g2, h⟩ := q_gd_h h
      refine x_lald G V 12 x_w12 g2 d_S_pass_32 ?_
      refine lv_iload_n hx hb d_S_pass_33 rfl (lv_at hl 2 rfl) ?_
      obtain ⟨r4, h3, h⟩ := q_bind h
      refine q_cS_l (As := [.int (a2)]) (rest := [.long (x_L s1 12 ((a1 : Int32).toNatClampNeg)), .int (a1), .ref (b 12)]) hx hb hown hts hN hml (c_S_bitsOf l a2 r4 h3) g_S_35 e_S_bitsOf ⟨Nat.le_of_ble_eq_true rfl, Nat.le_of_ble_eq_true rfl⟩ ⟨rfl, rfl⟩ ⟨Nat.zero_le _, Nat.zero_le _⟩ rfl hl.1 rfl (Nat.le_of_ble_eq_true rfl) d_S_pass_34 ?_
      refine lv_lor hx hb d_S_pass_37 ?_
      obtain ⟨g5, h⟩ := q_gd_h h
      obtain ⟨s6, e6, h⟩ := q_let_h h
      refine x_last (σ' := s6) G V 12 x_w12 (x_u12.trans (congrArg (x_W b ad cs) e6.symm)) g5 d_S_pass_38 (fun H locs V => ?_)
      refine lv_iload_n hx hb d_S_pass_39 rfl (lv_at hl 2 rfl) ?_
      refine lv_aload_n hx hb d_S_pass_40 rfl (lv_at hl 0 rfl) ?_
      refine x_get (v := .int (x_S s6 40)) G V 11 3 0 x_w11 rfl in_S (by decide) k_S_9 rfl d_S_pass_41 ?_
      refine lv_icmp_ge (tgt := 60) hx hb d_S_pass_44 (by decide) (fun hc => ?_) (fun hc => ?_)
      · replace h := q_ifp hc h
        refine lv_iload_n hx hb d_S_pass_60 rfl (lv_at hl 2 rfl) ?_
        refine lv_aload_n hx hb d_S_pass_61 rfl (lv_at hl 0 rfl) ?_
        refine x_get (v := .int (x_S s6 40)) G V 11 3 0 x_w11 rfl in_S (by decide) k_S_9 rfl d_S_pass_62 ?_
        refine lv_icmp_ne (tgt := 78) hx hb d_S_pass_65 (by decide) (fun hc => ?_) (fun hc => ?_)
        · replace h := q_ifn hc h
          exact x_ret_v G hr hlk h V d_S_pass_78
        · replace h := q_ifp hc h
          refine lv_aload_n hx hb d_S_pass_68 rfl (lv_at hl 0 rfl) ?_
          refine x_get (v := .ref (b 14)) G V 11 3 4 x_w11 rfl in_S (by decide) k_S_26 rfl d_S_pass_69 ?_
          refine lv_iload_n hx hb d_S_pass_72 rfl (lv_at hl 1 rfl) ?_
          refine lv_dup2_11 hx hb d_S_pass_73 rfl rfl ?_
          obtain ⟨g7, h⟩ := q_gd_h h
          refine x_iald G V 14 x_w14 g7 d_S_pass_74 ?_
          refine lv_iconst (v := 1) hx hb d_S_pass_75 (by decide) ?_
          refine lv_iadd hx hb d_S_pass_76 ?_
          obtain ⟨g8, h⟩ := q_gd_h h
          obtain ⟨s9, e9, h⟩ := q_let_h h
          refine x_iast (σ' := s9) G V 14 x_w14 (x_u14.trans (congrArg (x_W b ad cs) e9.symm)) g8 d_S_pass_77 (fun H locs V => ?_)
          exact x_ret_v G hr hlk h V d_S_pass_78
      · replace h := q_ifn hc h
        refine lv_aload_n hx hb d_S_pass_47 rfl (lv_at hl 0 rfl) ?_
        refine x_get (v := .ref (b 13)) G V 11 3 3 x_w11 rfl in_S (by decide) k_S_22 rfl d_S_pass_48 ?_
        refine lv_iload_n hx hb d_S_pass_51 rfl (lv_at hl 1 rfl) ?_
        refine lv_dup2_11 hx hb d_S_pass_52 rfl rfl ?_
        obtain ⟨g10, h⟩ := q_gd_h h
        refine x_iald G V 13 x_w13 g10 d_S_pass_53 ?_
        refine lv_iconst (v := 1) hx hb d_S_pass_54 (by decide) ?_
        refine lv_iadd hx hb d_S_pass_55 ?_
        obtain ⟨g11, h⟩ := q_gd_h h
        obtain ⟨s12, e12, h⟩ := q_let_h h
        refine x_iast (σ' := s12) G V 13 x_w13 (x_u13.trans (congrArg (x_W b ad cs) e12.symm)) g11 d_S_pass_56 (fun H locs V => ?_)
        refine lv_goto (tgt := 78) hx hb d_S_pass_57 (by decide) ?_
        exact x_ret_v G hr hlk h V d_S_pass_78
    · replace h := q_ifn hc h
      exact x_ret_v G hr hlk h V d_S_pass_11

set_option maxHeartbeats 40000000 in
set_option maxRecDepth 100000 in
theorem c_S_blocksOfRow (l : Launch) (D : va_G) (b ad : Nat → Nat) (cs : Nat → ClassId) (N : Nat) (σ : x_T) (a1 : Int32) (r : Int32) (h : f_S_blocksOfRow N σ a1 = some r) : x_Ci l y_S_blocksOfRow b_S_blocksOfRow 4 (some .int) { frames := 0, cells := 0, slots := 0, locals := 0 } D b ad cs σ [.ref (b 11), .int (a1)] r σ := by
  refine x_met_i (own := R_S) (by decide) rfl (Nat.le_of_ble_eq_true rfl) ?_
  intro p e s m args below meth c A G hr hlk hml ls hl V
  have hx := G.1
  have hb := G.2.1
  have hown := G.2.2.1
  have hts := G.2.2.2.1
  have hN := G.2.2.2.2.2
  have hl : lv_has ls 4 [(0, .ref (b 11)), (1, .int (a1))] := hl
  unfold f_S_blocksOfRow at h
  refine lv_aload_n hx hb d_S_blocksOfRow_0 rfl (lv_at hl 0 rfl) ?_
  refine x_get (v := .ref (b 13)) G V 11 3 3 x_w11 rfl in_S (by decide) k_S_22 rfl d_S_blocksOfRow_1 ?_
  refine lv_iload_n hx hb d_S_blocksOfRow_4 rfl (lv_at hl 1 rfl) ?_
  obtain ⟨g1, h⟩ := q_gd_h h
  refine x_iald G V 13 x_w13 g1 d_S_blocksOfRow_5 ?_
  refine lv_iconst (v := 4) hx hb d_S_blocksOfRow_6 (by decide) ?_
  refine lv_idiv hx hb d_S_blocksOfRow_7 (by decide) ?_
  refine lv_istore_n (lv' := [(2, .int ((x_I σ 13 ((a1 : Int32).toNatClampNeg)) / 4)), (0, .ref (b 11)), (1, .int (a1))]) hx hb d_S_blocksOfRow_8 rfl hl (by decide) rfl (fun ls hl => ?_)
  refine lv_aload_n hx hb d_S_blocksOfRow_9 rfl (lv_at hl 1 rfl) ?_
  refine x_get (v := .ref (b 13)) G V 11 3 3 x_w11 rfl in_S (by decide) k_S_22 rfl d_S_blocksOfRow_10 ?_
  refine lv_iload_n hx hb d_S_blocksOfRow_13 rfl (lv_at hl 2 rfl) ?_
  obtain ⟨g2, h⟩ := q_gd_h h
  refine x_iald G V 13 x_w13 g2 d_S_blocksOfRow_14 ?_
  refine lv_aload_n hx hb d_S_blocksOfRow_15 rfl (lv_at hl 1 rfl) ?_
  refine x_get (v := .ref (b 14)) G V 11 3 4 x_w11 rfl in_S (by decide) k_S_26 rfl d_S_blocksOfRow_16 ?_
  refine lv_iload_n hx hb d_S_blocksOfRow_19 rfl (lv_at hl 2 rfl) ?_
  obtain ⟨g3, h⟩ := q_gd_h h
  refine x_iald G V 14 x_w14 g3 d_S_blocksOfRow_20 ?_
  refine lv_iadd hx hb d_S_blocksOfRow_21 ?_
  refine lv_iconst (v := 1) hx hb d_S_blocksOfRow_22 (by decide) ?_
  refine lv_isub hx hb d_S_blocksOfRow_23 ?_
  refine lv_iconst (v := 4) hx hb d_S_blocksOfRow_24 (by decide) ?_
  refine lv_idiv hx hb d_S_blocksOfRow_25 (by decide) ?_
  refine lv_istore_n (lv' := [(3, .int ((((x_I σ 13 ((a1 : Int32).toNatClampNeg)) + (x_I σ 14 ((a1 : Int32).toNatClampNeg))) - 1) / 4)), (2, .int ((x_I σ 13 ((a1 : Int32).toNatClampNeg)) / 4)), (0, .ref (b 11)), (1, .int (a1))]) hx hb d_S_blocksOfRow_26 rfl hl (by decide) rfl (fun ls hl => ?_)
  refine lv_iload_n hx hb d_S_blocksOfRow_27 rfl (lv_at hl 0 rfl) ?_
  refine lv_iload_n hx hb d_S_blocksOfRow_28 rfl (lv_at hl 1 rfl) ?_
  refine lv_isub hx hb d_S_blocksOfRow_29 ?_
  refine lv_iconst (v := 1) hx hb d_S_blocksOfRow_30 (by decide) ?_
  refine lv_iadd hx hb d_S_blocksOfRow_31 ?_
  exact x_pret_i G hr hlk h rfl V d_S_blocksOfRow_32
