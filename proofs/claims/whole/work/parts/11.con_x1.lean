set_option maxHeartbeats 40000000 in
set_option maxRecDepth 100000 in
theorem c_T_isRow (l : Launch) (a1 : Int32) (r : Int32) (h : f_T_isRow a1 = some r) : q_Ci l y_T_isRow b_T_isRow 1 (some .boolean) { frames := 0, cells := 0, slots := 0, locals := 0 } [.int (a1)] r := by
  refine q_met_i (own := R_T) (by decide) rfl (Nat.le_of_ble_eq_true rfl) ?_
  intro p e s m args below meth c G hr hlk hml ls hl
  have hx := G.1
  have hb := G.2.1
  have hown := G.2.2.1
  have hts := G.2.2.2.1
  have hN := G.2.2.2.2
  have hl : lv_has ls 1 [(0, .int (a1))] := hl
  unfold f_T_isRow at h
  refine lv_iload_n hx hb d_T_isRow_0 rfl (lv_at hl 0 rfl) ?_
  refine lv_if_lt (tgt := 14) hx hb d_T_isRow_1 (by decide) (fun hc => ?_) (fun hc => ?_)
  · replace h := q_ifp hc h
    refine lv_iconst (v := 0) hx hb d_T_isRow_14 (by decide) ?_
    exact q_zret_i G hr hlk rfl h d_T_isRow_15
  · replace h := q_ifn hc h
    refine lv_iload_n hx hb d_T_isRow_4 rfl (lv_at hl 0 rfl) ?_
    refine lv_bipush (v := 64) hx hb d_T_isRow_5 (by decide) ?_
    refine lv_icmp_ge (tgt := 14) hx hb d_T_isRow_7 (by decide) (fun hc => ?_) (fun hc => ?_)
    · replace h := q_ifp hc h
      refine lv_iconst (v := 0) hx hb d_T_isRow_14 (by decide) ?_
      exact q_zret_i G hr hlk rfl h d_T_isRow_15
    · replace h := q_ifn hc h
      refine lv_iconst (v := 1) hx hb d_T_isRow_10 (by decide) ?_
      refine lv_goto (tgt := 15) hx hb d_T_isRow_11 (by decide) ?_
      exact q_zret_i G hr hlk rfl h d_T_isRow_15

set_option maxHeartbeats 40000000 in
set_option maxRecDepth 100000 in
theorem c_T_isColumn (l : Launch) (a1 : Int32) (r : Int32) (h : f_T_isColumn a1 = some r) : q_Ci l y_T_isColumn b_T_isColumn 1 (some .boolean) { frames := 0, cells := 0, slots := 0, locals := 0 } [.int (a1)] r := by
  refine q_met_i (own := R_T) (by decide) rfl (Nat.le_of_ble_eq_true rfl) ?_
  intro p e s m args below meth c G hr hlk hml ls hl
  have hx := G.1
  have hb := G.2.1
  have hown := G.2.2.1
  have hts := G.2.2.2.1
  have hN := G.2.2.2.2
  have hl : lv_has ls 1 [(0, .int (a1))] := hl
  unfold f_T_isColumn at h
  refine lv_iload_n hx hb d_T_isColumn_0 rfl (lv_at hl 0 rfl) ?_
  refine lv_if_lt (tgt := 14) hx hb d_T_isColumn_1 (by decide) (fun hc => ?_) (fun hc => ?_)
  · replace h := q_ifp hc h
    refine lv_iconst (v := 0) hx hb d_T_isColumn_14 (by decide) ?_
    exact q_zret_i G hr hlk rfl h d_T_isColumn_15
  · replace h := q_ifn hc h
    refine lv_iload_n hx hb d_T_isColumn_4 rfl (lv_at hl 0 rfl) ?_
    refine lv_bipush (v := 8) hx hb d_T_isColumn_5 (by decide) ?_
    refine lv_icmp_ge (tgt := 14) hx hb d_T_isColumn_7 (by decide) (fun hc => ?_) (fun hc => ?_)
    · replace h := q_ifp hc h
      refine lv_iconst (v := 0) hx hb d_T_isColumn_14 (by decide) ?_
      exact q_zret_i G hr hlk rfl h d_T_isColumn_15
    · replace h := q_ifn hc h
      refine lv_iconst (v := 1) hx hb d_T_isColumn_10 (by decide) ?_
      refine lv_goto (tgt := 15) hx hb d_T_isColumn_11 (by decide) ?_
      exact q_zret_i G hr hlk rfl h d_T_isColumn_15

set_option maxHeartbeats 40000000 in
set_option maxRecDepth 100000 in
theorem c_T_isTime (l : Launch) (a1 : Int32) (r : Int32) (h : f_T_isTime a1 = some r) : q_Ci l y_T_isTime b_T_isTime 1 (some .boolean) { frames := 0, cells := 0, slots := 0, locals := 0 } [.int (a1)] r := by
  refine q_met_i (own := R_T) (by decide) rfl (Nat.le_of_ble_eq_true rfl) ?_
  intro p e s m args below meth c G hr hlk hml ls hl
  have hx := G.1
  have hb := G.2.1
  have hown := G.2.2.1
  have hts := G.2.2.2.1
  have hN := G.2.2.2.2
  have hl : lv_has ls 1 [(0, .int (a1))] := hl
  unfold f_T_isTime at h
  refine lv_iload_n hx hb d_T_isTime_0 rfl (lv_at hl 0 rfl) ?_
  refine lv_if_lt (tgt := 15) hx hb d_T_isTime_1 (by decide) (fun hc => ?_) (fun hc => ?_)
  · replace h := q_ifp hc h
    refine lv_iconst (v := 0) hx hb d_T_isTime_15 (by decide) ?_
    exact q_zret_i G hr hlk rfl h d_T_isTime_16
  · replace h := q_ifn hc h
    refine lv_iload_n hx hb d_T_isTime_4 rfl (lv_at hl 0 rfl) ?_
    refine lv_sipush (v := 10000) hx hb d_T_isTime_5 (by decide) ?_
    refine lv_icmp_ge (tgt := 15) hx hb d_T_isTime_8 (by decide) (fun hc => ?_) (fun hc => ?_)
    · replace h := q_ifp hc h
      refine lv_iconst (v := 0) hx hb d_T_isTime_15 (by decide) ?_
      exact q_zret_i G hr hlk rfl h d_T_isTime_16
    · replace h := q_ifn hc h
      refine lv_iconst (v := 1) hx hb d_T_isTime_11 (by decide) ?_
      refine lv_goto (tgt := 16) hx hb d_T_isTime_12 (by decide) ?_
      exact q_zret_i G hr hlk rfl h d_T_isTime_16

set_option maxHeartbeats 40000000 in
set_option maxRecDepth 100000 in
theorem c_B_takes (l : Launch) (D : va_G) (b ad : Nat → Nat) (cs : Nat → ClassId) (N : Nat) (σ : x_T) (a1 : Int32) (r : Int32) (h : f_B_takes N σ a1 = some r) : x_Ci l y_B_takes b_B_takes 2 (some .boolean) { frames := 0, cells := 0, slots := 0, locals := 0 } D b ad cs σ [.ref (b 5), .int (a1)] r σ := by
  refine x_met_i (own := R_B) (by decide) rfl (Nat.le_of_ble_eq_true rfl) ?_
  intro p e s m args below meth c A G hr hlk hml ls hl V
  have hx := G.1
  have hb := G.2.1
  have hown := G.2.2.1
  have hts := G.2.2.2.1
  have hN := G.2.2.2.2.2
  have hl : lv_has ls 2 [(0, .ref (b 5)), (1, .int (a1))] := hl
  unfold f_B_takes at h
  refine lv_aload_n hx hb d_B_takes_0 rfl (lv_at hl 0 rfl) ?_
  refine x_get (v := .int (x_S σ 21)) G V 5 2 1 x_w5 rfl in_B (by decide) k_B_15 rfl d_B_takes_1 ?_
  refine lv_if_eq (tgt := 23) hx hb d_B_takes_4 (by decide) (fun hc => ?_) (fun hc => ?_)
  · replace h := q_ifp hc h
    refine lv_iconst (v := 1) hx hb d_B_takes_23 (by decide) ?_
    refine lv_goto (tgt := 28) hx hb d_B_takes_24 (by decide) ?_
    exact x_zpret_i G hr hlk rfl h rfl V d_B_takes_28
  · replace h := q_ifn hc h
    refine lv_aload_n hx hb d_B_takes_7 rfl (lv_at hl 0 rfl) ?_
    refine x_get (v := .int (x_S σ 21)) G V 5 2 1 x_w5 rfl in_B (by decide) k_B_15 rfl d_B_takes_8 ?_
    refine lv_iconst (v := 4) hx hb d_B_takes_11 (by decide) ?_
    refine lv_icmp_ge (tgt := 27) hx hb d_B_takes_12 (by decide) (fun hc => ?_) (fun hc => ?_)
    · replace h := q_ifp hc h
      refine lv_iconst (v := 0) hx hb d_B_takes_27 (by decide) ?_
      exact x_zpret_i G hr hlk rfl h rfl V d_B_takes_28
    · replace h := q_ifn hc h
      refine lv_aload_n hx hb d_B_takes_15 rfl (lv_at hl 0 rfl) ?_
      refine x_get (v := .int (x_S σ 20)) G V 5 2 0 x_w5 rfl in_B (by decide) k_B_9 rfl d_B_takes_16 ?_
      refine lv_iload_n hx hb d_B_takes_19 rfl (lv_at hl 1 rfl) ?_
      refine lv_icmp_ne (tgt := 27) hx hb d_B_takes_20 (by decide) (fun hc => ?_) (fun hc => ?_)
      · replace h := q_ifn hc h
        refine lv_iconst (v := 0) hx hb d_B_takes_27 (by decide) ?_
        exact x_zpret_i G hr hlk rfl h rfl V d_B_takes_28
      · replace h := q_ifp hc h
        refine lv_iconst (v := 1) hx hb d_B_takes_23 (by decide) ?_
        refine lv_goto (tgt := 28) hx hb d_B_takes_24 (by decide) ?_
        exact x_zpret_i G hr hlk rfl h rfl V d_B_takes_28

set_option maxHeartbeats 40000000 in
set_option maxRecDepth 100000 in
theorem c_B_addChange (l : Launch) (D : va_G) (b ad : Nat → Nat) (cs : Nat → ClassId) (N : Nat) (σ : x_T) (a1 : Int32) (a2 : Int32) (a3 : Int32) (σ' : x_T) (h : f_B_addChange N σ a1 a2 a3 = some σ') : x_Cv l y_B_addChange b_B_addChange 4 none { frames := 0, cells := 0, slots := 0, locals := 0 } D b ad cs σ [.ref (b 5), .int (a1), .int (a2), .int (a3)] σ' := by
  refine x_met_v (own := R_B) (by decide) rfl (Nat.le_of_ble_eq_true rfl) ?_
  intro p e s m args below meth c A G hr hlk hml ls hl V
  have hx := G.1
  have hb := G.2.1
  have hown := G.2.2.1
  have hts := G.2.2.2.1
  have hN := G.2.2.2.2.2
  have hl : lv_has ls 4 [(0, .ref (b 5)), (1, .int (a1)), (2, .int (a2)), (3, .int (a3))] := hl
  unfold f_B_addChange at h
  refine lv_aload_n hx hb d_B_addChange_0 rfl (lv_at hl 0 rfl) ?_
  refine lv_iload_n hx hb d_B_addChange_1 rfl (lv_at hl 1 rfl) ?_
  obtain ⟨s1, e1, h⟩ := q_let_h h
  refine x_put (σ' := s1) (ty := .int) G V 5 2 0 x_w5 rfl in_B tt_B_ok n_B (by decide) k_B_9 rfl rfl rfl rfl (Nat.le_of_ble_eq_true rfl) (x_uB0.trans (congrArg (x_W b ad cs) e1.symm)) d_B_addChange_2 (fun H locs V => ?_)
  refine lv_aload_n hx hb d_B_addChange_5 rfl (lv_at hl 0 rfl) ?_
  refine x_get (v := .ref (b 6)) G V 5 2 2 x_w5 rfl in_B (by decide) k_B_18 rfl d_B_addChange_6 ?_
  refine lv_aload_n hx hb d_B_addChange_9 rfl (lv_at hl 0 rfl) ?_
  refine x_get (v := .int (x_S s1 21)) G V 5 2 1 x_w5 rfl in_B (by decide) k_B_15 rfl d_B_addChange_10 ?_
  refine lv_iload_n hx hb d_B_addChange_13 rfl (lv_at hl 2 rfl) ?_
  obtain ⟨g2, h⟩ := q_gd_h h
  obtain ⟨s3, e3, h⟩ := q_let_h h
  refine x_iast (σ' := s3) G V 6 x_w6 (x_u6.trans (congrArg (x_W b ad cs) e3.symm)) g2 d_B_addChange_14 (fun H locs V => ?_)
  refine lv_aload_n hx hb d_B_addChange_15 rfl (lv_at hl 0 rfl) ?_
  refine x_get (v := .ref (b 7)) G V 5 2 3 x_w5 rfl in_B (by decide) k_B_22 rfl d_B_addChange_16 ?_
  refine lv_aload_n hx hb d_B_addChange_19 rfl (lv_at hl 0 rfl) ?_
  refine x_get (v := .int (x_S s3 21)) G V 5 2 1 x_w5 rfl in_B (by decide) k_B_15 rfl d_B_addChange_20 ?_
  refine lv_iload_n hx hb d_B_addChange_23 rfl (lv_at hl 3 rfl) ?_
  obtain ⟨g4, h⟩ := q_gd_h h
  obtain ⟨s5, e5, h⟩ := q_let_h h
  refine x_iast (σ' := s5) G V 7 x_w7 (x_u7.trans (congrArg (x_W b ad cs) e5.symm)) g4 d_B_addChange_24 (fun H locs V => ?_)
  exact x_ret_v G hr hlk h V d_B_addChange_25

set_option maxHeartbeats 40000000 in
set_option maxRecDepth 100000 in
theorem c_B_addCell (l : Launch) (D : va_G) (b ad : Nat → Nat) (cs : Nat → ClassId) (N : Nat) (σ : x_T) (a1 : Int32) (a2 : Int32) (a3 : Int32) (a4 : Int32) (σ' : x_T) (h : f_B_addCell N σ a1 a2 a3 a4 = some σ') : x_Cv l y_B_addCell b_B_addCell 5 none { frames := 1, cells := 0, slots := 0, locals := 23 } D b ad cs σ [.ref (b 5), .int (a1), .int (a2), .int (a3), .int (a4)] σ' := by
  refine x_met_v (own := R_B) (by decide) rfl (Nat.le_of_ble_eq_true rfl) ?_
  intro p e s m args below meth c A G hr hlk hml ls hl V
  have hx := G.1
  have hb := G.2.1
  have hown := G.2.2.1
  have hts := G.2.2.2.1
  have hN := G.2.2.2.2.2
  have hl : lv_has ls 5 [(0, .ref (b 5)), (1, .int (a1)), (2, .int (a2)), (3, .int (a3)), (4, .int (a4))] := hl
  unfold f_B_addCell at h
  refine lv_aload_n hx hb d_B_addCell_0 rfl (lv_at hl 0 rfl) ?_
  refine lv_iload_n hx hb d_B_addCell_1 rfl (lv_at hl 1 rfl) ?_
  refine lv_iload_n hx hb d_B_addCell_2 rfl (lv_at hl 2 rfl) ?_
  refine lv_iload_n hx hb d_B_addCell_3 rfl (lv_at hl 3 rfl) ?_
  obtain ⟨s2, h1, h⟩ := q_bind h
  refine x_cV_v (As := [.int (a1), .int (a2), .int (a3)]) (rest := []) G V hml (c_B_addChange l D b ad cs N σ a1 a2 a3 s2 h1) 5 2 rfl x_w5 g_B_48 e_B_addChange ⟨Nat.le_of_ble_eq_true rfl, Nat.le_of_ble_eq_true rfl⟩ ⟨rfl, rfl⟩ ⟨Nat.zero_le _, Nat.zero_le _⟩ rfl hl.1 rfl (Nat.le_of_ble_eq_true rfl) d_B_addCell_4 (fun H locs V => ?_)
  refine lv_aload_n hx hb d_B_addCell_7 rfl (lv_at hl 0 rfl) ?_
  refine x_get (v := .ref (b 8)) G V 5 2 4 x_w5 rfl in_B (by decide) k_B_25 rfl d_B_addCell_8 ?_
  refine lv_aload_n hx hb d_B_addCell_11 rfl (lv_at hl 0 rfl) ?_
  refine x_get (v := .int (x_S s2 21)) G V 5 2 1 x_w5 rfl in_B (by decide) k_B_15 rfl d_B_addCell_12 ?_
  refine lv_iload hx hb d_B_addCell_15 (lv_at hl 4 rfl) ?_
  obtain ⟨g3, h⟩ := q_gd_h h
  obtain ⟨s4, e4, h⟩ := q_let_h h
  refine x_iast (σ' := s4) G V 8 x_w8 (x_u8.trans (congrArg (x_W b ad cs) e4.symm)) g3 d_B_addCell_17 (fun H locs V => ?_)
  refine lv_aload_n hx hb d_B_addCell_18 rfl (lv_at hl 0 rfl) ?_
  refine x_get (v := .ref (b 9)) G V 5 2 5 x_w5 rfl in_B (by decide) k_B_28 rfl d_B_addCell_19 ?_
  refine lv_aload_n hx hb d_B_addCell_22 rfl (lv_at hl 0 rfl) ?_
  refine x_get (v := .int (x_S s4 21)) G V 5 2 1 x_w5 rfl in_B (by decide) k_B_15 rfl d_B_addCell_23 ?_
  refine lv_iconst (v := 0) hx hb d_B_addCell_26 (by decide) ?_
  obtain ⟨g5, h⟩ := q_gd_h h
  obtain ⟨s6, e6, h⟩ := q_let_h h
  refine x_zast (σ' := s6) G V 9 x_w9 (x_u9.trans (congrArg (x_W b ad cs) e6.symm)) g5 d_B_addCell_27 (fun H locs V => ?_)
  refine lv_aload_n hx hb d_B_addCell_28 rfl (lv_at hl 0 rfl) ?_
  refine lv_dup hx hb d_B_addCell_29 rfl ?_
  refine x_get (v := .int (x_S s6 21)) G V 5 2 1 x_w5 rfl in_B (by decide) k_B_15 rfl d_B_addCell_30 ?_
  refine lv_iconst (v := 1) hx hb d_B_addCell_33 (by decide) ?_
  refine lv_iadd hx hb d_B_addCell_34 ?_
  obtain ⟨s7, e7, h⟩ := q_let_h h
  refine x_put (σ' := s7) (ty := .int) G V 5 2 1 x_w5 rfl in_B tt_B_ok n_B (by decide) k_B_15 rfl rfl rfl rfl (Nat.le_of_ble_eq_true rfl) (x_uB1.trans (congrArg (x_W b ad cs) e7.symm)) d_B_addCell_35 (fun H locs V => ?_)
  exact x_ret_v G hr hlk h V d_B_addCell_38

set_option maxHeartbeats 40000000 in
set_option maxRecDepth 100000 in
theorem c_T_put (l : Launch) (D : va_G) (b ad : Nat → Nat) (cs : Nat → ClassId) (N : Nat) (σ : x_T) (a1 : Int32) (a2 : Int32) (a3 : Int32) (a4 : Int32) (r : Int32) (σ' : x_T) (h : f_T_put N σ a1 a2 a3 a4 = some (r, σ')) : x_Ci l y_T_put b_T_put 5 (some .boolean) { frames := 2, cells := 0, slots := 0, locals := 47 } D b ad cs σ [.ref (b 0), .int (a1), .int (a2), .int (a3), .int (a4)] r σ' := by
  refine x_met_i (own := R_T) (by decide) rfl (Nat.le_of_ble_eq_true rfl) ?_
  intro p e s m args below meth c A G hr hlk hml ls hl V
  have hx := G.1
  have hb := G.2.1
  have hown := G.2.2.1
  have hts := G.2.2.2.1
  have hN := G.2.2.2.2.2
  have hl : lv_has ls 5 [(0, .ref (b 0)), (1, .int (a1)), (2, .int (a2)), (3, .int (a3)), (4, .int (a4))] := hl
  unfold f_T_put at h
  refine lv_iload_n hx hb d_T_put_0 rfl (lv_at hl 1 rfl) ?_
  obtain ⟨r2, h1, h⟩ := q_bind h
  refine q_cS_i (As := [.int (a1)]) (rest := []) hx hb hown hts hN hml (c_T_isRow l a1 r2 h1) g_T_70 e_T_isRow ⟨Nat.le_of_ble_eq_true rfl, Nat.le_of_ble_eq_true rfl⟩ ⟨rfl, rfl⟩ ⟨Nat.zero_le _, Nat.zero_le _⟩ rfl hl.1 rfl (Nat.le_of_ble_eq_true rfl) d_T_put_1 ?_
  refine lv_if_eq (tgt := 32) hx hb d_T_put_4 (by decide) (fun hc => ?_) (fun hc => ?_)
  · replace h := q_ifp hc h
    refine lv_iconst (v := 0) hx hb d_T_put_32 (by decide) ?_
    exact x_zret_i G hr hlk rfl h V d_T_put_33
  · replace h := q_ifn hc h
    refine lv_iload_n hx hb d_T_put_7 rfl (lv_at hl 2 rfl) ?_
    obtain ⟨r4, h3, h⟩ := q_bind h
    refine q_cS_i (As := [.int (a2)]) (rest := []) hx hb hown hts hN hml (c_T_isColumn l a2 r4 h3) g_T_74 e_T_isColumn ⟨Nat.le_of_ble_eq_true rfl, Nat.le_of_ble_eq_true rfl⟩ ⟨rfl, rfl⟩ ⟨Nat.zero_le _, Nat.zero_le _⟩ rfl hl.1 rfl (Nat.le_of_ble_eq_true rfl) d_T_put_8 ?_
    refine lv_if_eq (tgt := 32) hx hb d_T_put_11 (by decide) (fun hc => ?_) (fun hc => ?_)
    · replace h := q_ifp hc h
      refine lv_iconst (v := 0) hx hb d_T_put_32 (by decide) ?_
      exact x_zret_i G hr hlk rfl h V d_T_put_33
    · replace h := q_ifn hc h
      refine lv_iload_n hx hb d_T_put_14 rfl (lv_at hl 3 rfl) ?_
      obtain ⟨r6, h5, h⟩ := q_bind h
      refine q_cS_i (As := [.int (a3)]) (rest := []) hx hb hown hts hN hml (c_T_isTime l a3 r6 h5) g_T_77 e_T_isTime ⟨Nat.le_of_ble_eq_true rfl, Nat.le_of_ble_eq_true rfl⟩ ⟨rfl, rfl⟩ ⟨Nat.zero_le _, Nat.zero_le _⟩ rfl hl.1 rfl (Nat.le_of_ble_eq_true rfl) d_T_put_15 ?_
      refine lv_if_eq (tgt := 32) hx hb d_T_put_18 (by decide) (fun hc => ?_) (fun hc => ?_)
      · replace h := q_ifp hc h
        refine lv_iconst (v := 0) hx hb d_T_put_32 (by decide) ?_
        exact x_zret_i G hr hlk rfl h V d_T_put_33
      · replace h := q_ifn hc h
        refine lv_aload_n hx hb d_T_put_21 rfl (lv_at hl 0 rfl) ?_
        refine x_get (v := .ref (b 5)) G V 0 0 8 x_w0 rfl in_T (by decide) k_T_41 rfl d_T_put_22 ?_
        refine lv_iload_n hx hb d_T_put_25 rfl (lv_at hl 1 rfl) ?_
        obtain ⟨r8, h7, h⟩ := q_bind h
        refine x_cN_i (As := [.int (a1)]) (rest := []) G V hml (c_B_takes l D b ad cs N σ a1 r8 h7) 5 2 rfl x_w5 k_co_B_takes k_T_80 k_in_B k_im_B_takes k_se_B_takes (e_B_takes).2 ⟨Nat.le_of_ble_eq_true rfl, Nat.le_of_ble_eq_true rfl⟩ ⟨rfl, rfl⟩ ⟨Nat.zero_le _, Nat.zero_le _⟩ rfl hl.1 rfl (Nat.le_of_ble_eq_true rfl) d_T_put_26 (fun H locs V => ?_)
        refine lv_if_ne (tgt := 34) hx hb d_T_put_29 (by decide) (fun hc => ?_) (fun hc => ?_)
        · replace h := q_ifn hc h
          refine lv_aload_n hx hb d_T_put_34 rfl (lv_at hl 0 rfl) ?_
          refine x_get (v := .ref (b 5)) G V 0 0 8 x_w0 rfl in_T (by decide) k_T_41 rfl d_T_put_35 ?_
          refine lv_iload_n hx hb d_T_put_38 rfl (lv_at hl 1 rfl) ?_
          refine lv_iload_n hx hb d_T_put_39 rfl (lv_at hl 2 rfl) ?_
          refine lv_iload_n hx hb d_T_put_40 rfl (lv_at hl 3 rfl) ?_
          refine lv_iload hx hb d_T_put_41 (lv_at hl 4 rfl) ?_
          obtain ⟨s10, h9, h⟩ := q_bind h
          refine x_cN_v (As := [.int (a1), .int (a2), .int (a3), .int (a4)]) (rest := []) G V hml (c_B_addCell l D b ad cs N σ a1 a2 a3 a4 s10 h9) 5 2 rfl x_w5 k_co_B_addCell k_T_83 k_in_B k_im_B_addCell k_se_B_addCell (e_B_addCell).2 ⟨Nat.le_of_ble_eq_true rfl, Nat.le_of_ble_eq_true rfl⟩ ⟨rfl, rfl⟩ ⟨Nat.zero_le _, Nat.zero_le _⟩ rfl hl.1 rfl (Nat.le_of_ble_eq_true rfl) d_T_put_43 (fun H locs V => ?_)
          refine lv_iconst (v := 1) hx hb d_T_put_46 (by decide) ?_
          exact x_zret_i G hr hlk rfl h V d_T_put_47
        · replace h := q_ifp hc h
          refine lv_iconst (v := 0) hx hb d_T_put_32 (by decide) ?_
          exact x_zret_i G hr hlk rfl h V d_T_put_33

set_option maxHeartbeats 40000000 in
set_option maxRecDepth 100000 in
theorem c_T_isErasable (l : Launch) (a1 : Int32) (a2 : Int32) (r : Int32) (h : f_T_isErasable a1 a2 = some r) : q_Ci l y_T_isErasable b_T_isErasable 2 (some .boolean) { frames := 1, cells := 0, slots := 0, locals := 20 } [.int (a1), .int (a2)] r := by
  refine q_met_i (own := R_T) (by decide) rfl (Nat.le_of_ble_eq_true rfl) ?_
  intro p e s m args below meth c G hr hlk hml ls hl
  have hx := G.1
  have hb := G.2.1
  have hown := G.2.2.1
  have hts := G.2.2.2.1
  have hN := G.2.2.2.2
  have hl : lv_has ls 2 [(0, .int (a1)), (1, .int (a2))] := hl
  unfold f_T_isErasable at h
  refine lv_iload_n hx hb d_T_isErasable_0 rfl (lv_at hl 0 rfl) ?_
  refine lv_iconst (v := (-1)) hx hb d_T_isErasable_1 (by decide) ?_
  refine lv_icmp_ne (tgt := 16) hx hb d_T_isErasable_2 (by decide) (fun hc => ?_) (fun hc => ?_)
  · replace h := q_ifn hc h
    refine lv_iload_n hx hb d_T_isErasable_16 rfl (lv_at hl 0 rfl) ?_
    obtain ⟨r2, h1, h⟩ := q_bind h
    refine q_cS_i (As := [.int (a1)]) (rest := []) hx hb hown hts hN hml (c_T_isColumn l a1 r2 h1) g_T_74 e_T_isColumn ⟨Nat.le_of_ble_eq_true rfl, Nat.le_of_ble_eq_true rfl⟩ ⟨rfl, rfl⟩ ⟨Nat.zero_le _, Nat.zero_le _⟩ rfl hl.1 rfl (Nat.le_of_ble_eq_true rfl) d_T_isErasable_17 ?_
    refine lv_if_eq (tgt := 39) hx hb d_T_isErasable_20 (by decide) (fun hc => ?_) (fun hc => ?_)
    · replace h := q_ifp hc h
      refine lv_iconst (v := 0) hx hb d_T_isErasable_39 (by decide) ?_
      exact q_zret_i G hr hlk rfl h d_T_isErasable_40
    · replace h := q_ifn hc h
      refine lv_iload_n hx hb d_T_isErasable_23 rfl (lv_at hl 1 rfl) ?_
      refine lv_iconst (v := (-1)) hx hb d_T_isErasable_24 (by decide) ?_
      refine lv_icmp_eq (tgt := 35) hx hb d_T_isErasable_25 (by decide) (fun hc => ?_) (fun hc => ?_)
      · replace h := q_ifp hc h
        refine lv_iconst (v := 1) hx hb d_T_isErasable_35 (by decide) ?_
        refine lv_goto (tgt := 40) hx hb d_T_isErasable_36 (by decide) ?_
        exact q_zret_i G hr hlk rfl h d_T_isErasable_40
      · replace h := q_ifn hc h
        refine lv_iload_n hx hb d_T_isErasable_28 rfl (lv_at hl 1 rfl) ?_
        obtain ⟨r4, h3, h⟩ := q_bind h
        refine q_cS_i (As := [.int (a2)]) (rest := []) hx hb hown hts hN hml (c_T_isTime l a2 r4 h3) g_T_77 e_T_isTime ⟨Nat.le_of_ble_eq_true rfl, Nat.le_of_ble_eq_true rfl⟩ ⟨rfl, rfl⟩ ⟨Nat.zero_le _, Nat.zero_le _⟩ rfl hl.1 rfl (Nat.le_of_ble_eq_true rfl) d_T_isErasable_29 ?_
        refine lv_if_eq (tgt := 39) hx hb d_T_isErasable_32 (by decide) (fun hc => ?_) (fun hc => ?_)
        · replace h := q_ifp hc h
          refine lv_iconst (v := 0) hx hb d_T_isErasable_39 (by decide) ?_
          exact q_zret_i G hr hlk rfl h d_T_isErasable_40
        · replace h := q_ifn hc h
          refine lv_iconst (v := 1) hx hb d_T_isErasable_35 (by decide) ?_
          refine lv_goto (tgt := 40) hx hb d_T_isErasable_36 (by decide) ?_
          exact q_zret_i G hr hlk rfl h d_T_isErasable_40
  · replace h := q_ifp hc h
    refine lv_iload_n hx hb d_T_isErasable_5 rfl (lv_at hl 1 rfl) ?_
    refine lv_iconst (v := (-1)) hx hb d_T_isErasable_6 (by decide) ?_
    refine lv_icmp_ne (tgt := 14) hx hb d_T_isErasable_7 (by decide) (fun hc => ?_) (fun hc => ?_)
    · replace h := q_ifn hc h
      refine lv_iconst (v := 0) hx hb d_T_isErasable_14 (by decide) ?_
      exact q_zret_i G hr hlk rfl h d_T_isErasable_15
    · replace h := q_ifp hc h
      refine lv_iconst (v := 1) hx hb d_T_isErasable_10 (by decide) ?_
      refine lv_goto (tgt := 15) hx hb d_T_isErasable_11 (by decide) ?_
      exact q_zret_i G hr hlk rfl h d_T_isErasable_15

set_option maxHeartbeats 40000000 in
set_option maxRecDepth 100000 in
theorem c_B_addErasure (l : Launch) (D : va_G) (b ad : Nat → Nat) (cs : Nat → ClassId) (N : Nat) (σ : x_T) (a1 : Int32) (a2 : Int32) (a3 : Int32) (σ' : x_T) (h : f_B_addErasure N σ a1 a2 a3 = some σ') : x_Cv l y_B_addErasure b_B_addErasure 4 none { frames := 1, cells := 0, slots := 0, locals := 23 } D b ad cs σ [.ref (b 5), .int (a1), .int (a2), .int (a3)] σ' := by
  refine x_met_v (own := R_B) (by decide) rfl (Nat.le_of_ble_eq_true rfl) ?_
  intro p e s m args below meth c A G hr hlk hml ls hl V
  have hx := G.1
  have hb := G.2.1
  have hown := G.2.2.1
  have hts := G.2.2.2.1
  have hN := G.2.2.2.2.2
  have hl : lv_has ls 4 [(0, .ref (b 5)), (1, .int (a1)), (2, .int (a2)), (3, .int (a3))] := hl
  unfold f_B_addErasure at h
  refine lv_aload_n hx hb d_B_addErasure_0 rfl (lv_at hl 0 rfl) ?_
  refine lv_iload_n hx hb d_B_addErasure_1 rfl (lv_at hl 1 rfl) ?_
  refine lv_iload_n hx hb d_B_addErasure_2 rfl (lv_at hl 2 rfl) ?_
  refine lv_iload_n hx hb d_B_addErasure_3 rfl (lv_at hl 3 rfl) ?_
  obtain ⟨s2, h1, h⟩ := q_bind h
  refine x_cV_v (As := [.int (a1), .int (a2), .int (a3)]) (rest := []) G V hml (c_B_addChange l D b ad cs N σ a1 a2 a3 s2 h1) 5 2 rfl x_w5 g_B_48 e_B_addChange ⟨Nat.le_of_ble_eq_true rfl, Nat.le_of_ble_eq_true rfl⟩ ⟨rfl, rfl⟩ ⟨Nat.zero_le _, Nat.zero_le _⟩ rfl hl.1 rfl (Nat.le_of_ble_eq_true rfl) d_B_addErasure_4 (fun H locs V => ?_)
  refine lv_aload_n hx hb d_B_addErasure_7 rfl (lv_at hl 0 rfl) ?_
  refine x_get (v := .ref (b 8)) G V 5 2 4 x_w5 rfl in_B (by decide) k_B_25 rfl d_B_addErasure_8 ?_
  refine lv_aload_n hx hb d_B_addErasure_11 rfl (lv_at hl 0 rfl) ?_
  refine x_get (v := .int (x_S s2 21)) G V 5 2 1 x_w5 rfl in_B (by decide) k_B_15 rfl d_B_addErasure_12 ?_
  refine lv_iconst (v := 0) hx hb d_B_addErasure_15 (by decide) ?_
  obtain ⟨g3, h⟩ := q_gd_h h
  obtain ⟨s4, e4, h⟩ := q_let_h h
  refine x_iast (σ' := s4) G V 8 x_w8 (x_u8.trans (congrArg (x_W b ad cs) e4.symm)) g3 d_B_addErasure_16 (fun H locs V => ?_)
  refine lv_aload_n hx hb d_B_addErasure_17 rfl (lv_at hl 0 rfl) ?_
  refine x_get (v := .ref (b 9)) G V 5 2 5 x_w5 rfl in_B (by decide) k_B_28 rfl d_B_addErasure_18 ?_
  refine lv_aload_n hx hb d_B_addErasure_21 rfl (lv_at hl 0 rfl) ?_
  refine x_get (v := .int (x_S s4 21)) G V 5 2 1 x_w5 rfl in_B (by decide) k_B_15 rfl d_B_addErasure_22 ?_
  refine lv_iconst (v := 1) hx hb d_B_addErasure_25 (by decide) ?_
  obtain ⟨g5, h⟩ := q_gd_h h
  obtain ⟨s6, e6, h⟩ := q_let_h h
  refine x_zast (σ' := s6) G V 9 x_w9 (x_u9.trans (congrArg (x_W b ad cs) e6.symm)) g5 d_B_addErasure_26 (fun H locs V => ?_)
  refine lv_aload_n hx hb d_B_addErasure_27 rfl (lv_at hl 0 rfl) ?_
  refine lv_dup hx hb d_B_addErasure_28 rfl ?_
  refine x_get (v := .int (x_S s6 21)) G V 5 2 1 x_w5 rfl in_B (by decide) k_B_15 rfl d_B_addErasure_29 ?_
  refine lv_iconst (v := 1) hx hb d_B_addErasure_32 (by decide) ?_
  refine lv_iadd hx hb d_B_addErasure_33 ?_
  obtain ⟨s7, e7, h⟩ := q_let_h h
  refine x_put (σ' := s7) (ty := .int) G V 5 2 1 x_w5 rfl in_B tt_B_ok n_B (by decide) k_B_15 rfl rfl rfl rfl (Nat.le_of_ble_eq_true rfl) (x_uB1.trans (congrArg (x_W b ad cs) e7.symm)) d_B_addErasure_34 (fun H locs V => ?_)
  exact x_ret_v G hr hlk h V d_B_addErasure_37

set_option maxHeartbeats 40000000 in
set_option maxRecDepth 100000 in
theorem c_T_erase (l : Launch) (D : va_G) (b ad : Nat → Nat) (cs : Nat → ClassId) (N : Nat) (σ : x_T) (a1 : Int32) (a2 : Int32) (a3 : Int32) (r : Int32) (σ' : x_T) (h : f_T_erase N σ a1 a2 a3 = some (r, σ')) : x_Ci l y_T_erase b_T_erase 4 (some .boolean) { frames := 2, cells := 0, slots := 0, locals := 46 } D b ad cs σ [.ref (b 0), .int (a1), .int (a2), .int (a3)] r σ' := by
  refine x_met_i (own := R_T) (by decide) rfl (Nat.le_of_ble_eq_true rfl) ?_
  intro p e s m args below meth c A G hr hlk hml ls hl V
  have hx := G.1
  have hb := G.2.1
  have hown := G.2.2.1
  have hts := G.2.2.2.1
  have hN := G.2.2.2.2.2
  have hl : lv_has ls 4 [(0, .ref (b 0)), (1, .int (a1)), (2, .int (a2)), (3, .int (a3))] := hl
  unfold f_T_erase at h
  refine lv_iload_n hx hb d_T_erase_0 rfl (lv_at hl 1 rfl) ?_
  obtain ⟨r2, h1, h⟩ := q_bind h
  refine q_cS_i (As := [.int (a1)]) (rest := []) hx hb hown hts hN hml (c_T_isRow l a1 r2 h1) g_T_70 e_T_isRow ⟨Nat.le_of_ble_eq_true rfl, Nat.le_of_ble_eq_true rfl⟩ ⟨rfl, rfl⟩ ⟨Nat.zero_le _, Nat.zero_le _⟩ rfl hl.1 rfl (Nat.le_of_ble_eq_true rfl) d_T_erase_1 ?_
  refine lv_if_eq (tgt := 26) hx hb d_T_erase_4 (by decide) (fun hc => ?_) (fun hc => ?_)
  · replace h := q_ifp hc h
    refine lv_iconst (v := 0) hx hb d_T_erase_26 (by decide) ?_
    exact x_zret_i G hr hlk rfl h V d_T_erase_27
  · replace h := q_ifn hc h
    refine lv_iload_n hx hb d_T_erase_7 rfl (lv_at hl 2 rfl) ?_
    refine lv_iload_n hx hb d_T_erase_8 rfl (lv_at hl 3 rfl) ?_
    obtain ⟨r4, h3, h⟩ := q_bind h
    refine q_cS_i (As := [.int (a2), .int (a3)]) (rest := []) hx hb hown hts hN hml (c_T_isErasable l a2 a3 r4 h3) g_T_87 e_T_isErasable ⟨Nat.le_of_ble_eq_true rfl, Nat.le_of_ble_eq_true rfl⟩ ⟨rfl, rfl⟩ ⟨Nat.zero_le _, Nat.zero_le _⟩ rfl hl.1 rfl (Nat.le_of_ble_eq_true rfl) d_T_erase_9 ?_
    refine lv_if_eq (tgt := 26) hx hb d_T_erase_12 (by decide) (fun hc => ?_) (fun hc => ?_)
    · replace h := q_ifp hc h
      refine lv_iconst (v := 0) hx hb d_T_erase_26 (by decide) ?_
      exact x_zret_i G hr hlk rfl h V d_T_erase_27
    · replace h := q_ifn hc h
      refine lv_aload_n hx hb d_T_erase_15 rfl (lv_at hl 0 rfl) ?_
      refine x_get (v := .ref (b 5)) G V 0 0 8 x_w0 rfl in_T (by decide) k_T_41 rfl d_T_erase_16 ?_
      refine lv_iload_n hx hb d_T_erase_19 rfl (lv_at hl 1 rfl) ?_
      obtain ⟨r6, h5, h⟩ := q_bind h
      refine x_cN_i (As := [.int (a1)]) (rest := []) G V hml (c_B_takes l D b ad cs N σ a1 r6 h5) 5 2 rfl x_w5 k_co_B_takes k_T_80 k_in_B k_im_B_takes k_se_B_takes (e_B_takes).2 ⟨Nat.le_of_ble_eq_true rfl, Nat.le_of_ble_eq_true rfl⟩ ⟨rfl, rfl⟩ ⟨Nat.zero_le _, Nat.zero_le _⟩ rfl hl.1 rfl (Nat.le_of_ble_eq_true rfl) d_T_erase_20 (fun H locs V => ?_)
      refine lv_if_ne (tgt := 28) hx hb d_T_erase_23 (by decide) (fun hc => ?_) (fun hc => ?_)
      · replace h := q_ifn hc h
        refine lv_aload_n hx hb d_T_erase_28 rfl (lv_at hl 0 rfl) ?_
        refine x_get (v := .ref (b 5)) G V 0 0 8 x_w0 rfl in_T (by decide) k_T_41 rfl d_T_erase_29 ?_
        refine lv_iload_n hx hb d_T_erase_32 rfl (lv_at hl 1 rfl) ?_
        refine lv_iload_n hx hb d_T_erase_33 rfl (lv_at hl 2 rfl) ?_
        refine lv_iload_n hx hb d_T_erase_34 rfl (lv_at hl 3 rfl) ?_
        obtain ⟨s8, h7, h⟩ := q_bind h
        refine x_cN_v (As := [.int (a1), .int (a2), .int (a3)]) (rest := []) G V hml (c_B_addErasure l D b ad cs N σ a1 a2 a3 s8 h7) 5 2 rfl x_w5 k_co_B_addErasure k_T_91 k_in_B k_im_B_addErasure k_se_B_addErasure (e_B_addErasure).2 ⟨Nat.le_of_ble_eq_true rfl, Nat.le_of_ble_eq_true rfl⟩ ⟨rfl, rfl⟩ ⟨Nat.zero_le _, Nat.zero_le _⟩ rfl hl.1 rfl (Nat.le_of_ble_eq_true rfl) d_T_erase_35 (fun H locs V => ?_)
        refine lv_iconst (v := 1) hx hb d_T_erase_38 (by decide) ?_
        exact x_zret_i G hr hlk rfl h V d_T_erase_39
      · replace h := q_ifp hc h
        refine lv_iconst (v := 0) hx hb d_T_erase_26 (by decide) ?_
        exact x_zret_i G hr hlk rfl h V d_T_erase_27

set_option maxHeartbeats 40000000 in
set_option maxRecDepth 100000 in
theorem c_B_setExpectation (l : Launch) (D : va_G) (b ad : Nat → Nat) (cs : Nat → ClassId) (N : Nat) (σ : x_T) (a1 : Int32) (a2 : Int32) (a3 : Int32) (a4 : Int32) (σ' : x_T) (h : f_B_setExpectation N σ a1 a2 a3 a4 = some σ') : x_Cv l y_B_setExpectation b_B_setExpectation 5 none { frames := 0, cells := 0, slots := 0, locals := 0 } D b ad cs σ [.ref (b 5), .int (a1), .int (a2), .int (a3), .int (a4)] σ' := by
  refine x_met_v (own := R_B) (by decide) rfl (Nat.le_of_ble_eq_true rfl) ?_
  intro p e s m args below meth c A G hr hlk hml ls hl V
  have hx := G.1
  have hb := G.2.1
  have hown := G.2.2.1
  have hts := G.2.2.2.1
  have hN := G.2.2.2.2.2
  have hl : lv_has ls 5 [(0, .ref (b 5)), (1, .int (a1)), (2, .int (a2)), (3, .int (a3)), (4, .int (a4))] := hl
  unfold f_B_setExpectation at h
  refine lv_aload_n hx hb d_B_setExpectation_0 rfl (lv_at hl 0 rfl) ?_
  refine lv_iconst (v := 1) hx hb d_B_setExpectation_1 (by decide) ?_
  obtain ⟨s1, e1, h⟩ := q_let_h h
  refine x_put (σ' := s1) (ty := .boolean) G V 5 2 6 x_w5 rfl in_B tt_B_ok n_B (by decide) k_B_32 rfl rfl rfl rfl (Nat.le_of_ble_eq_true rfl) (x_uB6.trans (congrArg (x_W b ad cs) e1.symm)) d_B_setExpectation_2 (fun H locs V => ?_)
  refine lv_aload_n hx hb d_B_setExpectation_5 rfl (lv_at hl 0 rfl) ?_
  refine lv_iload_n hx hb d_B_setExpectation_6 rfl (lv_at hl 1 rfl) ?_
  obtain ⟨s2, e2, h⟩ := q_let_h h
  refine x_put (σ' := s2) (ty := .int) G V 5 2 7 x_w5 rfl in_B tt_B_ok n_B (by decide) k_B_36 rfl rfl rfl rfl (Nat.le_of_ble_eq_true rfl) (x_uB7.trans (congrArg (x_W b ad cs) e2.symm)) d_B_setExpectation_7 (fun H locs V => ?_)
  refine lv_aload_n hx hb d_B_setExpectation_10 rfl (lv_at hl 0 rfl) ?_
  refine lv_iload_n hx hb d_B_setExpectation_11 rfl (lv_at hl 2 rfl) ?_
  obtain ⟨s3, e3, h⟩ := q_let_h h
  refine x_put (σ' := s3) (ty := .int) G V 5 2 8 x_w5 rfl in_B tt_B_ok n_B (by decide) k_B_39 rfl rfl rfl rfl (Nat.le_of_ble_eq_true rfl) (x_uB8.trans (congrArg (x_W b ad cs) e3.symm)) d_B_setExpectation_12 (fun H locs V => ?_)
  refine lv_aload_n hx hb d_B_setExpectation_15 rfl (lv_at hl 0 rfl) ?_
  refine lv_iload_n hx hb d_B_setExpectation_16 rfl (lv_at hl 3 rfl) ?_
  obtain ⟨z4, h⟩ := q_gd_h h
  obtain ⟨s5, e5, h⟩ := q_let_h h
  refine x_put (σ' := s5) (ty := .boolean) G V 5 2 9 x_w5 rfl in_B tt_B_ok n_B (by decide) k_B_42 rfl rfl (q_bz_n z4) (q_bz_f z4) (Nat.le_of_ble_eq_true rfl) (x_uB9.trans (congrArg (x_W b ad cs) e5.symm)) d_B_setExpectation_17 (fun H locs V => ?_)
  refine lv_aload_n hx hb d_B_setExpectation_20 rfl (lv_at hl 0 rfl) ?_
  refine lv_iload hx hb d_B_setExpectation_21 (lv_at hl 4 rfl) ?_
  obtain ⟨s6, e6, h⟩ := q_let_h h
  refine x_put (σ' := s6) (ty := .int) G V 5 2 10 x_w5 rfl in_B tt_B_ok n_B (by decide) k_B_45 rfl rfl rfl rfl (Nat.le_of_ble_eq_true rfl) (x_uB10.trans (congrArg (x_W b ad cs) e6.symm)) d_B_setExpectation_23 (fun H locs V => ?_)
  exact x_ret_v G hr hlk h V d_B_setExpectation_26

set_option maxHeartbeats 40000000 in
set_option maxRecDepth 100000 in
theorem c_T_expect (l : Launch) (D : va_G) (b ad : Nat → Nat) (cs : Nat → ClassId) (N : Nat) (σ : x_T) (a1 : Int32) (a2 : Int32) (a3 : Int32) (a4 : Int32) (r : Int32) (σ' : x_T) (h : f_T_expect N σ a1 a2 a3 a4 = some (r, σ')) : x_Ci l y_T_expect b_T_expect 5 (some .boolean) { frames := 1, cells := 0, slots := 0, locals := 24 } D b ad cs σ [.ref (b 0), .int (a1), .int (a2), .int (a3), .int (a4)] r σ' := by
  refine x_met_i (own := R_T) (by decide) rfl (Nat.le_of_ble_eq_true rfl) ?_
  intro p e s m args below meth c A G hr hlk hml ls hl V
  have hx := G.1
  have hb := G.2.1
  have hown := G.2.2.1
  have hts := G.2.2.2.1
  have hN := G.2.2.2.2.2
  have hl : lv_has ls 5 [(0, .ref (b 0)), (1, .int (a1)), (2, .int (a2)), (3, .int (a3)), (4, .int (a4))] := hl
  unfold f_T_expect at h
  refine lv_iload_n hx hb d_T_expect_0 rfl (lv_at hl 1 rfl) ?_
  obtain ⟨r2, h1, h⟩ := q_bind h
  refine q_cS_i (As := [.int (a1)]) (rest := []) hx hb hown hts hN hml (c_T_isRow l a1 r2 h1) g_T_70 e_T_isRow ⟨Nat.le_of_ble_eq_true rfl, Nat.le_of_ble_eq_true rfl⟩ ⟨rfl, rfl⟩ ⟨Nat.zero_le _, Nat.zero_le _⟩ rfl hl.1 rfl (Nat.le_of_ble_eq_true rfl) d_T_expect_1 ?_
  refine lv_if_eq (tgt := 14) hx hb d_T_expect_4 (by decide) (fun hc => ?_) (fun hc => ?_)
  · replace h := q_ifp hc h
    refine lv_iconst (v := 0) hx hb d_T_expect_14 (by decide) ?_
    exact x_zret_i G hr hlk rfl h V d_T_expect_15
  · replace h := q_ifn hc h
    refine lv_iload_n hx hb d_T_expect_7 rfl (lv_at hl 2 rfl) ?_
    obtain ⟨r4, h3, h⟩ := q_bind h
    refine q_cS_i (As := [.int (a2)]) (rest := []) hx hb hown hts hN hml (c_T_isColumn l a2 r4 h3) g_T_74 e_T_isColumn ⟨Nat.le_of_ble_eq_true rfl, Nat.le_of_ble_eq_true rfl⟩ ⟨rfl, rfl⟩ ⟨Nat.zero_le _, Nat.zero_le _⟩ rfl hl.1 rfl (Nat.le_of_ble_eq_true rfl) d_T_expect_8 ?_
    refine lv_if_ne (tgt := 16) hx hb d_T_expect_11 (by decide) (fun hc => ?_) (fun hc => ?_)
    · replace h := q_ifn hc h
      refine lv_aload_n hx hb d_T_expect_16 rfl (lv_at hl 0 rfl) ?_
      refine x_get (v := .ref (b 5)) G V 0 0 8 x_w0 rfl in_T (by decide) k_T_41 rfl d_T_expect_17 ?_
      refine lv_iload_n hx hb d_T_expect_20 rfl (lv_at hl 1 rfl) ?_
      refine lv_iload_n hx hb d_T_expect_21 rfl (lv_at hl 2 rfl) ?_
      refine lv_iload_n hx hb d_T_expect_22 rfl (lv_at hl 3 rfl) ?_
      refine lv_iload hx hb d_T_expect_23 (lv_at hl 4 rfl) ?_
      obtain ⟨s6, h5, h⟩ := q_bind h
      refine x_cN_v (As := [.int (a1), .int (a2), .int (a3), .int (a4)]) (rest := []) G V hml (c_B_setExpectation l D b ad cs N σ a1 a2 a3 a4 s6 h5) 5 2 rfl x_w5 k_co_B_setExpectation k_T_95 k_in_B k_im_B_setExpectation k_se_B_setExpectation (e_B_setExpectation).2 ⟨Nat.le_of_ble_eq_true rfl, Nat.le_of_ble_eq_true rfl⟩ ⟨rfl, rfl⟩ ⟨Nat.zero_le _, Nat.zero_le _⟩ rfl hl.1 rfl (Nat.le_of_ble_eq_true rfl) d_T_expect_25 (fun H locs V => ?_)
      refine lv_iconst (v := 1) hx hb d_T_expect_28 (by decide) ?_
      exact x_zret_i G hr hlk rfl h V d_T_expect_29
    · replace h := q_ifp hc h
      refine lv_iconst (v := 0) hx hb d_T_expect_14 (by decide) ?_
      exact x_zret_i G hr hlk rfl h V d_T_expect_15

set_option maxHeartbeats 40000000 in
set_option maxRecDepth 100000 in
theorem c_B_empty (l : Launch) (D : va_G) (b ad : Nat → Nat) (cs : Nat → ClassId) (N : Nat) (σ : x_T) (σ' : x_T) (h : f_B_empty N σ = some σ') : x_Cv l y_B_empty b_B_empty 1 none { frames := 0, cells := 0, slots := 0, locals := 0 } D b ad cs σ [.ref (b 5)] σ' := by
  refine x_met_v (own := R_B) (by decide) rfl (Nat.le_of_ble_eq_true rfl) ?_
  intro p e s m args below meth c A G hr hlk hml ls hl V
  have hx := G.1
  have hb := G.2.1
  have hown := G.2.2.1
  have hts := G.2.2.2.1
  have hN := G.2.2.2.2.2
  have hl : lv_has ls 1 [(0, .ref (b 5))] := hl
  unfold f_B_empty at h
  refine lv_aload_n hx hb d_B_empty_0 rfl (lv_at hl 0 rfl) ?_
  refine lv_iconst (v := 0) hx hb d_B_empty_1 (by decide) ?_
  obtain ⟨s1, e1, h⟩ := q_let_h h
  refine x_put (σ' := s1) (ty := .int) G V 5 2 1 x_w5 rfl in_B tt_B_ok n_B (by decide) k_B_15 rfl rfl rfl rfl (Nat.le_of_ble_eq_true rfl) (x_uB1.trans (congrArg (x_W b ad cs) e1.symm)) d_B_empty_2 (fun H locs V => ?_)
  refine lv_aload_n hx hb d_B_empty_5 rfl (lv_at hl 0 rfl) ?_
  refine lv_iconst (v := 0) hx hb d_B_empty_6 (by decide) ?_
  obtain ⟨s2, e2, h⟩ := q_let_h h
  refine x_put (σ' := s2) (ty := .boolean) G V 5 2 6 x_w5 rfl in_B tt_B_ok n_B (by decide) k_B_32 rfl rfl rfl rfl (Nat.le_of_ble_eq_true rfl) (x_uB6.trans (congrArg (x_W b ad cs) e2.symm)) d_B_empty_7 (fun H locs V => ?_)
  exact x_ret_v G hr hlk h V d_B_empty_10

set_option maxHeartbeats 40000000 in
set_option maxRecDepth 100000 in
theorem c_T_crash (l : Launch) (D : va_G) (b ad : Nat → Nat) (cs : Nat → ClassId) (N : Nat) (σ : x_T) (σ' : x_T) (h : f_T_crash N σ = some σ') : x_Cv l y_T_crash b_T_crash 1 none { frames := 1, cells := 0, slots := 0, locals := 20 } D b ad cs σ [.ref (b 0)] σ' := by
  refine x_met_v (own := R_T) (by decide) rfl (Nat.le_of_ble_eq_true rfl) ?_
  intro p e s m args below meth c A G hr hlk hml ls hl V
  have hx := G.1
  have hb := G.2.1
  have hown := G.2.2.1
  have hts := G.2.2.2.1
  have hN := G.2.2.2.2.2
  have hl : lv_has ls 1 [(0, .ref (b 0))] := hl
  unfold f_T_crash at h
  refine lv_aload_n hx hb d_T_crash_0 rfl (lv_at hl 0 rfl) ?_
  refine x_get (v := .ref (b 5)) G V 0 0 8 x_w0 rfl in_T (by decide) k_T_41 rfl d_T_crash_1 ?_
  obtain ⟨s2, h1, h⟩ := q_bind h
  refine x_cN_v (As := []) (rest := []) G V hml (c_B_empty l D b ad cs N σ s2 h1) 5 2 rfl x_w5 k_co_B_empty k_T_113 k_in_B k_im_B_empty k_se_B_empty (e_B_empty).2 ⟨Nat.le_of_ble_eq_true rfl, Nat.le_of_ble_eq_true rfl⟩ ⟨rfl, rfl⟩ ⟨Nat.zero_le _, Nat.zero_le _⟩ rfl hl.1 rfl (Nat.le_of_ble_eq_true rfl) d_T_crash_4 (fun H locs V => ?_)
  exact x_ret_v G hr hlk h V d_T_crash_7

set_option maxHeartbeats 40000000 in
set_option maxRecDepth 100000 in
theorem c_T_indexOfRow (l : Launch) (D : va_G) (b ad : Nat → Nat) (cs : Nat → ClassId) (N : Nat) (σ : x_T) (a1 : Int32) (r : Int32) (h : f_T_indexOfRow N σ a1 = some r) : x_Ci l y_T_indexOfRow b_T_indexOfRow 3 (some .int) { frames := 0, cells := 0, slots := 0, locals := 0 } D b ad cs σ [.ref (b 0), .int (a1)] r σ := by
  refine x_met_i (own := R_T) (by decide) rfl (Nat.le_of_ble_eq_true rfl) ?_
  intro p e s m args below meth c A G hr hlk hml ls hl V
  have hx := G.1
  have hb := G.2.1
  have hown := G.2.2.1
  have hts := G.2.2.2.1
  have hN := G.2.2.2.2.2
  have hl : lv_has ls 3 [(0, .ref (b 0)), (1, .int (a1))] := hl
  unfold f_T_indexOfRow at h
  refine lv_iconst (v := 0) hx hb d_T_indexOfRow_0 (by decide) ?_
  refine lv_istore_n (lv' := [(2, .int (0)), (0, .ref (b 0)), (1, .int (a1))]) hx hb d_T_indexOfRow_1 rfl hl (by decide) rfl (fun ls hl => ?_)
  have lp2 : ∀ (u1 : Int32) (K : Int32 → Option Int32) (_ : ∀ (v2 : Int32) (H : Heap) (locs : List Loc) (ls : Array Slot), K v2 = some r → lv_has ls 3 [(2, .int (v2))] → x_V D b ad cs σ A s.heap H locs → W p l e { frames := 0, cells := 0, slots := 0, locals := 0 } s m args below meth c H locs 0 0 (x_Qi below args s D b ad cs A r σ) (F0 m 29 ls [])) (n : Nat) (v2 : Int32) (H : Heap) (locs : List Loc) (ls : Array Slot), f_T_indexOfRow_L2 N σ u1 K n v2 = some r → lv_has ls 3 [(0, .ref (b 0)), (1, .int (u1)), (2, .int (v2))] → x_V D b ad cs σ A s.heap H locs → W p l e { frames := 0, cells := 0, slots := 0, locals := 0 } s m args below meth c H locs 0 0 (x_Qi below args s D b ad cs A r σ) (F0 m 2 ls []) := by
    intro u1 K hK n
    induction n with
    | zero => intro v2 H locs ls h hl V; cases h
    | succ n ih =>
      intro v2 H locs ls h hl V
      rw [f_T_indexOfRow_L2] at h
      refine lv_iload_n hx hb d_T_indexOfRow_2 rfl (lv_at hl 2 rfl) ?_
      refine lv_aload_n hx hb d_T_indexOfRow_3 rfl (lv_at hl 0 rfl) ?_
      refine x_get (v := .int (x_S σ 4)) G V 0 0 4 x_w0 rfl in_T (by decide) k_T_26 rfl d_T_indexOfRow_4 ?_
      refine lv_icmp_ge (tgt := 29) hx hb d_T_indexOfRow_7 (by decide) (fun hc => ?_) (fun hc => ?_)
      · replace h := q_ifp hc h
        exact hK _ _ _ ls h (lv_sub hl [2] rfl) V
      · replace h := q_ifn hc h
        refine lv_aload_n hx hb d_T_indexOfRow_10 rfl (lv_at hl 0 rfl) ?_
        refine x_get (v := .ref (b 3)) G V 0 0 3 x_w0 rfl in_T (by decide) k_T_22 rfl d_T_indexOfRow_11 ?_
        refine lv_iload_n hx hb d_T_indexOfRow_14 rfl (lv_at hl 2 rfl) ?_
        obtain ⟨g1, h⟩ := q_gd_h h
        refine x_aald G V g1 d_T_indexOfRow_15 (fun hE => ?_) (fun k2 hE => ?_)
        · replace h := q_omn hE h
          cases h
        · replace h := q_oms hE h
          obtain ⟨b3, h⟩ := q_gd_h h
          replace b3 := q_lt_h b3
          refine x_getN (v := .int (x_P σ k2 0)) G V (15 + k2) 1 0 (x_wE b3) rfl in_E (by decide) k_T_202 rfl d_T_indexOfRow_16 ?_
          refine lv_iload_n hx hb d_T_indexOfRow_19 rfl (lv_at hl 1 rfl) ?_
          refine lv_icmp_ge (tgt := 29) hx hb d_T_indexOfRow_20 (by decide) (fun hc => ?_) (fun hc => ?_)
          · replace h := q_ifp hc h
            exact hK _ _ _ ls h (lv_sub hl [2] rfl) V
          · replace h := q_ifn hc h
            refine lv_iinc (k := 2) (v := v2 + 1) (lv' := [(2, .int (v2 + 1)), (0, .ref (b 0)), (1, .int (u1))]) hx hb d_T_indexOfRow_23 hl rfl rfl (by decide) rfl (fun ls hl => ?_)
            refine lv_goto (tgt := 2) hx hb d_T_indexOfRow_26 (by decide) ?_
            exact ih _ _ _ ls h (lv_sub hl [1, 2, 0] rfl) V
  replace hl := lv_sub (l' := [(0, .ref (b 0)), (1, .int (a1)), (2, .int (0))]) hl [1, 2, 0] rfl
  refine lp2 _ _ ?_ _ _ _ _ ls h hl V
  intro v2 H locs ls h hl V
  refine lv_iload_n hx hb d_T_indexOfRow_29 rfl (lv_at hl 0 rfl) ?_
  exact x_pret_i G hr hlk h rfl V d_T_indexOfRow_30

set_option maxHeartbeats 40000000 in
set_option maxRecDepth 100000 in
theorem c_T_isOldCell (l : Launch) (D : va_G) (b ad : Nat → Nat) (cs : Nat → ClassId) (N : Nat) (σ : x_T) (a1 : Nat) (r : Int32) (h : f_T_isOldCell N σ a1 = some r) : x_Ci l y_T_isOldCell b_T_isOldCell 3 (some .boolean) { frames := 0, cells := 0, slots := 0, locals := 0 } D b ad cs σ [.ref (b 0), .ref (ad a1)] r σ := by
  refine x_met_i (own := R_T) (by decide) rfl (Nat.le_of_ble_eq_true rfl) ?_
  intro p e s m args below meth c A G hr hlk hml ls hl V
  have hx := G.1
  have hb := G.2.1
  have hown := G.2.2.1
  have hts := G.2.2.2.1
  have hN := G.2.2.2.2.2
  have hl : lv_has ls 3 [(0, .ref (b 0)), (1, .ref (ad a1))] := hl
  unfold f_T_isOldCell at h
  refine lv_aload_n hx hb d_T_isOldCell_0 rfl (lv_at hl 1 rfl) ?_
  obtain ⟨b1, h⟩ := q_gd_h h
  replace b1 := q_lt_h b1
  refine x_getN (v := .int (x_P σ a1 4)) G V (15 + a1) 1 4 (x_wE b1) rfl in_E (by decide) k_T_265 rfl d_T_isOldCell_1 ?_
  refine lv_if_eq (tgt := 9) hx hb d_T_isOldCell_4 (by decide) (fun hc => ?_) (fun hc => ?_)
  · replace h := q_ifp hc h
    refine lv_aload_n hx hb d_T_isOldCell_9 rfl (lv_at hl 0 rfl) ?_
    refine x_get (v := .ref (b 2)) G V 0 0 1 x_w0 rfl in_T (by decide) k_T_13 rfl d_T_isOldCell_10 ?_
    refine lv_aload_n hx hb d_T_isOldCell_13 rfl (lv_at hl 1 rfl) ?_
    refine x_getN (v := .int (x_P σ a1 2)) G V (15 + a1) 1 2 (x_wE b1) rfl in_E (by decide) k_T_291 rfl d_T_isOldCell_14 ?_
    obtain ⟨g2, h⟩ := q_gd_h h
    refine x_iald G V 2 x_w2 g2 d_T_isOldCell_17 ?_
    refine lv_istore_n (lv' := [(2, .int (x_I σ 2 ((x_P σ a1 2 : Int32).toNatClampNeg))), (0, .ref (b 0)), (1, .ref (ad a1))]) hx hb d_T_isOldCell_18 rfl hl (by decide) rfl (fun ls hl => ?_)
    refine lv_iload_n hx hb d_T_isOldCell_19 rfl (lv_at hl 0 rfl) ?_
    refine lv_if_eq (tgt := 40) hx hb d_T_isOldCell_20 (by decide) (fun hc => ?_) (fun hc => ?_)
    · replace h := q_ifp hc h
      refine lv_iconst (v := 0) hx hb d_T_isOldCell_40 (by decide) ?_
      exact x_zpret_i G hr hlk rfl h rfl V d_T_isOldCell_41
    · replace h := q_ifn hc h
      refine lv_aload_n hx hb d_T_isOldCell_23 rfl (lv_at hl 2 rfl) ?_
      refine x_getN (v := .int (x_P σ a1 3)) G V (15 + a1) 1 3 (x_wE b1) rfl in_E (by decide) k_T_182 rfl d_T_isOldCell_24 ?_
      refine lv_iload_n hx hb d_T_isOldCell_27 rfl (lv_at hl 0 rfl) ?_
      refine lv_iadd hx hb d_T_isOldCell_28 ?_
      refine lv_aload_n hx hb d_T_isOldCell_29 rfl (lv_at hl 1 rfl) ?_
      refine x_get (v := .int (x_S σ 2)) G V 0 0 2 x_w0 rfl in_T (by decide) k_T_16 rfl d_T_isOldCell_30 ?_
      refine lv_icmp_gt (tgt := 40) hx hb d_T_isOldCell_33 (by decide) (fun hc => ?_) (fun hc => ?_)
      · replace h := q_ifp hc h
        refine lv_iconst (v := 0) hx hb d_T_isOldCell_40 (by decide) ?_
        exact x_zpret_i G hr hlk rfl h rfl V d_T_isOldCell_41
      · replace h := q_ifn hc h
        refine lv_iconst (v := 1) hx hb d_T_isOldCell_36 (by decide) ?_
        refine lv_goto (tgt := 41) hx hb d_T_isOldCell_37 (by decide) ?_
        exact x_zpret_i G hr hlk rfl h rfl V d_T_isOldCell_41
  · replace h := q_ifn hc h
    refine lv_iconst (v := 0) hx hb d_T_isOldCell_7 (by decide) ?_
    exact x_zpret_i G hr hlk rfl h rfl V d_T_isOldCell_8

set_option maxHeartbeats 40000000 in
set_option maxRecDepth 100000 in
theorem c_T_isLive (l : Launch) (D : va_G) (b ad : Nat → Nat) (cs : Nat → ClassId) (N : Nat) (σ : x_T) (a1 : Nat) (r : Int32) (h : f_T_isLive N σ a1 = some r) : x_Ci l y_T_isLive b_T_isLive 2 (some .boolean) { frames := 1, cells := 0, slots := 0, locals := 22 } D b ad cs σ [.ref (b 0), .ref (ad a1)] r σ := by
  refine x_met_i (own := R_T) (by decide) rfl (Nat.le_of_ble_eq_true rfl) ?_
  intro p e s m args below meth c A G hr hlk hml ls hl V
  have hx := G.1
  have hb := G.2.1
  have hown := G.2.2.1
  have hts := G.2.2.2.1
  have hN := G.2.2.2.2.2
  have hl : lv_has ls 2 [(0, .ref (b 0)), (1, .ref (ad a1))] := hl
  unfold f_T_isLive at h
  refine lv_aload_n hx hb d_T_isLive_0 rfl (lv_at hl 1 rfl) ?_
  obtain ⟨b1, h⟩ := q_gd_h h
  replace b1 := q_lt_h b1
  refine x_getN (v := .int (x_P σ a1 4)) G V (15 + a1) 1 4 (x_wE b1) rfl in_E (by decide) k_T_265 rfl d_T_isLive_1 ?_
  refine lv_if_ne (tgt := 26) hx hb d_T_isLive_4 (by decide) (fun hc => ?_) (fun hc => ?_)
  · replace h := q_ifn hc h
    refine lv_iconst (v := 0) hx hb d_T_isLive_26 (by decide) ?_
    exact x_zpret_i G hr hlk rfl h rfl V d_T_isLive_27
  · replace h := q_ifp hc h
    refine lv_aload_n hx hb d_T_isLive_7 rfl (lv_at hl 1 rfl) ?_
    refine x_getN (v := .int (x_P σ a1 10)) G V (15 + a1) 1 10 (x_wE b1) rfl in_E (by decide) k_T_281 rfl d_T_isLive_8 ?_
    refine lv_if_ne (tgt := 26) hx hb d_T_isLive_11 (by decide) (fun hc => ?_) (fun hc => ?_)
    · replace h := q_ifn hc h
      refine lv_iconst (v := 0) hx hb d_T_isLive_26 (by decide) ?_
      exact x_zpret_i G hr hlk rfl h rfl V d_T_isLive_27
    · replace h := q_ifp hc h
      refine lv_aload_n hx hb d_T_isLive_14 rfl (lv_at hl 0 rfl) ?_
      refine lv_aload_n hx hb d_T_isLive_15 rfl (lv_at hl 1 rfl) ?_
      obtain ⟨r3, h2, h⟩ := q_bind h
      refine x_cV_i (As := [.ref (ad a1)]) (rest := []) G V hml (c_T_isOldCell l D b ad cs N σ a1 r3 h2) 0 0 rfl x_w0 g_T_241 e_T_isOldCell ⟨Nat.le_of_ble_eq_true rfl, Nat.le_of_ble_eq_true rfl⟩ ⟨rfl, rfl⟩ ⟨Nat.zero_le _, Nat.zero_le _⟩ rfl hl.1 rfl (Nat.le_of_ble_eq_true rfl) d_T_isLive_16 (fun H locs V => ?_)
      refine lv_if_ne (tgt := 26) hx hb d_T_isLive_19 (by decide) (fun hc => ?_) (fun hc => ?_)
      · replace h := q_ifn hc h
        refine lv_iconst (v := 0) hx hb d_T_isLive_26 (by decide) ?_
        exact x_zpret_i G hr hlk rfl h rfl V d_T_isLive_27
      · replace h := q_ifp hc h
        refine lv_iconst (v := 1) hx hb d_T_isLive_22 (by decide) ?_
        refine lv_goto (tgt := 27) hx hb d_T_isLive_23 (by decide) ?_
        exact x_zpret_i G hr hlk rfl h rfl V d_T_isLive_27

set_option maxHeartbeats 40000000 in
set_option maxRecDepth 100000 in
theorem c_T_liveCell (l : Launch) (D : va_G) (b ad : Nat → Nat) (cs : Nat → ClassId) (N : Nat) (σ : x_T) (a1 : Int32) (a2 : Int32) (a3 : Int32) (a4 : Int32) (r : Option Nat) (h : f_T_liveCell N σ a1 a2 a3 a4 = some r) : x_Cq l y_T_liveCell b_T_liveCell 8 (some (.object "TabletCells$Entry")) { frames := 2, cells := 0, slots := 0, locals := 43 } D b ad cs σ [.ref (b 0), .int (a1), .int (a2), .int (a3), .int (a4)] r σ := by
  refine x_met_q (own := R_T) (by decide) rfl (Nat.le_of_ble_eq_true rfl) ?_
  intro p e s m args below meth c A G hr hlk hml ls hl V
  have hx := G.1
  have hb := G.2.1
  have hown := G.2.2.1
  have hts := G.2.2.2.1
  have hN := G.2.2.2.2.2
  have hl : lv_has ls 8 [(0, .ref (b 0)), (1, .int (a1)), (2, .int (a2)), (3, .int (a3)), (4, .int (a4))] := hl
  unfold f_T_liveCell at h
  refine lv_iconst (v := 0) hx hb d_T_liveCell_0 (by decide) ?_
  refine lv_istore (lv' := [(5, .int (0)), (0, .ref (b 0)), (1, .int (a1)), (2, .int (a2)), (3, .int (a3)), (4, .int (a4))]) hx hb d_T_liveCell_1 hl (by decide) rfl (fun ls hl => ?_)
  refine lv_aload_n hx hb d_T_liveCell_3 rfl (lv_at hl 1 rfl) ?_
  refine lv_iload_n hx hb d_T_liveCell_4 rfl (lv_at hl 2 rfl) ?_
  obtain ⟨r2, h1, h⟩ := q_bind h
  refine x_cV_i (As := [.int (a1)]) (rest := []) G V hml (c_T_indexOfRow l D b ad cs N σ a1 r2 h1) 0 0 rfl x_w0 g_T_214 e_T_indexOfRow ⟨Nat.le_of_ble_eq_true rfl, Nat.le_of_ble_eq_true rfl⟩ ⟨rfl, rfl⟩ ⟨Nat.zero_le _, Nat.zero_le _⟩ rfl hl.1 rfl (Nat.le_of_ble_eq_true rfl) d_T_liveCell_5 (fun H locs V => ?_)
  refine lv_istore (lv' := [(6, .int (r2)), (5, .int (0)), (0, .ref (b 0)), (1, .int (a1)), (2, .int (a2)), (3, .int (a3)), (4, .int (a4))]) hx hb d_T_liveCell_8 hl (by decide) rfl (fun ls hl => ?_)
  have lp10 : ∀ (u1 : Int32) (u2 : Int32) (u3 : Int32) (u4 : Int32) (K : Option (Option Nat)) (_ : ∀ (H : Heap) (locs : List Loc) (ls : Array Slot), K = some r → lv_has ls 8 [] → x_V D b ad cs σ A s.heap H locs → W p l e { frames := 2, cells := 0, slots := 0, locals := 43 } s m args below meth c H locs 0 0 (x_Qq below args s D b ad cs A r σ) (F0 m 88 ls [])) (n : Nat) (v5 : Int32) (v6 : Int32) (H : Heap) (locs : List Loc) (ls : Array Slot), f_T_liveCell_L10 N σ u1 u2 u3 u4 K n v5 v6 = some r → lv_has ls 8 [(0, .ref (b 0)), (1, .int (u1)), (2, .int (u2)), (3, .int (u3)), (4, .int (u4)), (5, .int (v5)), (6, .int (v6))] → x_V D b ad cs σ A s.heap H locs → W p l e { frames := 2, cells := 0, slots := 0, locals := 43 } s m args below meth c H locs 0 0 (x_Qq below args s D b ad cs A r σ) (F0 m 10 ls []) := by
    intro u1 u2 u3 u4 K hK n
    induction n with
    | zero => intro v5 v6 H locs ls h hl V; cases h
    | succ n ih =>
      intro v5 v6 H locs ls h hl V
      rw [f_T_liveCell_L10] at h
      refine lv_iload hx hb d_T_liveCell_10 (lv_at hl 6 rfl) ?_
      refine lv_aload_n hx hb d_T_liveCell_12 rfl (lv_at hl 0 rfl) ?_
      refine x_get (v := .int (x_S σ 4)) G V 0 0 4 x_w0 rfl in_T (by decide) k_T_26 rfl d_T_liveCell_13 ?_
      refine lv_icmp_ge (tgt := 88) hx hb d_T_liveCell_16 (by decide) (fun hc => ?_) (fun hc => ?_)
      · replace h := q_ifp hc h
        exact hK _ _ ls h (lv_sub hl [] rfl) V
      · replace h := q_ifn hc h
        refine lv_aload_n hx hb d_T_liveCell_19 rfl (lv_at hl 0 rfl) ?_
        refine x_get (v := .ref (b 3)) G V 0 0 3 x_w0 rfl in_T (by decide) k_T_22 rfl d_T_liveCell_20 ?_
        refine lv_iload hx hb d_T_liveCell_23 (lv_at hl 6 rfl) ?_
        obtain ⟨g3, h⟩ := q_gd_h h
        refine x_aald G V g3 d_T_liveCell_25 (fun hE => ?_) (fun k4 hE => ?_)
        · replace h := q_omn hE h
          cases h
        · replace h := q_oms hE h
          obtain ⟨b5, h⟩ := q_gd_h h
          replace b5 := q_lt_h b5
          refine x_getN (v := .int (x_P σ k4 0)) G V (15 + k4) 1 0 (x_wE b5) rfl in_E (by decide) k_T_202 rfl d_T_liveCell_26 ?_
          refine lv_iload_n hx hb d_T_liveCell_29 rfl (lv_at hl 1 rfl) ?_
          refine lv_icmp_ne (tgt := 88) hx hb d_T_liveCell_30 (by decide) (fun hc => ?_) (fun hc => ?_)
          · replace h := q_ifn hc h
            exact hK _ _ ls h (lv_sub hl [] rfl) V
          · replace h := q_ifp hc h
            refine lv_aload_n hx hb d_T_liveCell_33 rfl (lv_at hl 0 rfl) ?_
            refine x_get (v := .ref (b 3)) G V 0 0 3 x_w0 rfl in_T (by decide) k_T_22 rfl d_T_liveCell_34 ?_
            refine lv_iload hx hb d_T_liveCell_37 (lv_at hl 6 rfl) ?_
            obtain ⟨g6, h⟩ := q_gd_h h
            refine x_aald G V g6 d_T_liveCell_39 (fun hE => ?_) (fun k7 hE => ?_)
            · replace h := q_omn hE h
              cases h
            · replace h := q_oms hE h
              refine lv_astore (lv' := [(7, .ref (ad k7)), (0, .ref (b 0)), (1, .int (u1)), (2, .int (u2)), (3, .int (u3)), (4, .int (u4)), (5, .int (v5)), (6, .int (v6))]) hx hb d_T_liveCell_40 hl (by decide) rfl (fun ls hl => ?_)
              refine lv_aload hx hb d_T_liveCell_42 (lv_at hl 0 rfl) ?_
              obtain ⟨b8, h⟩ := q_gd_h h
              replace b8 := q_lt_h b8
              refine x_getN (v := .int (x_P σ k7 1)) G V (15 + k7) 1 1 (x_wE b8) rfl in_E (by decide) k_T_203 rfl d_T_liveCell_44 ?_
              refine lv_iload_n hx hb d_T_liveCell_47 rfl (lv_at hl 3 rfl) ?_
              refine lv_icmp_ne (tgt := 82) hx hb d_T_liveCell_48 (by decide) (fun hc => ?_) (fun hc => ?_)
              · replace h := q_ifn hc h
                refine lv_iinc (k := 7) (v := v6 + 1) (lv' := [(6, .int (v6 + 1)), (7, .ref (ad k7)), (0, .ref (b 0)), (1, .int (u1)), (2, .int (u2)), (3, .int (u3)), (4, .int (u4)), (5, .int (v5))]) hx hb d_T_liveCell_82 hl rfl rfl (by decide) rfl (fun ls hl => ?_)
                refine lv_goto (tgt := 10) hx hb d_T_liveCell_85 (by decide) ?_
                exact ih _ _ _ _ ls h (lv_sub hl [2, 3, 4, 5, 6, 7, 0] rfl) V
              · replace h := q_ifp hc h
                refine lv_aload hx hb d_T_liveCell_51 (lv_at hl 0 rfl) ?_
                refine x_getN (v := .int (x_P σ k7 3)) G V (15 + k7) 1 3 (x_wE b8) rfl in_E (by decide) k_T_182 rfl d_T_liveCell_53 ?_
                refine lv_iload_n hx hb d_T_liveCell_56 rfl (lv_at hl 4 rfl) ?_
                refine lv_icmp_gt (tgt := 82) hx hb d_T_liveCell_57 (by decide) (fun hc => ?_) (fun hc => ?_)
                · replace h := q_ifp hc h
                  refine lv_iinc (k := 7) (v := v6 + 1) (lv' := [(6, .int (v6 + 1)), (7, .ref (ad k7)), (0, .ref (b 0)), (1, .int (u1)), (2, .int (u2)), (3, .int (u3)), (4, .int (u4)), (5, .int (v5))]) hx hb d_T_liveCell_82 hl rfl rfl (by decide) rfl (fun ls hl => ?_)
                  refine lv_goto (tgt := 10) hx hb d_T_liveCell_85 (by decide) ?_
                  exact ih _ _ _ _ ls h (lv_sub hl [2, 3, 4, 5, 6, 7, 0] rfl) V
                · replace h := q_ifn hc h
                  refine lv_aload_n hx hb d_T_liveCell_60 rfl (lv_at hl 1 rfl) ?_
                  refine lv_aload hx hb d_T_liveCell_61 (lv_at hl 0 rfl) ?_
                  obtain ⟨r10, h9, h⟩ := q_bind h
                  refine x_cV_i (As := [.ref (ad k7)]) (rest := []) G V hml (c_T_isLive l D b ad cs N σ k7 r10 h9) 0 0 rfl x_w0 g_T_206 e_T_isLive ⟨Nat.le_of_ble_eq_true rfl, Nat.le_of_ble_eq_true rfl⟩ ⟨rfl, rfl⟩ ⟨Nat.zero_le _, Nat.zero_le _⟩ rfl hl.1 rfl (Nat.le_of_ble_eq_true rfl) d_T_liveCell_63 (fun H locs V => ?_)
                  refine lv_if_eq (tgt := 82) hx hb d_T_liveCell_66 (by decide) (fun hc => ?_) (fun hc => ?_)
                  · replace h := q_ifp hc h
                    refine lv_iinc (k := 7) (v := v6 + 1) (lv' := [(6, .int (v6 + 1)), (7, .ref (ad k7)), (0, .ref (b 0)), (1, .int (u1)), (2, .int (u2)), (3, .int (u3)), (4, .int (u4)), (5, .int (v5))]) hx hb d_T_liveCell_82 hl rfl rfl (by decide) rfl (fun ls hl => ?_)
                    refine lv_goto (tgt := 10) hx hb d_T_liveCell_85 (by decide) ?_
                    exact ih _ _ _ _ ls h (lv_sub hl [2, 3, 4, 5, 6, 7, 0] rfl) V
                  · replace h := q_ifn hc h
                    refine lv_iload hx hb d_T_liveCell_69 (lv_at hl 6 rfl) ?_
                    refine lv_iload hx hb d_T_liveCell_71 (lv_at hl 5 rfl) ?_
                    refine lv_icmp_ne (tgt := 79) hx hb d_T_liveCell_73 (by decide) (fun hc => ?_) (fun hc => ?_)
                    · replace h := q_ifn hc h
                      refine lv_iinc (k := 6) (v := v5 + 1) (lv' := [(5, .int (v5 + 1)), (7, .ref (ad k7)), (0, .ref (b 0)), (1, .int (u1)), (2, .int (u2)), (3, .int (u3)), (4, .int (u4)), (6, .int (v6))]) hx hb d_T_liveCell_79 hl rfl rfl (by decide) rfl (fun ls hl => ?_)
                      refine lv_iinc (k := 7) (v := v6 + 1) (lv' := [(6, .int (v6 + 1)), (5, .int (v5 + 1)), (7, .ref (ad k7)), (0, .ref (b 0)), (1, .int (u1)), (2, .int (u2)), (3, .int (u3)), (4, .int (u4))]) hx hb d_T_liveCell_82 hl rfl rfl (by decide) rfl (fun ls hl => ?_)
                      refine lv_goto (tgt := 10) hx hb d_T_liveCell_85 (by decide) ?_
                      exact ih _ _ _ _ ls h (lv_sub hl [3, 4, 5, 6, 7, 1, 0] rfl) V
                    · replace h := q_ifp hc h
                      refine lv_aload hx hb d_T_liveCell_76 (lv_at hl 0 rfl) ?_
                      exact x_pret_q (r0 := (some k7)) G hr hlk h rfl rfl V d_T_liveCell_78
  replace hl := lv_sub (l' := [(0, .ref (b 0)), (1, .int (a1)), (2, .int (a2)), (3, .int (a3)), (4, .int (a4)), (5, .int (0)), (6, .int (r2))]) hl [2, 3, 4, 5, 6, 1, 0] rfl
  refine lp10 _ _ _ _ _ ?_ _ _ _ _ _ ls h hl V
  intro H locs ls h hl V
  refine lv_null hx hb d_T_liveCell_88 ?_
  exact x_pret_q (r0 := none) G hr hlk h rfl rfl V d_T_liveCell_89

set_option maxHeartbeats 40000000 in
set_option maxRecDepth 100000 in
theorem c_T_isExpectationMet (l : Launch) (D : va_G) (b ad : Nat → Nat) (cs : Nat → ClassId) (N : Nat) (σ : x_T) (r : Int32) (h : f_T_isExpectationMet N σ = some r) : x_Ci l y_T_isExpectationMet b_T_isExpectationMet 2 (some .boolean) { frames := 3, cells := 0, slots := 0, locals := 70 } D b ad cs σ [.ref (b 0)] r σ := by
  refine x_met_i (own := R_T) (by decide) rfl (Nat.le_of_ble_eq_true rfl) ?_
  intro p e s m args below meth c A G hr hlk hml ls hl V
  have hx := G.1
  have hb := G.2.1
  have hown := G.2.2.1
  have hts := G.2.2.2.1
  have hN := G.2.2.2.2.2
  have hl : lv_has ls 2 [(0, .ref (b 0))] := hl
  unfold f_T_isExpectationMet at h
  refine lv_aload_n hx hb d_T_isExpectationMet_0 rfl (lv_at hl 0 rfl) ?_
  refine x_get (v := .ref (b 5)) G V 0 0 8 x_w0 rfl in_T (by decide) k_T_41 rfl d_T_isExpectationMet_1 ?_
  refine x_getN (v := .int (x_S σ 26)) G V 5 2 6 x_w5 rfl in_B (by decide) k_T_116 rfl d_T_isExpectationMet_4 ?_
  refine lv_if_ne (tgt := 12) hx hb d_T_isExpectationMet_7 (by decide) (fun hc => ?_) (fun hc => ?_)
  · replace h := q_ifn hc h
    refine lv_aload_n hx hb d_T_isExpectationMet_12 rfl (lv_at hl 0 rfl) ?_
    refine lv_aload_n hx hb d_T_isExpectationMet_13 rfl (lv_at hl 0 rfl) ?_
    refine x_get (v := .ref (b 5)) G V 0 0 8 x_w0 rfl in_T (by decide) k_T_41 rfl d_T_isExpectationMet_14 ?_
    refine x_getN (v := .int (x_S σ 27)) G V 5 2 7 x_w5 rfl in_B (by decide) k_T_119 rfl d_T_isExpectationMet_17 ?_
    refine lv_aload_n hx hb d_T_isExpectationMet_20 rfl (lv_at hl 0 rfl) ?_
    refine x_get (v := .ref (b 5)) G V 0 0 8 x_w0 rfl in_T (by decide) k_T_41 rfl d_T_isExpectationMet_21 ?_
    refine x_getN (v := .int (x_S σ 28)) G V 5 2 8 x_w5 rfl in_B (by decide) k_T_122 rfl d_T_isExpectationMet_24 ?_
    refine lv_sipush (v := 10000) hx hb d_T_isExpectationMet_27 (by decide) ?_
    refine lv_iconst (v := 0) hx hb d_T_isExpectationMet_30 (by decide) ?_
    obtain ⟨r2, h1, h⟩ := q_bind h
    refine x_cV_q (As := [.int (x_S σ 27), .int (x_S σ 28), .int (10000), .int (0)]) (rest := []) G V hml (c_T_liveCell l D b ad cs N σ (x_S σ 27) (x_S σ 28) 10000 0 r2 h1) 0 0 rfl x_w0 g_T_125 e_T_liveCell ⟨Nat.le_of_ble_eq_true rfl, Nat.le_of_ble_eq_true rfl⟩ ⟨rfl, rfl⟩ ⟨Nat.zero_le _, Nat.zero_le _⟩ rfl hl.1 rfl (Nat.le_of_ble_eq_true rfl) d_T_isExpectationMet_31 (fun hE H locs V => ?_) (fun k3 hE H locs V => ?_)
    · replace h := q_omn hE h
      refine lv_astore_nN (lv' := [(1, .null), (0, .ref (b 0))]) hx hb d_T_isExpectationMet_34 rfl hl (by decide) rfl (fun ls hl => ?_)
      refine lv_aload_nN hx hb d_T_isExpectationMet_35 rfl (lv_at hl 0 rfl) ?_
      refine lv_ifnonnullN hx hb d_T_isExpectationMet_36 ?_
      refine lv_aload_n hx hb d_T_isExpectationMet_39 rfl (lv_at hl 1 rfl) ?_
      refine x_get (v := .ref (b 5)) G V 0 0 8 x_w0 rfl in_T (by decide) k_T_41 rfl d_T_isExpectationMet_40 ?_
      refine x_getN (v := .int (x_S σ 29)) G V 5 2 9 x_w5 rfl in_B (by decide) k_T_129 rfl d_T_isExpectationMet_43 ?_
      refine lv_if_ne (tgt := 53) hx hb d_T_isExpectationMet_46 (by decide) (fun hc => ?_) (fun hc => ?_)
      · replace h := q_ifn hc h
        refine lv_iconst (v := 0) hx hb d_T_isExpectationMet_53 (by decide) ?_
        exact x_zpret_i G hr hlk rfl h rfl V d_T_isExpectationMet_54
      · replace h := q_ifp hc h
        refine lv_iconst (v := 1) hx hb d_T_isExpectationMet_49 (by decide) ?_
        refine lv_goto (tgt := 54) hx hb d_T_isExpectationMet_50 (by decide) ?_
        exact x_zpret_i G hr hlk rfl h rfl V d_T_isExpectationMet_54
    · replace h := q_oms hE h
      refine lv_astore_n (lv' := [(1, .ref (ad k3)), (0, .ref (b 0))]) hx hb d_T_isExpectationMet_34 rfl hl (by decide) rfl (fun ls hl => ?_)
      refine lv_aload_n hx hb d_T_isExpectationMet_35 rfl (lv_at hl 0 rfl) ?_
      refine lv_ifnonnull (tgt := 55) hx hb d_T_isExpectationMet_36 (by decide) ?_
      refine lv_aload_n hx hb d_T_isExpectationMet_55 rfl (lv_at hl 1 rfl) ?_
      refine x_get (v := .ref (b 5)) G V 0 0 8 x_w0 rfl in_T (by decide) k_T_41 rfl d_T_isExpectationMet_56 ?_
      refine x_getN (v := .int (x_S σ 29)) G V 5 2 9 x_w5 rfl in_B (by decide) k_T_129 rfl d_T_isExpectationMet_59 ?_
      refine lv_if_eq (tgt := 83) hx hb d_T_isExpectationMet_62 (by decide) (fun hc => ?_) (fun hc => ?_)
      · replace h := q_ifp hc h
        refine lv_iconst (v := 0) hx hb d_T_isExpectationMet_83 (by decide) ?_
        exact x_zpret_i G hr hlk rfl h rfl V d_T_isExpectationMet_84
      · replace h := q_ifn hc h
        refine lv_aload_n hx hb d_T_isExpectationMet_65 rfl (lv_at hl 0 rfl) ?_
        obtain ⟨b4, h⟩ := q_gd_h h
        replace b4 := q_lt_h b4
        refine x_getN (v := .int (x_P σ k3 5)) G V (15 + k3) 1 5 (x_wE b4) rfl in_E (by decide) k_T_132 rfl d_T_isExpectationMet_66 ?_
        refine lv_aload_n hx hb d_T_isExpectationMet_69 rfl (lv_at hl 1 rfl) ?_
        refine x_get (v := .ref (b 5)) G V 0 0 8 x_w0 rfl in_T (by decide) k_T_41 rfl d_T_isExpectationMet_70 ?_
        refine x_getN (v := .int (x_S σ 30)) G V 5 2 10 x_w5 rfl in_B (by decide) k_T_135 rfl d_T_isExpectationMet_73 ?_
        refine lv_icmp_ne (tgt := 83) hx hb d_T_isExpectationMet_76 (by decide) (fun hc => ?_) (fun hc => ?_)
        · replace h := q_ifn hc h
          refine lv_iconst (v := 0) hx hb d_T_isExpectationMet_83 (by decide) ?_
          exact x_zpret_i G hr hlk rfl h rfl V d_T_isExpectationMet_84
        · replace h := q_ifp hc h
          refine lv_iconst (v := 1) hx hb d_T_isExpectationMet_79 (by decide) ?_
          refine lv_goto (tgt := 84) hx hb d_T_isExpectationMet_80 (by decide) ?_
          exact x_zpret_i G hr hlk rfl h rfl V d_T_isExpectationMet_84
  · replace h := q_ifp hc h
    refine lv_iconst (v := 1) hx hb d_T_isExpectationMet_10 (by decide) ?_
    exact x_zpret_i G hr hlk rfl h rfl V d_T_isExpectationMet_11

set_option maxHeartbeats 40000000 in
set_option maxRecDepth 100000 in
theorem c_T_familyOf (l : Launch) (a1 : Int32) (r : Int32) (h : f_T_familyOf a1 = some r) : q_Ci l y_T_familyOf b_T_familyOf 1 (some .int) { frames := 0, cells := 0, slots := 0, locals := 0 } [.int (a1)] r := by
  refine q_met_i (own := R_T) (by decide) rfl (Nat.le_of_ble_eq_true rfl) ?_
  intro p e s m args below meth c G hr hlk hml ls hl
  have hx := G.1
  have hb := G.2.1
  have hown := G.2.2.1
  have hts := G.2.2.2.1
  have hN := G.2.2.2.2
  have hl : lv_has ls 1 [(0, .int (a1))] := hl
  unfold f_T_familyOf at h
  refine lv_iload_n hx hb d_T_familyOf_0 rfl (lv_at hl 0 rfl) ?_
  refine lv_iconst (v := 4) hx hb d_T_familyOf_1 (by decide) ?_
  refine lv_icmp_ge (tgt := 9) hx hb d_T_familyOf_2 (by decide) (fun hc => ?_) (fun hc => ?_)
  · replace h := q_ifp hc h
    refine lv_iconst (v := 1) hx hb d_T_familyOf_9 (by decide) ?_
    exact q_ret_i G hr hlk h d_T_familyOf_10
  · replace h := q_ifn hc h
    refine lv_iconst (v := 0) hx hb d_T_familyOf_5 (by decide) ?_
    refine lv_goto (tgt := 10) hx hb d_T_familyOf_6 (by decide) ?_
    exact q_ret_i G hr hlk h d_T_familyOf_10
