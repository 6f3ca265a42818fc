set_option maxHeartbeats 40000000 in
set_option maxRecDepth 100000 in
theorem c_M_nearest (l : Launch) (a1 : Int32) (a2 : Int32) (r : Int32) (h : f_M_nearest a1 a2 = some r) : q_Ci l y_M_nearest b_M_nearest 2 (some .int) { frames := 0, cells := 0, slots := 0, locals := 0 } [.int (a1), .int (a2)] r := by
  refine q_met_i (own := R_M) (by decide) rfl (Nat.le_of_ble_eq_true rfl) ?_
  intro p e s m args below meth c G hr hlk hml ls hl
  have hx := G.1
  have hb := G.2.1
  have hown := G.2.2.1
  have hts := G.2.2.2.1
  have hN := G.2.2.2.2
  have hl : lv_has ls 2 [(0, .int (a1)), (1, .int (a2))] := hl
  unfold f_M_nearest at h
  refine lv_iload_n hx hb d_M_nearest_0 rfl (lv_at hl 0 rfl) ?_
  refine lv_if_ge (tgt := 8) hx hb d_M_nearest_1 (by decide) (fun hc => ?_) (fun hc => ?_)
  · replace h := q_ifp hc h
    refine lv_iload_n hx hb d_M_nearest_8 rfl (lv_at hl 0 rfl) ?_
    refine lv_iload_n hx hb d_M_nearest_9 rfl (lv_at hl 1 rfl) ?_
    refine lv_icmp_le (tgt := 17) hx hb d_M_nearest_10 (by decide) (fun hc => ?_) (fun hc => ?_)
    · replace h := q_ifp hc h
      refine lv_iload_n hx hb d_M_nearest_17 rfl (lv_at hl 0 rfl) ?_
      exact q_ret_i G hr hlk h d_M_nearest_18
    · replace h := q_ifn hc h
      refine lv_iload_n hx hb d_M_nearest_13 rfl (lv_at hl 1 rfl) ?_
      refine lv_goto (tgt := 18) hx hb d_M_nearest_14 (by decide) ?_
      exact q_ret_i G hr hlk h d_M_nearest_18
  · replace h := q_ifn hc h
    refine lv_iconst (v := 0) hx hb d_M_nearest_4 (by decide) ?_
    refine lv_goto (tgt := 18) hx hb d_M_nearest_5 (by decide) ?_
    exact q_ret_i G hr hlk h d_M_nearest_18

set_option maxHeartbeats 40000000 in
set_option maxRecDepth 100000 in
theorem c_M_isRow (l : Launch) (a1 : Int32) (r : Int32) (h : f_M_isRow a1 = some r) : q_Ci l y_M_isRow b_M_isRow 1 (some .boolean) { frames := 0, cells := 0, slots := 0, locals := 0 } [.int (a1)] r := by
  refine q_met_i (own := R_M) (by decide) rfl (Nat.le_of_ble_eq_true rfl) ?_
  intro p e s m args below meth c G hr hlk hml ls hl
  have hx := G.1
  have hb := G.2.1
  have hown := G.2.2.1
  have hts := G.2.2.2.1
  have hN := G.2.2.2.2
  have hl : lv_has ls 1 [(0, .int (a1))] := hl
  unfold f_M_isRow at h
  refine lv_iload_n hx hb d_M_isRow_0 rfl (lv_at hl 0 rfl) ?_
  refine lv_if_lt (tgt := 14) hx hb d_M_isRow_1 (by decide) (fun hc => ?_) (fun hc => ?_)
  · replace h := q_ifp hc h
    refine lv_iconst (v := 0) hx hb d_M_isRow_14 (by decide) ?_
    exact q_zret_i G hr hlk rfl h d_M_isRow_15
  · replace h := q_ifn hc h
    refine lv_iload_n hx hb d_M_isRow_4 rfl (lv_at hl 0 rfl) ?_
    refine lv_bipush (v := 63) hx hb d_M_isRow_5 (by decide) ?_
    refine lv_icmp_gt (tgt := 14) hx hb d_M_isRow_7 (by decide) (fun hc => ?_) (fun hc => ?_)
    · replace h := q_ifp hc h
      refine lv_iconst (v := 0) hx hb d_M_isRow_14 (by decide) ?_
      exact q_zret_i G hr hlk rfl h d_M_isRow_15
    · replace h := q_ifn hc h
      refine lv_iconst (v := 1) hx hb d_M_isRow_10 (by decide) ?_
      refine lv_goto (tgt := 15) hx hb d_M_isRow_11 (by decide) ?_
      exact q_zret_i G hr hlk rfl h d_M_isRow_15

set_option maxHeartbeats 40000000 in
set_option maxRecDepth 100000 in
theorem c_M_isColumn (l : Launch) (a1 : Int32) (r : Int32) (h : f_M_isColumn a1 = some r) : q_Ci l y_M_isColumn b_M_isColumn 1 (some .boolean) { frames := 0, cells := 0, slots := 0, locals := 0 } [.int (a1)] r := by
  refine q_met_i (own := R_M) (by decide) rfl (Nat.le_of_ble_eq_true rfl) ?_
  intro p e s m args below meth c G hr hlk hml ls hl
  have hx := G.1
  have hb := G.2.1
  have hown := G.2.2.1
  have hts := G.2.2.2.1
  have hN := G.2.2.2.2
  have hl : lv_has ls 1 [(0, .int (a1))] := hl
  unfold f_M_isColumn at h
  refine lv_iload_n hx hb d_M_isColumn_0 rfl (lv_at hl 0 rfl) ?_
  refine lv_if_lt (tgt := 14) hx hb d_M_isColumn_1 (by decide) (fun hc => ?_) (fun hc => ?_)
  · replace h := q_ifp hc h
    refine lv_iconst (v := 0) hx hb d_M_isColumn_14 (by decide) ?_
    exact q_zret_i G hr hlk rfl h d_M_isColumn_15
  · replace h := q_ifn hc h
    refine lv_iload_n hx hb d_M_isColumn_4 rfl (lv_at hl 0 rfl) ?_
    refine lv_bipush (v := 7) hx hb d_M_isColumn_5 (by decide) ?_
    refine lv_icmp_gt (tgt := 14) hx hb d_M_isColumn_7 (by decide) (fun hc => ?_) (fun hc => ?_)
    · replace h := q_ifp hc h
      refine lv_iconst (v := 0) hx hb d_M_isColumn_14 (by decide) ?_
      exact q_zret_i G hr hlk rfl h d_M_isColumn_15
    · replace h := q_ifn hc h
      refine lv_iconst (v := 1) hx hb d_M_isColumn_10 (by decide) ?_
      refine lv_goto (tgt := 15) hx hb d_M_isColumn_11 (by decide) ?_
      exact q_zret_i G hr hlk rfl h d_M_isColumn_15

set_option maxHeartbeats 40000000 in
set_option maxRecDepth 100000 in
theorem c_M_isTime (l : Launch) (a1 : Int32) (r : Int32) (h : f_M_isTime a1 = some r) : q_Ci l y_M_isTime b_M_isTime 1 (some .boolean) { frames := 0, cells := 0, slots := 0, locals := 0 } [.int (a1)] r := by
  refine q_met_i (own := R_M) (by decide) rfl (Nat.le_of_ble_eq_true rfl) ?_
  intro p e s m args below meth c G hr hlk hml ls hl
  have hx := G.1
  have hb := G.2.1
  have hown := G.2.2.1
  have hts := G.2.2.2.1
  have hN := G.2.2.2.2
  have hl : lv_has ls 1 [(0, .int (a1))] := hl
  unfold f_M_isTime at h
  refine lv_iload_n hx hb d_M_isTime_0 rfl (lv_at hl 0 rfl) ?_
  refine lv_if_lt (tgt := 15) hx hb d_M_isTime_1 (by decide) (fun hc => ?_) (fun hc => ?_)
  · replace h := q_ifp hc h
    refine lv_iconst (v := 0) hx hb d_M_isTime_15 (by decide) ?_
    exact q_zret_i G hr hlk rfl h d_M_isTime_16
  · replace h := q_ifn hc h
    refine lv_iload_n hx hb d_M_isTime_4 rfl (lv_at hl 0 rfl) ?_
    refine lv_sipush (v := 9999) hx hb d_M_isTime_5 (by decide) ?_
    refine lv_icmp_gt (tgt := 15) hx hb d_M_isTime_8 (by decide) (fun hc => ?_) (fun hc => ?_)
    · replace h := q_ifp hc h
      refine lv_iconst (v := 0) hx hb d_M_isTime_15 (by decide) ?_
      exact q_zret_i G hr hlk rfl h d_M_isTime_16
    · replace h := q_ifn hc h
      refine lv_iconst (v := 1) hx hb d_M_isTime_11 (by decide) ?_
      refine lv_goto (tgt := 16) hx hb d_M_isTime_12 (by decide) ?_
      exact q_zret_i G hr hlk rfl h d_M_isTime_16

set_option maxHeartbeats 40000000 in
set_option maxRecDepth 100000 in
theorem c_M_isTablet (l : Launch) (D : va_G) (b : Nat → Nat) (cs : Nat → ClassId) (N : Nat) (σ : m_T) (a1 : Int32) (r : Int32) (h : f_M_isTablet N σ a1 = some r) : m_Ci l y_M_isTablet b_M_isTablet 2 (some .boolean) { frames := 0, cells := 0, slots := 0, locals := 0 } D b cs σ [.ref (b 0), .int (a1)] r σ := by
  refine m_met_i (own := R_M) (by decide) rfl (Nat.le_of_ble_eq_true rfl) ?_
  intro p e s m args below meth c A G hr hlk hml ls hl V
  have hx := G.1
  have hb := G.2.1
  have hown := G.2.2.1
  have hts := G.2.2.2.1
  have hN := G.2.2.2.2.2
  have hl : lv_has ls 2 [(0, .ref (b 0)), (1, .int (a1))] := hl
  unfold f_M_isTablet at h
  refine lv_iload_n hx hb d_M_isTablet_0 rfl (lv_at hl 1 rfl) ?_
  refine lv_if_lt (tgt := 16) hx hb d_M_isTablet_1 (by decide) (fun hc => ?_) (fun hc => ?_)
  · replace h := q_ifp hc h
    refine lv_iconst (v := 0) hx hb d_M_isTablet_16 (by decide) ?_
    exact m_zpret_i G hr hlk rfl h rfl V d_M_isTablet_17
  · replace h := q_ifn hc h
    refine lv_iload_n hx hb d_M_isTablet_4 rfl (lv_at hl 1 rfl) ?_
    refine lv_aload_n hx hb d_M_isTablet_5 rfl (lv_at hl 0 rfl) ?_
    refine m_get (v := .int (m_S σ 9)) G V 0 4 9 m_w0 rfl in_M (by decide) k_M_34 rfl d_M_isTablet_6 ?_
    refine lv_icmp_ge (tgt := 16) hx hb d_M_isTablet_9 (by decide) (fun hc => ?_) (fun hc => ?_)
    · replace h := q_ifp hc h
      refine lv_iconst (v := 0) hx hb d_M_isTablet_16 (by decide) ?_
      exact m_zpret_i G hr hlk rfl h rfl V d_M_isTablet_17
    · replace h := q_ifn hc h
      refine lv_iconst (v := 1) hx hb d_M_isTablet_12 (by decide) ?_
      refine lv_goto (tgt := 17) hx hb d_M_isTablet_13 (by decide) ?_
      exact m_zpret_i G hr hlk rfl h rfl V d_M_isTablet_17

set_option maxHeartbeats 40000000 in
set_option maxRecDepth 100000 in
theorem c_M_covers (l : Launch) (D : va_G) (b : Nat → Nat) (cs : Nat → ClassId) (N : Nat) (σ : m_T) (a1 : Int32) (a2 : Int32) (r : Int32) (h : f_M_covers N σ a1 a2 = some r) : m_Ci l y_M_covers b_M_covers 3 (some .boolean) { frames := 0, cells := 0, slots := 0, locals := 0 } D b cs σ [.ref (b 0), .int (a1), .int (a2)] r σ := by
  refine m_met_i (own := R_M) (by decide) rfl (Nat.le_of_ble_eq_true rfl) ?_
  intro p e s m args below meth c A G hr hlk hml ls hl V
  have hx := G.1
  have hb := G.2.1
  have hown := G.2.2.1
  have hts := G.2.2.2.1
  have hN := G.2.2.2.2.2
  have hl : lv_has ls 3 [(0, .ref (b 0)), (1, .int (a1)), (2, .int (a2))] := hl
  unfold f_M_covers at h
  refine lv_iload_n hx hb d_M_covers_0 rfl (lv_at hl 1 rfl) ?_
  refine lv_iload_n hx hb d_M_covers_1 rfl (lv_at hl 2 rfl) ?_
  refine lv_icmp_le (tgt := 20) hx hb d_M_covers_2 (by decide) (fun hc => ?_) (fun hc => ?_)
  · replace h := q_ifp hc h
    refine lv_iconst (v := 0) hx hb d_M_covers_20 (by decide) ?_
    exact m_zpret_i G hr hlk rfl h rfl V d_M_covers_21
  · replace h := q_ifn hc h
    refine lv_aload_n hx hb d_M_covers_5 rfl (lv_at hl 0 rfl) ?_
    refine m_get (v := .ref (b 2)) G V 0 4 2 m_w0 rfl in_M (by decide) k_M_13 rfl d_M_covers_6 ?_
    refine lv_iload_n hx hb d_M_covers_9 rfl (lv_at hl 1 rfl) ?_
    obtain ⟨g1, h⟩ := q_gd_h h
    refine m_iald G V 2 m_w2 g1 d_M_covers_10 ?_
    refine lv_aload_n hx hb d_M_covers_11 rfl (lv_at hl 0 rfl) ?_
    refine m_get (v := .ref (b 2)) G V 0 4 2 m_w0 rfl in_M (by decide) k_M_13 rfl d_M_covers_12 ?_
    refine lv_iload_n hx hb d_M_covers_15 rfl (lv_at hl 2 rfl) ?_
    obtain ⟨g2, h⟩ := q_gd_h h
    refine m_iald G V 2 m_w2 g2 d_M_covers_16 ?_
    refine lv_icmp_eq (tgt := 22) hx hb d_M_covers_17 (by decide) (fun hc => ?_) (fun hc => ?_)
    · replace h := q_ifp hc h
      refine lv_aload_n hx hb d_M_covers_22 rfl (lv_at hl 0 rfl) ?_
      refine m_get (v := .ref (b 1)) G V 0 4 1 m_w0 rfl in_M (by decide) k_M_7 rfl d_M_covers_23 ?_
      refine lv_iload_n hx hb d_M_covers_26 rfl (lv_at hl 1 rfl) ?_
      obtain ⟨g3, h⟩ := q_gd_h h
      refine m_iald G V 1 m_w1 g3 d_M_covers_27 ?_
      refine lv_iconst (v := 3) hx hb d_M_covers_28 (by decide) ?_
      refine lv_icmp_ne (tgt := 34) hx hb d_M_covers_29 (by decide) (fun hc => ?_) (fun hc => ?_)
      · replace h := q_ifn hc h
        refine lv_aload_n hx hb d_M_covers_34 rfl (lv_at hl 0 rfl) ?_
        refine m_get (v := .ref (b 3)) G V 0 4 3 m_w0 rfl in_M (by decide) k_M_16 rfl d_M_covers_35 ?_
        refine lv_iload_n hx hb d_M_covers_38 rfl (lv_at hl 1 rfl) ?_
        obtain ⟨g4, h⟩ := q_gd_h h
        refine m_iald G V 3 m_w3 g4 d_M_covers_39 ?_
        refine lv_aload_n hx hb d_M_covers_40 rfl (lv_at hl 0 rfl) ?_
        refine m_get (v := .ref (b 3)) G V 0 4 3 m_w0 rfl in_M (by decide) k_M_16 rfl d_M_covers_41 ?_
        refine lv_iload_n hx hb d_M_covers_44 rfl (lv_at hl 2 rfl) ?_
        obtain ⟨g5, h⟩ := q_gd_h h
        refine m_iald G V 3 m_w3 g5 d_M_covers_45 ?_
        refine lv_icmp_eq (tgt := 51) hx hb d_M_covers_46 (by decide) (fun hc => ?_) (fun hc => ?_)
        · replace h := q_ifp hc h
          refine lv_aload_n hx hb d_M_covers_51 rfl (lv_at hl 0 rfl) ?_
          refine m_get (v := .ref (b 1)) G V 0 4 1 m_w0 rfl in_M (by decide) k_M_7 rfl d_M_covers_52 ?_
          refine lv_iload_n hx hb d_M_covers_55 rfl (lv_at hl 1 rfl) ?_
          obtain ⟨g6, h⟩ := q_gd_h h
          refine m_iald G V 1 m_w1 g6 d_M_covers_56 ?_
          refine lv_iconst (v := 2) hx hb d_M_covers_57 (by decide) ?_
          refine lv_icmp_ne (tgt := 79) hx hb d_M_covers_58 (by decide) (fun hc => ?_) (fun hc => ?_)
          · replace h := q_ifn hc h
            refine lv_aload_n hx hb d_M_covers_79 rfl (lv_at hl 0 rfl) ?_
            refine m_get (v := .ref (b 1)) G V 0 4 1 m_w0 rfl in_M (by decide) k_M_7 rfl d_M_covers_80 ?_
            refine lv_iload_n hx hb d_M_covers_83 rfl (lv_at hl 2 rfl) ?_
            obtain ⟨g7, h⟩ := q_gd_h h
            refine m_iald G V 1 m_w1 g7 d_M_covers_84 ?_
            refine lv_iconst (v := 1) hx hb d_M_covers_85 (by decide) ?_
            refine lv_icmp_gt (tgt := 108) hx hb d_M_covers_86 (by decide) (fun hc => ?_) (fun hc => ?_)
            · replace h := q_ifp hc h
              refine lv_iconst (v := 0) hx hb d_M_covers_108 (by decide) ?_
              exact m_zpret_i G hr hlk rfl h rfl V d_M_covers_109
            · replace h := q_ifn hc h
              refine lv_aload_n hx hb d_M_covers_89 rfl (lv_at hl 0 rfl) ?_
              refine m_get (v := .ref (b 4)) G V 0 4 4 m_w0 rfl in_M (by decide) k_M_19 rfl d_M_covers_90 ?_
              refine lv_iload_n hx hb d_M_covers_93 rfl (lv_at hl 1 rfl) ?_
              obtain ⟨g8, h⟩ := q_gd_h h
              refine m_iald G V 4 m_w4 g8 d_M_covers_94 ?_
              refine lv_aload_n hx hb d_M_covers_95 rfl (lv_at hl 0 rfl) ?_
              refine m_get (v := .ref (b 4)) G V 0 4 4 m_w0 rfl in_M (by decide) k_M_19 rfl d_M_covers_96 ?_
              refine lv_iload_n hx hb d_M_covers_99 rfl (lv_at hl 2 rfl) ?_
              obtain ⟨g9, h⟩ := q_gd_h h
              refine m_iald G V 4 m_w4 g9 d_M_covers_100 ?_
              refine lv_icmp_ne (tgt := 108) hx hb d_M_covers_101 (by decide) (fun hc => ?_) (fun hc => ?_)
              · replace h := q_ifn hc h
                refine lv_iconst (v := 0) hx hb d_M_covers_108 (by decide) ?_
                exact m_zpret_i G hr hlk rfl h rfl V d_M_covers_109
              · replace h := q_ifp hc h
                refine lv_iconst (v := 1) hx hb d_M_covers_104 (by decide) ?_
                refine lv_goto (tgt := 109) hx hb d_M_covers_105 (by decide) ?_
                exact m_zpret_i G hr hlk rfl h rfl V d_M_covers_109
          · replace h := q_ifp hc h
            refine lv_aload_n hx hb d_M_covers_61 rfl (lv_at hl 0 rfl) ?_
            refine m_get (v := .ref (b 1)) G V 0 4 1 m_w0 rfl in_M (by decide) k_M_7 rfl d_M_covers_62 ?_
            refine lv_iload_n hx hb d_M_covers_65 rfl (lv_at hl 2 rfl) ?_
            obtain ⟨g10, h⟩ := q_gd_h h
            refine m_iald G V 1 m_w1 g10 d_M_covers_66 ?_
            refine lv_iconst (v := 3) hx hb d_M_covers_67 (by decide) ?_
            refine lv_icmp_eq (tgt := 75) hx hb d_M_covers_68 (by decide) (fun hc => ?_) (fun hc => ?_)
            · replace h := q_ifp hc h
              refine lv_iconst (v := 0) hx hb d_M_covers_75 (by decide) ?_
              refine lv_goto (tgt := 109) hx hb d_M_covers_76 (by decide) ?_
              exact m_zpret_i G hr hlk rfl h rfl V d_M_covers_109
            · replace h := q_ifn hc h
              refine lv_iconst (v := 1) hx hb d_M_covers_71 (by decide) ?_
              refine lv_goto (tgt := 109) hx hb d_M_covers_72 (by decide) ?_
              exact m_zpret_i G hr hlk rfl h rfl V d_M_covers_109
        · replace h := q_ifn hc h
          refine lv_iconst (v := 0) hx hb d_M_covers_49 (by decide) ?_
          exact m_zpret_i G hr hlk rfl h rfl V d_M_covers_50
      · replace h := q_ifp hc h
        refine lv_iconst (v := 1) hx hb d_M_covers_32 (by decide) ?_
        exact m_zpret_i G hr hlk rfl h rfl V d_M_covers_33
    · replace h := q_ifn hc h
      refine lv_iconst (v := 0) hx hb d_M_covers_20 (by decide) ?_
      exact m_zpret_i G hr hlk rfl h rfl V d_M_covers_21

set_option maxHeartbeats 40000000 in
set_option maxRecDepth 100000 in
theorem c_M_isOld (l : Launch) (D : va_G) (b : Nat → Nat) (cs : Nat → ClassId) (N : Nat) (σ : m_T) (a1 : Int32) (r : Int32) (h : f_M_isOld N σ a1 = some r) : m_Ci l y_M_isOld b_M_isOld 3 (some .boolean) { frames := 0, cells := 0, slots := 0, locals := 0 } D b cs σ [.ref (b 0), .int (a1)] r σ := by
  refine m_met_i (own := R_M) (by decide) rfl (Nat.le_of_ble_eq_true rfl) ?_
  intro p e s m args below meth c A G hr hlk hml ls hl V
  have hx := G.1
  have hb := G.2.1
  have hown := G.2.2.1
  have hts := G.2.2.2.1
  have hN := G.2.2.2.2.2
  have hl : lv_has ls 3 [(0, .ref (b 0)), (1, .int (a1))] := hl
  unfold f_M_isOld at h
  refine lv_aload_n hx hb d_M_isOld_0 rfl (lv_at hl 0 rfl) ?_
  refine m_get (v := .ref (b 12)) G V 0 4 13 m_w0 rfl in_M (by decide) k_M_47 rfl d_M_isOld_1 ?_
  refine lv_aload_n hx hb d_M_isOld_4 rfl (lv_at hl 0 rfl) ?_
  refine m_get (v := .ref (b 3)) G V 0 4 3 m_w0 rfl in_M (by decide) k_M_16 rfl d_M_isOld_5 ?_
  refine lv_iload_n hx hb d_M_isOld_8 rfl (lv_at hl 1 rfl) ?_
  obtain ⟨g1, h⟩ := q_gd_h h
  refine m_iald G V 3 m_w3 g1 d_M_isOld_9 ?_
  refine lv_iconst (v := 4) hx hb d_M_isOld_10 (by decide) ?_
  refine lv_idiv hx hb d_M_isOld_11 (by decide) ?_
  obtain ⟨g2, h⟩ := q_gd_h h
  refine m_iald G V 12 m_w12 g2 d_M_isOld_12 ?_
  refine lv_istore_n (lv' := [(2, .int (m_I σ 12 (((m_I σ 3 ((a1 : Int32).toNatClampNeg)) / 4 : Int32).toNatClampNeg))), (0, .ref (b 0)), (1, .int (a1))]) hx hb d_M_isOld_13 rfl hl (by decide) rfl (fun ls hl => ?_)
  refine lv_iload_n hx hb d_M_isOld_14 rfl (lv_at hl 0 rfl) ?_
  refine lv_if_eq (tgt := 37) hx hb d_M_isOld_15 (by decide) (fun hc => ?_) (fun hc => ?_)
  · replace h := q_ifp hc h
    refine lv_iconst (v := 0) hx hb d_M_isOld_37 (by decide) ?_
    exact m_zpret_i G hr hlk rfl h rfl V d_M_isOld_38
  · replace h := q_ifn hc h
    refine lv_aload_n hx hb d_M_isOld_18 rfl (lv_at hl 1 rfl) ?_
    refine m_get (v := .ref (b 4)) G V 0 4 4 m_w0 rfl in_M (by decide) k_M_19 rfl d_M_isOld_19 ?_
    refine lv_iload_n hx hb d_M_isOld_22 rfl (lv_at hl 2 rfl) ?_
    obtain ⟨g3, h⟩ := q_gd_h h
    refine m_iald G V 4 m_w4 g3 d_M_isOld_23 ?_
    refine lv_iload_n hx hb d_M_isOld_24 rfl (lv_at hl 0 rfl) ?_
    refine lv_iadd hx hb d_M_isOld_25 ?_
    refine lv_aload_n hx hb d_M_isOld_26 rfl (lv_at hl 1 rfl) ?_
    refine m_get (v := .int (m_S σ 14)) G V 0 4 14 m_w0 rfl in_M (by decide) k_M_72 rfl d_M_isOld_27 ?_
    refine lv_icmp_gt (tgt := 37) hx hb d_M_isOld_30 (by decide) (fun hc => ?_) (fun hc => ?_)
    · replace h := q_ifp hc h
      refine lv_iconst (v := 0) hx hb d_M_isOld_37 (by decide) ?_
      exact m_zpret_i G hr hlk rfl h rfl V d_M_isOld_38
    · replace h := q_ifn hc h
      refine lv_iconst (v := 1) hx hb d_M_isOld_33 (by decide) ?_
      refine lv_goto (tgt := 38) hx hb d_M_isOld_34 (by decide) ?_
      exact m_zpret_i G hr hlk rfl h rfl V d_M_isOld_38

set_option maxHeartbeats 40000000 in
set_option maxRecDepth 100000 in
theorem c_M_isLive (l : Launch) (D : va_G) (b : Nat → Nat) (cs : Nat → ClassId) (N : Nat) (σ : m_T) (a1 : Int32) (r : Int32) (h : f_M_isLive N σ a1 = some r) : m_Ci l y_M_isLive b_M_isLive 3 (some .boolean) { frames := 1, cells := 0, slots := 0, locals := 22 } D b cs σ [.ref (b 0), .int (a1)] r σ := by
  refine m_met_i (own := R_M) (by decide) rfl (Nat.le_of_ble_eq_true rfl) ?_
  intro p e s m args below meth c A G hr hlk hml ls hl V
  have hx := G.1
  have hb := G.2.1
  have hown := G.2.2.1
  have hts := G.2.2.2.1
  have hN := G.2.2.2.2.2
  have hl : lv_has ls 3 [(0, .ref (b 0)), (1, .int (a1))] := hl
  unfold f_M_isLive at h
  refine lv_aload_n hx hb d_M_isLive_0 rfl (lv_at hl 0 rfl) ?_
  refine m_get (v := .ref (b 1)) G V 0 4 1 m_w0 rfl in_M (by decide) k_M_7 rfl d_M_isLive_1 ?_
  refine lv_iload_n hx hb d_M_isLive_4 rfl (lv_at hl 1 rfl) ?_
  obtain ⟨g1, h⟩ := q_gd_h h
  refine m_iald G V 1 m_w1 g1 d_M_isLive_5 ?_
  refine lv_if_ne (tgt := 17) hx hb d_M_isLive_6 (by decide) (fun hc => ?_) (fun hc => ?_)
  · replace h := q_ifn hc h
    refine lv_iconst (v := 0) hx hb d_M_isLive_17 (by decide) ?_
    exact m_zpret_i G hr hlk rfl h rfl V d_M_isLive_18
  · replace h := q_ifp hc h
    refine lv_aload_n hx hb d_M_isLive_9 rfl (lv_at hl 0 rfl) ?_
    refine lv_iload_n hx hb d_M_isLive_10 rfl (lv_at hl 1 rfl) ?_
    obtain ⟨r3, h2, h⟩ := q_bind h
    refine m_cV_i (As := [.int (a1)]) (rest := []) G V hml (c_M_isOld l D b cs N σ a1 r3 h2) 0 4 rfl m_w0 g_M_75 e_M_isOld ⟨Nat.le_of_ble_eq_true rfl, Nat.le_of_ble_eq_true rfl⟩ ⟨rfl, rfl⟩ ⟨Nat.zero_le _, Nat.zero_le _⟩ rfl hl.1 rfl (Nat.le_of_ble_eq_true rfl) d_M_isLive_11 (fun H locs V => ?_)
    refine lv_if_eq (tgt := 19) hx hb d_M_isLive_14 (by decide) (fun hc => ?_) (fun hc => ?_)
    · replace h := q_ifp hc h
      refine lv_iload_n hx hb d_M_isLive_19 rfl (lv_at hl 1 rfl) ?_
      refine lv_iconst (v := 1) hx hb d_M_isLive_20 (by decide) ?_
      refine lv_iadd hx hb d_M_isLive_21 ?_
      refine lv_istore_n (lv' := [(2, .int (a1 + 1)), (0, .ref (b 0)), (1, .int (a1))]) hx hb d_M_isLive_22 rfl hl (by decide) rfl (fun ls hl => ?_)
      have lp23 : ∀ (u1 : Int32) (K : Option Int32) (_ : ∀ (H : Heap) (locs : List Loc) (ls : Array Slot), K = some r → lv_has ls 3 [] → m_V D b cs σ A s.heap H locs → W p l e { frames := 1, cells := 0, slots := 0, locals := 22 } s m args below meth c H locs 0 0 (m_Qi below args s D b cs A r σ) (F0 m 48 ls [])) (n : Nat) (v2 : Int32) (H : Heap) (locs : List Loc) (ls : Array Slot), f_M_isLive_L23 N σ u1 K n v2 = some r → lv_has ls 3 [(0, .ref (b 0)), (1, .int (u1)), (2, .int (v2))] → m_V D b cs σ A s.heap H locs → W p l e { frames := 1, cells := 0, slots := 0, locals := 22 } s m args below meth c H locs 0 0 (m_Qi below args s D b cs A r σ) (F0 m 23 ls []) := by
        intro u1 K hK n
        induction n with
        | zero => intro v2 H locs ls h hl V; cases h
        | succ n ih =>
          intro v2 H locs ls h hl V
          rw [f_M_isLive_L23] at h
          refine lv_iload_n hx hb d_M_isLive_23 rfl (lv_at hl 2 rfl) ?_
          refine lv_aload_n hx hb d_M_isLive_24 rfl (lv_at hl 0 rfl) ?_
          refine m_get (v := .int (m_S σ 0)) G V 0 4 0 m_w0 rfl in_M (by decide) k_M_79 rfl d_M_isLive_25 ?_
          refine lv_icmp_ge (tgt := 48) hx hb d_M_isLive_28 (by decide) (fun hc => ?_) (fun hc => ?_)
          · replace h := q_ifp hc h
            exact hK _ _ ls h (lv_sub hl [] rfl) V
          · replace h := q_ifn hc h
            refine lv_aload_n hx hb d_M_isLive_31 rfl (lv_at hl 0 rfl) ?_
            refine lv_iload_n hx hb d_M_isLive_32 rfl (lv_at hl 2 rfl) ?_
            refine lv_iload_n hx hb d_M_isLive_33 rfl (lv_at hl 1 rfl) ?_
            obtain ⟨r5, h4, h⟩ := q_bind h
            refine m_cV_i (As := [.int (v2), .int (u1)]) (rest := []) G V hml (c_M_covers l D b cs N σ v2 u1 r5 h4) 0 4 rfl m_w0 g_M_82 e_M_covers ⟨Nat.le_of_ble_eq_true rfl, Nat.le_of_ble_eq_true rfl⟩ ⟨rfl, rfl⟩ ⟨Nat.zero_le _, Nat.zero_le _⟩ rfl hl.1 rfl (Nat.le_of_ble_eq_true rfl) d_M_isLive_34 (fun H locs V => ?_)
            refine lv_if_eq (tgt := 42) hx hb d_M_isLive_37 (by decide) (fun hc => ?_) (fun hc => ?_)
            · replace h := q_ifp hc h
              refine lv_iinc (k := 2) (v := v2 + 1) (lv' := [(2, .int (v2 + 1)), (0, .ref (b 0)), (1, .int (u1))]) hx hb d_M_isLive_42 hl rfl rfl (by decide) rfl (fun ls hl => ?_)
              refine lv_goto (tgt := 23) hx hb d_M_isLive_45 (by decide) ?_
              exact ih _ _ _ ls h (lv_sub hl [1, 2, 0] rfl) V
            · replace h := q_ifn hc h
              refine lv_iconst (v := 0) hx hb d_M_isLive_40 (by decide) ?_
              exact m_zpret_i G hr hlk rfl h rfl V d_M_isLive_41
      replace hl := lv_sub (l' := [(0, .ref (b 0)), (1, .int (a1)), (2, .int (a1 + 1))]) hl [1, 2, 0] rfl
      refine lp23 _ _ ?_ _ _ _ _ ls h hl V
      intro H locs ls h hl V
      refine lv_iconst (v := 1) hx hb d_M_isLive_48 (by decide) ?_
      exact m_zpret_i G hr hlk rfl h rfl V d_M_isLive_49
    · replace h := q_ifn hc h
      refine lv_iconst (v := 0) hx hb d_M_isLive_17 (by decide) ?_
      exact m_zpret_i G hr hlk rfl h rfl V d_M_isLive_18

set_option maxHeartbeats 40000000 in
set_option maxRecDepth 100000 in
theorem c_M_below (l : Launch) (D : va_G) (b : Nat → Nat) (cs : Nat → ClassId) (N : Nat) (σ : m_T) (a1 : Int32) (a2 : Int32) (a3 : Int32) (r : Int32) (h : f_M_below N σ a1 a2 a3 = some r) : m_Ci l y_M_below b_M_below 7 (some .int) { frames := 2, cells := 0, slots := 0, locals := 44 } D b cs σ [.ref (b 0), .int (a1), .int (a2), .int (a3)] r σ := by
  refine m_met_i (own := R_M) (by decide) rfl (Nat.le_of_ble_eq_true rfl) ?_
  intro p e s m args below meth c A G hr hlk hml ls hl V
  have hx := G.1
  have hb := G.2.1
  have hown := G.2.2.1
  have hts := G.2.2.2.1
  have hN := G.2.2.2.2.2
  have hl : lv_has ls 7 [(0, .ref (b 0)), (1, .int (a1)), (2, .int (a2)), (3, .int (a3))] := hl
  unfold f_M_below at h
  refine lv_iconst (v := (-1)) hx hb d_M_below_0 (by decide) ?_
  refine lv_istore (lv' := [(4, .int ((-1))), (0, .ref (b 0)), (1, .int (a1)), (2, .int (a2)), (3, .int (a3))]) hx hb d_M_below_1 hl (by decide) rfl (fun ls hl => ?_)
  refine lv_iconst (v := 0) hx hb d_M_below_3 (by decide) ?_
  refine lv_istore (lv' := [(5, .int (0)), (4, .int ((-1))), (0, .ref (b 0)), (1, .int (a1)), (2, .int (a2)), (3, .int (a3))]) hx hb d_M_below_4 hl (by decide) rfl (fun ls hl => ?_)
  have lp6 : ∀ (u1 : Int32) (u2 : Int32) (u3 : Int32) (K : Int32 → Option Int32) (_ : ∀ (v4 : Int32) (H : Heap) (locs : List Loc) (ls : Array Slot), K v4 = some r → lv_has ls 7 [(4, .int (v4))] → m_V D b cs σ A s.heap H locs → W p l e { frames := 2, cells := 0, slots := 0, locals := 44 } s m args below meth c H locs 0 0 (m_Qi below args s D b cs A r σ) (F0 m 111 ls [])) (n : Nat) (v4 : Int32) (v5 : Int32) (H : Heap) (locs : List Loc) (ls : Array Slot), f_M_below_L6 N σ u1 u2 u3 K n v4 v5 = some r → lv_has ls 7 [(0, .ref (b 0)), (1, .int (u1)), (2, .int (u2)), (3, .int (u3)), (4, .int (v4)), (5, .int (v5))] → m_V D b cs σ A s.heap H locs → W p l e { frames := 2, cells := 0, slots := 0, locals := 44 } s m args below meth c H locs 0 0 (m_Qi below args s D b cs A r σ) (F0 m 6 ls []) := by
    intro u1 u2 u3 K hK n
    induction n with
    | zero => intro v4 v5 H locs ls h hl V; cases h
    | succ n ih =>
      intro v4 v5 H locs ls h hl V
      rw [f_M_below_L6] at h
      refine lv_iload hx hb d_M_below_6 (lv_at hl 5 rfl) ?_
      refine lv_aload_n hx hb d_M_below_8 rfl (lv_at hl 0 rfl) ?_
      refine m_get (v := .int (m_S σ 0)) G V 0 4 0 m_w0 rfl in_M (by decide) k_M_79 rfl d_M_below_9 ?_
      refine lv_icmp_ge (tgt := 111) hx hb d_M_below_12 (by decide) (fun hc => ?_) (fun hc => ?_)
      · replace h := q_ifp hc h
        exact hK _ _ _ ls h (lv_sub hl [4] rfl) V
      · replace h := q_ifn hc h
        refine lv_aload_n hx hb d_M_below_15 rfl (lv_at hl 0 rfl) ?_
        refine m_get (v := .ref (b 2)) G V 0 4 2 m_w0 rfl in_M (by decide) k_M_13 rfl d_M_below_16 ?_
        refine lv_iload hx hb d_M_below_19 (lv_at hl 5 rfl) ?_
        obtain ⟨g1, h⟩ := q_gd_h h
        refine m_iald G V 2 m_w2 g1 d_M_below_21 ?_
        refine lv_iload_n hx hb d_M_below_22 rfl (lv_at hl 1 rfl) ?_
        refine lv_icmp_ne (tgt := 62) hx hb d_M_below_23 (by decide) (fun hc => ?_) (fun hc => ?_)
        · replace h := q_ifn hc h
          refine lv_iconst (v := 0) hx hb d_M_below_62 (by decide) ?_
          refine lv_istore (lv' := [(6, .int (0)), (0, .ref (b 0)), (1, .int (u1)), (2, .int (u2)), (3, .int (u3)), (4, .int (v4)), (5, .int (v5))]) hx hb d_M_below_63 hl (by decide) rfl (fun ls hl => ?_)
          refine lv_iload hx hb d_M_below_65 (lv_at hl 0 rfl) ?_
          refine lv_if_eq (tgt := 105) hx hb d_M_below_67 (by decide) (fun _ => ?_) (fun hc => absurd (by decide) hc)
          refine lv_iinc (k := 6) (v := v5 + 1) (lv' := [(5, .int (v5 + 1)), (6, .int (0)), (0, .ref (b 0)), (1, .int (u1)), (2, .int (u2)), (3, .int (u3)), (4, .int (v4))]) hx hb d_M_below_105 hl rfl rfl (by decide) rfl (fun ls hl => ?_)
          refine lv_goto (tgt := 6) hx hb d_M_below_108 (by decide) ?_
          exact ih _ _ _ _ ls h (lv_sub hl [2, 3, 4, 5, 6, 0] rfl) V
        · replace h := q_ifp hc h
          refine lv_aload_n hx hb d_M_below_26 rfl (lv_at hl 0 rfl) ?_
          refine m_get (v := .ref (b 3)) G V 0 4 3 m_w0 rfl in_M (by decide) k_M_16 rfl d_M_below_27 ?_
          refine lv_iload hx hb d_M_below_30 (lv_at hl 5 rfl) ?_
          obtain ⟨g2, h⟩ := q_gd_h h
          refine m_iald G V 3 m_w3 g2 d_M_below_32 ?_
          refine lv_iload_n hx hb d_M_below_33 rfl (lv_at hl 2 rfl) ?_
          refine lv_icmp_ne (tgt := 62) hx hb d_M_below_34 (by decide) (fun hc => ?_) (fun hc => ?_)
          · replace h := q_ifn hc h
            refine lv_iconst (v := 0) hx hb d_M_below_62 (by decide) ?_
            refine lv_istore (lv' := [(6, .int (0)), (0, .ref (b 0)), (1, .int (u1)), (2, .int (u2)), (3, .int (u3)), (4, .int (v4)), (5, .int (v5))]) hx hb d_M_below_63 hl (by decide) rfl (fun ls hl => ?_)
            refine lv_iload hx hb d_M_below_65 (lv_at hl 0 rfl) ?_
            refine lv_if_eq (tgt := 105) hx hb d_M_below_67 (by decide) (fun _ => ?_) (fun hc => absurd (by decide) hc)
            refine lv_iinc (k := 6) (v := v5 + 1) (lv' := [(5, .int (v5 + 1)), (6, .int (0)), (0, .ref (b 0)), (1, .int (u1)), (2, .int (u2)), (3, .int (u3)), (4, .int (v4))]) hx hb d_M_below_105 hl rfl rfl (by decide) rfl (fun ls hl => ?_)
            refine lv_goto (tgt := 6) hx hb d_M_below_108 (by decide) ?_
            exact ih _ _ _ _ ls h (lv_sub hl [2, 3, 4, 5, 6, 0] rfl) V
          · replace h := q_ifp hc h
            refine lv_aload_n hx hb d_M_below_37 rfl (lv_at hl 0 rfl) ?_
            refine m_get (v := .ref (b 1)) G V 0 4 1 m_w0 rfl in_M (by decide) k_M_7 rfl d_M_below_38 ?_
            refine lv_iload hx hb d_M_below_41 (lv_at hl 5 rfl) ?_
            obtain ⟨g3, h⟩ := q_gd_h h
            refine m_iald G V 1 m_w1 g3 d_M_below_43 ?_
            refine lv_if_ne (tgt := 62) hx hb d_M_below_44 (by decide) (fun hc => ?_) (fun hc => ?_)
            · replace h := q_ifn hc h
              refine lv_iconst (v := 0) hx hb d_M_below_62 (by decide) ?_
              refine lv_istore (lv' := [(6, .int (0)), (0, .ref (b 0)), (1, .int (u1)), (2, .int (u2)), (3, .int (u3)), (4, .int (v4)), (5, .int (v5))]) hx hb d_M_below_63 hl (by decide) rfl (fun ls hl => ?_)
              refine lv_iload hx hb d_M_below_65 (lv_at hl 0 rfl) ?_
              refine lv_if_eq (tgt := 105) hx hb d_M_below_67 (by decide) (fun _ => ?_) (fun hc => absurd (by decide) hc)
              refine lv_iinc (k := 6) (v := v5 + 1) (lv' := [(5, .int (v5 + 1)), (6, .int (0)), (0, .ref (b 0)), (1, .int (u1)), (2, .int (u2)), (3, .int (u3)), (4, .int (v4))]) hx hb d_M_below_105 hl rfl rfl (by decide) rfl (fun ls hl => ?_)
              refine lv_goto (tgt := 6) hx hb d_M_below_108 (by decide) ?_
              exact ih _ _ _ _ ls h (lv_sub hl [2, 3, 4, 5, 6, 0] rfl) V
            · replace h := q_ifp hc h
              refine lv_aload_n hx hb d_M_below_47 rfl (lv_at hl 0 rfl) ?_
              refine m_get (v := .ref (b 4)) G V 0 4 4 m_w0 rfl in_M (by decide) k_M_19 rfl d_M_below_48 ?_
              refine lv_iload hx hb d_M_below_51 (lv_at hl 5 rfl) ?_
              obtain ⟨g4, h⟩ := q_gd_h h
              refine m_iald G V 4 m_w4 g4 d_M_below_53 ?_
              refine lv_iload_n hx hb d_M_below_54 rfl (lv_at hl 3 rfl) ?_
              refine lv_icmp_ge (tgt := 62) hx hb d_M_below_55 (by decide) (fun hc => ?_) (fun hc => ?_)
              · replace h := q_ifp hc h
                refine lv_iconst (v := 0) hx hb d_M_below_62 (by decide) ?_
                refine lv_istore (lv' := [(6, .int (0)), (0, .ref (b 0)), (1, .int (u1)), (2, .int (u2)), (3, .int (u3)), (4, .int (v4)), (5, .int (v5))]) hx hb d_M_below_63 hl (by decide) rfl (fun ls hl => ?_)
                refine lv_iload hx hb d_M_below_65 (lv_at hl 0 rfl) ?_
                refine lv_if_eq (tgt := 105) hx hb d_M_below_67 (by decide) (fun _ => ?_) (fun hc => absurd (by decide) hc)
                refine lv_iinc (k := 6) (v := v5 + 1) (lv' := [(5, .int (v5 + 1)), (6, .int (0)), (0, .ref (b 0)), (1, .int (u1)), (2, .int (u2)), (3, .int (u3)), (4, .int (v4))]) hx hb d_M_below_105 hl rfl rfl (by decide) rfl (fun ls hl => ?_)
                refine lv_goto (tgt := 6) hx hb d_M_below_108 (by decide) ?_
                exact ih _ _ _ _ ls h (lv_sub hl [2, 3, 4, 5, 6, 0] rfl) V
              · replace h := q_ifn hc h
                refine lv_iconst (v := 1) hx hb d_M_below_58 (by decide) ?_
                refine lv_goto (tgt := 63) hx hb d_M_below_59 (by decide) ?_
                refine lv_istore (lv' := [(6, .int (1)), (0, .ref (b 0)), (1, .int (u1)), (2, .int (u2)), (3, .int (u3)), (4, .int (v4)), (5, .int (v5))]) hx hb d_M_below_63 hl (by decide) rfl (fun ls hl => ?_)
                refine lv_iload hx hb d_M_below_65 (lv_at hl 0 rfl) ?_
                refine lv_if_eq (tgt := 105) hx hb d_M_below_67 (by decide) (fun hc => absurd hc (by decide)) (fun _ => ?_)
                refine lv_iload hx hb d_M_below_70 (lv_at hl 5 rfl) ?_
                refine lv_if_lt (tgt := 92) hx hb d_M_below_72 (by decide) (fun hc => ?_) (fun hc => ?_)
                · replace h := q_ifp hc h
                  refine lv_aload_n hx hb d_M_below_92 rfl (lv_at hl 1 rfl) ?_
                  refine lv_iload hx hb d_M_below_93 (lv_at hl 6 rfl) ?_
                  obtain ⟨r6, h5, h⟩ := q_bind h
                  refine m_cV_i (As := [.int (v5)]) (rest := []) G V hml (c_M_isLive l D b cs N σ v5 r6 h5) 0 4 rfl m_w0 g_M_86 e_M_isLive ⟨Nat.le_of_ble_eq_true rfl, Nat.le_of_ble_eq_true rfl⟩ ⟨rfl, rfl⟩ ⟨Nat.zero_le _, Nat.zero_le _⟩ rfl hl.1 rfl (Nat.le_of_ble_eq_true rfl) d_M_below_95 (fun H locs V => ?_)
                  refine lv_if_eq (tgt := 105) hx hb d_M_below_98 (by decide) (fun hc => ?_) (fun hc => ?_)
                  · replace h := q_ifp hc h
                    refine lv_iinc (k := 6) (v := v5 + 1) (lv' := [(5, .int (v5 + 1)), (6, .int (1)), (0, .ref (b 0)), (1, .int (u1)), (2, .int (u2)), (3, .int (u3)), (4, .int (v4))]) hx hb d_M_below_105 hl rfl rfl (by decide) rfl (fun ls hl => ?_)
                    refine lv_goto (tgt := 6) hx hb d_M_below_108 (by decide) ?_
                    exact ih _ _ _ _ ls h (lv_sub hl [2, 3, 4, 5, 6, 0] rfl) V
                  · replace h := q_ifn hc h
                    refine lv_iload hx hb d_M_below_101 (lv_at hl 6 rfl) ?_
                    refine lv_istore (lv' := [(4, .int (v5)), (6, .int (1)), (0, .ref (b 0)), (1, .int (u1)), (2, .int (u2)), (3, .int (u3)), (5, .int (v5))]) hx hb d_M_below_103 hl (by decide) rfl (fun ls hl => ?_)
                    refine lv_iinc (k := 6) (v := v5 + 1) (lv' := [(5, .int (v5 + 1)), (4, .int (v5)), (6, .int (1)), (0, .ref (b 0)), (1, .int (u1)), (2, .int (u2)), (3, .int (u3))]) hx hb d_M_below_105 hl rfl rfl (by decide) rfl (fun ls hl => ?_)
                    refine lv_goto (tgt := 6) hx hb d_M_below_108 (by decide) ?_
                    exact ih _ _ _ _ ls h (lv_sub hl [3, 4, 5, 6, 1, 0] rfl) V
                · replace h := q_ifn hc h
                  refine lv_aload_n hx hb d_M_below_75 rfl (lv_at hl 1 rfl) ?_
                  refine m_get (v := .ref (b 4)) G V 0 4 4 m_w0 rfl in_M (by decide) k_M_19 rfl d_M_below_76 ?_
                  refine lv_iload hx hb d_M_below_79 (lv_at hl 6 rfl) ?_
                  obtain ⟨g7, h⟩ := q_gd_h h
                  refine m_iald G V 4 m_w4 g7 d_M_below_81 ?_
                  refine lv_aload_n hx hb d_M_below_82 rfl (lv_at hl 1 rfl) ?_
                  refine m_get (v := .ref (b 4)) G V 0 4 4 m_w0 rfl in_M (by decide) k_M_19 rfl d_M_below_83 ?_
                  refine lv_iload hx hb d_M_below_86 (lv_at hl 5 rfl) ?_
                  obtain ⟨g8, h⟩ := q_gd_h h
                  refine m_iald G V 4 m_w4 g8 d_M_below_88 ?_
                  refine lv_icmp_le (tgt := 105) hx hb d_M_below_89 (by decide) (fun hc => ?_) (fun hc => ?_)
                  · replace h := q_ifp hc h
                    refine lv_iinc (k := 6) (v := v5 + 1) (lv' := [(5, .int (v5 + 1)), (6, .int (1)), (0, .ref (b 0)), (1, .int (u1)), (2, .int (u2)), (3, .int (u3)), (4, .int (v4))]) hx hb d_M_below_105 hl rfl rfl (by decide) rfl (fun ls hl => ?_)
                    refine lv_goto (tgt := 6) hx hb d_M_below_108 (by decide) ?_
                    exact ih _ _ _ _ ls h (lv_sub hl [2, 3, 4, 5, 6, 0] rfl) V
                  · replace h := q_ifn hc h
                    refine lv_aload_n hx hb d_M_below_92 rfl (lv_at hl 1 rfl) ?_
                    refine lv_iload hx hb d_M_below_93 (lv_at hl 6 rfl) ?_
                    obtain ⟨r10, h9, h⟩ := q_bind h
                    refine m_cV_i (As := [.int (v5)]) (rest := []) G V hml (c_M_isLive l D b cs N σ v5 r10 h9) 0 4 rfl m_w0 g_M_86 e_M_isLive ⟨Nat.le_of_ble_eq_true rfl, Nat.le_of_ble_eq_true rfl⟩ ⟨rfl, rfl⟩ ⟨Nat.zero_le _, Nat.zero_le _⟩ rfl hl.1 rfl (Nat.le_of_ble_eq_true rfl) d_M_below_95 (fun H locs V => ?_)
                    refine lv_if_eq (tgt := 105) hx hb d_M_below_98 (by decide) (fun hc => ?_) (fun hc => ?_)
                    · replace h := q_ifp hc h
                      refine lv_iinc (k := 6) (v := v5 + 1) (lv' := [(5, .int (v5 + 1)), (6, .int (1)), (0, .ref (b 0)), (1, .int (u1)), (2, .int (u2)), (3, .int (u3)), (4, .int (v4))]) hx hb d_M_below_105 hl rfl rfl (by decide) rfl (fun ls hl => ?_)
                      refine lv_goto (tgt := 6) hx hb d_M_below_108 (by decide) ?_
                      exact ih _ _ _ _ ls h (lv_sub hl [2, 3, 4, 5, 6, 0] rfl) V
                    · replace h := q_ifn hc h
                      refine lv_iload hx hb d_M_below_101 (lv_at hl 6 rfl) ?_
                      refine lv_istore (lv' := [(4, .int (v5)), (6, .int (1)), (0, .ref (b 0)), (1, .int (u1)), (2, .int (u2)), (3, .int (u3)), (5, .int (v5))]) hx hb d_M_below_103 hl (by decide) rfl (fun ls hl => ?_)
                      refine lv_iinc (k := 6) (v := v5 + 1) (lv' := [(5, .int (v5 + 1)), (4, .int (v5)), (6, .int (1)), (0, .ref (b 0)), (1, .int (u1)), (2, .int (u2)), (3, .int (u3))]) hx hb d_M_below_105 hl rfl rfl (by decide) rfl (fun ls hl => ?_)
                      refine lv_goto (tgt := 6) hx hb d_M_below_108 (by decide) ?_
                      exact ih _ _ _ _ ls h (lv_sub hl [3, 4, 5, 6, 1, 0] rfl) V
  replace hl := lv_sub (l' := [(0, .ref (b 0)), (1, .int (a1)), (2, .int (a2)), (3, .int (a3)), (4, .int ((-1))), (5, .int (0))]) hl [2, 3, 4, 5, 1, 0] rfl
  refine lp6 _ _ _ _ ?_ _ _ _ _ _ ls h hl V
  intro v4 H locs ls h hl V
  refine lv_iload hx hb d_M_below_111 (lv_at hl 0 rfl) ?_
  exact m_pret_i G hr hlk h rfl V d_M_below_113

set_option maxHeartbeats 40000000 in
set_option maxRecDepth 100000 in
theorem c_M_tabletWith (l : Launch) (D : va_G) (b : Nat → Nat) (cs : Nat → ClassId) (N : Nat) (σ : m_T) (a1 : Int32) (r : Int32) (h : f_M_tabletWith N σ a1 = some r) : m_Ci l y_M_tabletWith b_M_tabletWith 4 (some .int) { frames := 0, cells := 0, slots := 0, locals := 0 } D b cs σ [.ref (b 0), .int (a1)] r σ := by
  refine m_met_i (own := R_M) (by decide) rfl (Nat.le_of_ble_eq_true rfl) ?_
  intro p e s m args below meth c A G hr hlk hml ls hl V
  have hx := G.1
  have hb := G.2.1
  have hown := G.2.2.1
  have hts := G.2.2.2.1
  have hN := G.2.2.2.2.2
  have hl : lv_has ls 4 [(0, .ref (b 0)), (1, .int (a1))] := hl
  unfold f_M_tabletWith at h
  refine lv_iconst (v := 0) hx hb d_M_tabletWith_0 (by decide) ?_
  refine lv_istore_n (lv' := [(2, .int (0)), (0, .ref (b 0)), (1, .int (a1))]) hx hb d_M_tabletWith_1 rfl hl (by decide) rfl (fun ls hl => ?_)
  refine lv_iconst (v := 0) hx hb d_M_tabletWith_2 (by decide) ?_
  refine lv_istore_n (lv' := [(3, .int (0)), (2, .int (0)), (0, .ref (b 0)), (1, .int (a1))]) hx hb d_M_tabletWith_3 rfl hl (by decide) rfl (fun ls hl => ?_)
  have lp4 : ∀ (u1 : Int32) (K : Int32 → Option Int32) (_ : ∀ (v2 : Int32) (H : Heap) (locs : List Loc) (ls : Array Slot), K v2 = some r → lv_has ls 4 [(2, .int (v2))] → m_V D b cs σ A s.heap H locs → W p l e { frames := 0, cells := 0, slots := 0, locals := 0 } s m args below meth c H locs 0 0 (m_Qi below args s D b cs A r σ) (F0 m 34 ls [])) (n : Nat) (v2 : Int32) (v3 : Int32) (H : Heap) (locs : List Loc) (ls : Array Slot), f_M_tabletWith_L4 N σ u1 K n v2 v3 = some r → lv_has ls 4 [(0, .ref (b 0)), (1, .int (u1)), (2, .int (v2)), (3, .int (v3))] → m_V D b cs σ A s.heap H locs → W p l e { frames := 0, cells := 0, slots := 0, locals := 0 } s m args below meth c H locs 0 0 (m_Qi below args s D b cs A r σ) (F0 m 4 ls []) := by
    intro u1 K hK n
    induction n with
    | zero => intro v2 v3 H locs ls h hl V; cases h
    | succ n ih =>
      intro v2 v3 H locs ls h hl V
      rw [f_M_tabletWith_L4] at h
      refine lv_iload_n hx hb d_M_tabletWith_4 rfl (lv_at hl 3 rfl) ?_
      refine lv_aload_n hx hb d_M_tabletWith_5 rfl (lv_at hl 0 rfl) ?_
      refine m_get (v := .int (m_S σ 9)) G V 0 4 9 m_w0 rfl in_M (by decide) k_M_34 rfl d_M_tabletWith_6 ?_
      refine lv_icmp_ge (tgt := 34) hx hb d_M_tabletWith_9 (by decide) (fun hc => ?_) (fun hc => ?_)
      · replace h := q_ifp hc h
        exact hK _ _ _ ls h (lv_sub hl [2] rfl) V
      · replace h := q_ifn hc h
        refine lv_aload_n hx hb d_M_tabletWith_12 rfl (lv_at hl 0 rfl) ?_
        refine m_get (v := .ref (b 9)) G V 0 4 10 m_w0 rfl in_M (by decide) k_M_38 rfl d_M_tabletWith_13 ?_
        refine lv_iload_n hx hb d_M_tabletWith_16 rfl (lv_at hl 3 rfl) ?_
        obtain ⟨g1, h⟩ := q_gd_h h
        refine m_iald G V 9 m_w9 g1 d_M_tabletWith_17 ?_
        refine lv_iload_n hx hb d_M_tabletWith_18 rfl (lv_at hl 1 rfl) ?_
        refine lv_icmp_gt (tgt := 26) hx hb d_M_tabletWith_19 (by decide) (fun hc => ?_) (fun hc => ?_)
        · replace h := q_ifp hc h
          refine lv_iload_n hx hb d_M_tabletWith_26 rfl (lv_at hl 2 rfl) ?_
          refine lv_istore_n (lv' := [(2, .int (v2)), (0, .ref (b 0)), (1, .int (u1)), (3, .int (v3))]) hx hb d_M_tabletWith_27 rfl hl (by decide) rfl (fun ls hl => ?_)
          refine lv_iinc (k := 3) (v := v3 + 1) (lv' := [(3, .int (v3 + 1)), (2, .int (v2)), (0, .ref (b 0)), (1, .int (u1))]) hx hb d_M_tabletWith_28 hl rfl rfl (by decide) rfl (fun ls hl => ?_)
          refine lv_goto (tgt := 4) hx hb d_M_tabletWith_31 (by decide) ?_
          exact ih _ _ _ _ ls h (lv_sub hl [2, 3, 1, 0] rfl) V
        · replace h := q_ifn hc h
          refine lv_iload_n hx hb d_M_tabletWith_22 rfl (lv_at hl 3 rfl) ?_
          refine lv_goto (tgt := 27) hx hb d_M_tabletWith_23 (by decide) ?_
          refine lv_istore_n (lv' := [(2, .int (v3)), (0, .ref (b 0)), (1, .int (u1)), (3, .int (v3))]) hx hb d_M_tabletWith_27 rfl hl (by decide) rfl (fun ls hl => ?_)
          refine lv_iinc (k := 3) (v := v3 + 1) (lv' := [(3, .int (v3 + 1)), (2, .int (v3)), (0, .ref (b 0)), (1, .int (u1))]) hx hb d_M_tabletWith_28 hl rfl rfl (by decide) rfl (fun ls hl => ?_)
          refine lv_goto (tgt := 4) hx hb d_M_tabletWith_31 (by decide) ?_
          exact ih _ _ _ _ ls h (lv_sub hl [2, 3, 1, 0] rfl) V
  replace hl := lv_sub (l' := [(0, .ref (b 0)), (1, .int (a1)), (2, .int (0)), (3, .int (0))]) hl [2, 3, 1, 0] rfl
  refine lp4 _ _ ?_ _ _ _ _ _ ls h hl V
  intro v2 H locs ls h hl V
  refine lv_iload_n hx hb d_M_tabletWith_34 rfl (lv_at hl 0 rfl) ?_
  exact m_pret_i G hr hlk h rfl V d_M_tabletWith_35

set_option maxHeartbeats 40000000 in
set_option maxRecDepth 100000 in
theorem c_M_make (l : Launch) (D : va_G) (b : Nat → Nat) (cs : Nat → ClassId) (N : Nat) (σ : m_T) (a1 : Int32) (a2 : Int32) (a3 : Int32) (a4 : Int32) (a5 : Int32) (σ' : m_T) (h : f_M_make N σ a1 a2 a3 a4 a5 = some σ') : m_Cv l y_M_make b_M_make 6 none { frames := 1, cells := 0, slots := 0, locals := 23 } D b cs σ [.ref (b 0), .int (a1), .int (a2), .int (a3), .int (a4), .int (a5)] σ' := by
  refine m_met_v (own := R_M) (by decide) rfl (Nat.le_of_ble_eq_true rfl) ?_
  intro p e s m args below meth c A G hr hlk hml ls hl V
  have hx := G.1
  have hb := G.2.1
  have hown := G.2.2.1
  have hts := G.2.2.2.1
  have hN := G.2.2.2.2.2
  have hl : lv_has ls 6 [(0, .ref (b 0)), (1, .int (a1)), (2, .int (a2)), (3, .int (a3)), (4, .int (a4)), (5, .int (a5))] := hl
  unfold f_M_make at h
  refine lv_aload_n hx hb d_M_make_0 rfl (lv_at hl 0 rfl) ?_
  refine m_get (v := .ref (b 1)) G V 0 4 1 m_w0 rfl in_M (by decide) k_M_7 rfl d_M_make_1 ?_
  refine lv_aload_n hx hb d_M_make_4 rfl (lv_at hl 0 rfl) ?_
  refine m_get (v := .int (m_S σ 0)) G V 0 4 0 m_w0 rfl in_M (by decide) k_M_79 rfl d_M_make_5 ?_
  refine lv_iload_n hx hb d_M_make_8 rfl (lv_at hl 1 rfl) ?_
  obtain ⟨g1, h⟩ := q_gd_h h
  obtain ⟨s2, e2, h⟩ := q_let_h h
  refine m_iast (σ' := s2) G V 1 m_w1 (m_u1.trans (congrArg (m_W b cs) e2.symm)) g1 d_M_make_9 (fun H locs V => ?_)
  refine lv_aload_n hx hb d_M_make_10 rfl (lv_at hl 0 rfl) ?_
  refine m_get (v := .ref (b 2)) G V 0 4 2 m_w0 rfl in_M (by decide) k_M_13 rfl d_M_make_11 ?_
  refine lv_aload_n hx hb d_M_make_14 rfl (lv_at hl 0 rfl) ?_
  refine m_get (v := .int (m_S s2 0)) G V 0 4 0 m_w0 rfl in_M (by decide) k_M_79 rfl d_M_make_15 ?_
  refine lv_iload_n hx hb d_M_make_18 rfl (lv_at hl 2 rfl) ?_
  obtain ⟨g3, h⟩ := q_gd_h h
  obtain ⟨s4, e4, h⟩ := q_let_h h
  refine m_iast (σ' := s4) G V 2 m_w2 (m_u2.trans (congrArg (m_W b cs) e4.symm)) g3 d_M_make_19 (fun H locs V => ?_)
  refine lv_aload_n hx hb d_M_make_20 rfl (lv_at hl 0 rfl) ?_
  refine m_get (v := .ref (b 3)) G V 0 4 3 m_w0 rfl in_M (by decide) k_M_16 rfl d_M_make_21 ?_
  refine lv_aload_n hx hb d_M_make_24 rfl (lv_at hl 0 rfl) ?_
  refine m_get (v := .int (m_S s4 0)) G V 0 4 0 m_w0 rfl in_M (by decide) k_M_79 rfl d_M_make_25 ?_
  refine lv_iload_n hx hb d_M_make_28 rfl (lv_at hl 3 rfl) ?_
  obtain ⟨g5, h⟩ := q_gd_h h
  obtain ⟨s6, e6, h⟩ := q_let_h h
  refine m_iast (σ' := s6) G V 3 m_w3 (m_u3.trans (congrArg (m_W b cs) e6.symm)) g5 d_M_make_29 (fun H locs V => ?_)
  refine lv_aload_n hx hb d_M_make_30 rfl (lv_at hl 0 rfl) ?_
  refine m_get (v := .ref (b 4)) G V 0 4 4 m_w0 rfl in_M (by decide) k_M_19 rfl d_M_make_31 ?_
  refine lv_aload_n hx hb d_M_make_34 rfl (lv_at hl 0 rfl) ?_
  refine m_get (v := .int (m_S s6 0)) G V 0 4 0 m_w0 rfl in_M (by decide) k_M_79 rfl d_M_make_35 ?_
  refine lv_iload hx hb d_M_make_38 (lv_at hl 4 rfl) ?_
  obtain ⟨g7, h⟩ := q_gd_h h
  obtain ⟨s8, e8, h⟩ := q_let_h h
  refine m_iast (σ' := s8) G V 4 m_w4 (m_u4.trans (congrArg (m_W b cs) e8.symm)) g7 d_M_make_40 (fun H locs V => ?_)
  refine lv_aload_n hx hb d_M_make_41 rfl (lv_at hl 0 rfl) ?_
  refine m_get (v := .ref (b 5)) G V 0 4 5 m_w0 rfl in_M (by decide) k_M_22 rfl d_M_make_42 ?_
  refine lv_aload_n hx hb d_M_make_45 rfl (lv_at hl 0 rfl) ?_
  refine m_get (v := .int (m_S s8 0)) G V 0 4 0 m_w0 rfl in_M (by decide) k_M_79 rfl d_M_make_46 ?_
  refine lv_iload hx hb d_M_make_49 (lv_at hl 5 rfl) ?_
  obtain ⟨g9, h⟩ := q_gd_h h
  obtain ⟨s10, e10, h⟩ := q_let_h h
  refine m_iast (σ' := s10) G V 5 m_w5 (m_u5.trans (congrArg (m_W b cs) e10.symm)) g9 d_M_make_51 (fun H locs V => ?_)
  refine lv_aload_n hx hb d_M_make_52 rfl (lv_at hl 0 rfl) ?_
  refine m_get (v := .ref (b 6)) G V 0 4 6 m_w0 rfl in_M (by decide) k_M_25 rfl d_M_make_53 ?_
  refine lv_aload_n hx hb d_M_make_56 rfl (lv_at hl 0 rfl) ?_
  refine m_get (v := .int (m_S s10 0)) G V 0 4 0 m_w0 rfl in_M (by decide) k_M_79 rfl d_M_make_57 ?_
  refine lv_aload_n hx hb d_M_make_60 rfl (lv_at hl 0 rfl) ?_
  refine m_get (v := .int (m_S s10 27)) G V 0 4 27 m_w0 rfl in_M (by decide) k_M_89 rfl d_M_make_61 ?_
  obtain ⟨g11, h⟩ := q_gd_h h
  obtain ⟨s12, e12, h⟩ := q_let_h h
  refine m_iast (σ' := s12) G V 6 m_w6 (m_u6.trans (congrArg (m_W b cs) e12.symm)) g11 d_M_make_64 (fun H locs V => ?_)
  refine lv_aload_n hx hb d_M_make_65 rfl (lv_at hl 0 rfl) ?_
  refine m_get (v := .ref (b 7)) G V 0 4 7 m_w0 rfl in_M (by decide) k_M_28 rfl d_M_make_66 ?_
  refine lv_aload_n hx hb d_M_make_69 rfl (lv_at hl 0 rfl) ?_
  refine m_get (v := .int (m_S s12 0)) G V 0 4 0 m_w0 rfl in_M (by decide) k_M_79 rfl d_M_make_70 ?_
  refine lv_aload_n hx hb d_M_make_73 rfl (lv_at hl 0 rfl) ?_
  refine lv_iload_n hx hb d_M_make_74 rfl (lv_at hl 2 rfl) ?_
  obtain ⟨r14, h13, h⟩ := q_bind h
  refine m_cV_i (As := [.int (a2)]) (rest := [.int (m_S s12 0), .ref (b 7)]) G V hml (c_M_tabletWith l D b cs N s12 a2 r14 h13) 0 4 rfl m_w0 g_M_92 e_M_tabletWith ⟨Nat.le_of_ble_eq_true rfl, Nat.le_of_ble_eq_true rfl⟩ ⟨rfl, rfl⟩ ⟨Nat.zero_le _, Nat.zero_le _⟩ rfl hl.1 rfl (Nat.le_of_ble_eq_true rfl) d_M_make_75 (fun H locs V => ?_)
  obtain ⟨g15, h⟩ := q_gd_h h
  obtain ⟨s16, e16, h⟩ := q_let_h h
  refine m_iast (σ' := s16) G V 7 m_w7 (m_u7.trans (congrArg (m_W b cs) e16.symm)) g15 d_M_make_78 (fun H locs V => ?_)
  refine lv_aload_n hx hb d_M_make_79 rfl (lv_at hl 0 rfl) ?_
  refine m_get (v := .ref (b 8)) G V 0 4 8 m_w0 rfl in_M (by decide) k_M_31 rfl d_M_make_80 ?_
  refine lv_aload_n hx hb d_M_make_83 rfl (lv_at hl 0 rfl) ?_
  refine m_get (v := .int (m_S s16 0)) G V 0 4 0 m_w0 rfl in_M (by decide) k_M_79 rfl d_M_make_84 ?_
  refine lv_iconst (v := (-1)) hx hb d_M_make_87 (by decide) ?_
  obtain ⟨g17, h⟩ := q_gd_h h
  obtain ⟨s18, e18, h⟩ := q_let_h h
  refine m_iast (σ' := s18) G V 8 m_w8 (m_u8.trans (congrArg (m_W b cs) e18.symm)) g17 d_M_make_88 (fun H locs V => ?_)
  refine lv_aload_n hx hb d_M_make_89 rfl (lv_at hl 0 rfl) ?_
  refine lv_dup hx hb d_M_make_90 rfl ?_
  refine m_get (v := .int (m_S s18 0)) G V 0 4 0 m_w0 rfl in_M (by decide) k_M_79 rfl d_M_make_91 ?_
  refine lv_iconst (v := 1) hx hb d_M_make_94 (by decide) ?_
  refine lv_iadd hx hb d_M_make_95 ?_
  obtain ⟨s19, e19, h⟩ := q_let_h h
  refine m_put (σ' := s19) (ty := .int) G V 0 4 0 m_w0 rfl in_M tt_M_ok n_M (by decide) k_M_79 rfl rfl rfl rfl (Nat.le_of_ble_eq_true rfl) (m_uM0.trans (congrArg (m_W b cs) e19.symm)) d_M_make_96 (fun H locs V => ?_)
  exact m_ret_v G hr hlk h V d_M_make_99

set_option maxHeartbeats 40000000 in
set_option maxRecDepth 100000 in
theorem c_M_move (l : Launch) (D : va_G) (b : Nat → Nat) (cs : Nat → ClassId) (N : Nat) (σ : m_T) (a1 : Int32) (a2 : Int32) (σ' : m_T) (h : f_M_move N σ a1 a2 = some σ') : m_Cv l y_M_move b_M_move 3 none { frames := 0, cells := 0, slots := 0, locals := 0 } D b cs σ [.ref (b 0), .int (a1), .int (a2)] σ' := by
  refine m_met_v (own := R_M) (by decide) rfl (Nat.le_of_ble_eq_true rfl) ?_
  intro p e s m args below meth c A G hr hlk hml ls hl V
  have hx := G.1
  have hb := G.2.1
  have hown := G.2.2.1
  have hts := G.2.2.2.1
  have hN := G.2.2.2.2.2
  have hl : lv_has ls 3 [(0, .ref (b 0)), (1, .int (a1)), (2, .int (a2))] := hl
  unfold f_M_move at h
  refine lv_aload_n hx hb d_M_move_0 rfl (lv_at hl 0 rfl) ?_
  refine m_get (v := .ref (b 1)) G V 0 4 1 m_w0 rfl in_M (by decide) k_M_7 rfl d_M_move_1 ?_
  refine lv_iload_n hx hb d_M_move_4 rfl (lv_at hl 2 rfl) ?_
  refine lv_aload_n hx hb d_M_move_5 rfl (lv_at hl 0 rfl) ?_
  refine m_get (v := .ref (b 1)) G V 0 4 1 m_w0 rfl in_M (by decide) k_M_7 rfl d_M_move_6 ?_
  refine lv_iload_n hx hb d_M_move_9 rfl (lv_at hl 1 rfl) ?_
  obtain ⟨g1, h⟩ := q_gd_h h
  refine m_iald G V 1 m_w1 g1 d_M_move_10 ?_
  obtain ⟨g2, h⟩ := q_gd_h h
  obtain ⟨s3, e3, h⟩ := q_let_h h
  refine m_iast (σ' := s3) G V 1 m_w1 (m_u1.trans (congrArg (m_W b cs) e3.symm)) g2 d_M_move_11 (fun H locs V => ?_)
  refine lv_aload_n hx hb d_M_move_12 rfl (lv_at hl 0 rfl) ?_
  refine m_get (v := .ref (b 2)) G V 0 4 2 m_w0 rfl in_M (by decide) k_M_13 rfl d_M_move_13 ?_
  refine lv_iload_n hx hb d_M_move_16 rfl (lv_at hl 2 rfl) ?_
  refine lv_aload_n hx hb d_M_move_17 rfl (lv_at hl 0 rfl) ?_
  refine m_get (v := .ref (b 2)) G V 0 4 2 m_w0 rfl in_M (by decide) k_M_13 rfl d_M_move_18 ?_
  refine lv_iload_n hx hb d_M_move_21 rfl (lv_at hl 1 rfl) ?_
  obtain ⟨g4, h⟩ := q_gd_h h
  refine m_iald G V 2 m_w2 g4 d_M_move_22 ?_
  obtain ⟨g5, h⟩ := q_gd_h h
  obtain ⟨s6, e6, h⟩ := q_let_h h
  refine m_iast (σ' := s6) G V 2 m_w2 (m_u2.trans (congrArg (m_W b cs) e6.symm)) g5 d_M_move_23 (fun H locs V => ?_)
  refine lv_aload_n hx hb d_M_move_24 rfl (lv_at hl 0 rfl) ?_
  refine m_get (v := .ref (b 3)) G V 0 4 3 m_w0 rfl in_M (by decide) k_M_16 rfl d_M_move_25 ?_
  refine lv_iload_n hx hb d_M_move_28 rfl (lv_at hl 2 rfl) ?_
  refine lv_aload_n hx hb d_M_move_29 rfl (lv_at hl 0 rfl) ?_
  refine m_get (v := .ref (b 3)) G V 0 4 3 m_w0 rfl in_M (by decide) k_M_16 rfl d_M_move_30 ?_
  refine lv_iload_n hx hb d_M_move_33 rfl (lv_at hl 1 rfl) ?_
  obtain ⟨g7, h⟩ := q_gd_h h
  refine m_iald G V 3 m_w3 g7 d_M_move_34 ?_
  obtain ⟨g8, h⟩ := q_gd_h h
  obtain ⟨s9, e9, h⟩ := q_let_h h
  refine m_iast (σ' := s9) G V 3 m_w3 (m_u3.trans (congrArg (m_W b cs) e9.symm)) g8 d_M_move_35 (fun H locs V => ?_)
  refine lv_aload_n hx hb d_M_move_36 rfl (lv_at hl 0 rfl) ?_
  refine m_get (v := .ref (b 4)) G V 0 4 4 m_w0 rfl in_M (by decide) k_M_19 rfl d_M_move_37 ?_
  refine lv_iload_n hx hb d_M_move_40 rfl (lv_at hl 2 rfl) ?_
  refine lv_aload_n hx hb d_M_move_41 rfl (lv_at hl 0 rfl) ?_
  refine m_get (v := .ref (b 4)) G V 0 4 4 m_w0 rfl in_M (by decide) k_M_19 rfl d_M_move_42 ?_
  refine lv_iload_n hx hb d_M_move_45 rfl (lv_at hl 1 rfl) ?_
  obtain ⟨g10, h⟩ := q_gd_h h
  refine m_iald G V 4 m_w4 g10 d_M_move_46 ?_
  obtain ⟨g11, h⟩ := q_gd_h h
  obtain ⟨s12, e12, h⟩ := q_let_h h
  refine m_iast (σ' := s12) G V 4 m_w4 (m_u4.trans (congrArg (m_W b cs) e12.symm)) g11 d_M_move_47 (fun H locs V => ?_)
  refine lv_aload_n hx hb d_M_move_48 rfl (lv_at hl 0 rfl) ?_
  refine m_get (v := .ref (b 5)) G V 0 4 5 m_w0 rfl in_M (by decide) k_M_22 rfl d_M_move_49 ?_
  refine lv_iload_n hx hb d_M_move_52 rfl (lv_at hl 2 rfl) ?_
  refine lv_aload_n hx hb d_M_move_53 rfl (lv_at hl 0 rfl) ?_
  refine m_get (v := .ref (b 5)) G V 0 4 5 m_w0 rfl in_M (by decide) k_M_22 rfl d_M_move_54 ?_
  refine lv_iload_n hx hb d_M_move_57 rfl (lv_at hl 1 rfl) ?_
  obtain ⟨g13, h⟩ := q_gd_h h
  refine m_iald G V 5 m_w5 g13 d_M_move_58 ?_
  obtain ⟨g14, h⟩ := q_gd_h h
  obtain ⟨s15, e15, h⟩ := q_let_h h
  refine m_iast (σ' := s15) G V 5 m_w5 (m_u5.trans (congrArg (m_W b cs) e15.symm)) g14 d_M_move_59 (fun H locs V => ?_)
  refine lv_aload_n hx hb d_M_move_60 rfl (lv_at hl 0 rfl) ?_
  refine m_get (v := .ref (b 6)) G V 0 4 6 m_w0 rfl in_M (by decide) k_M_25 rfl d_M_move_61 ?_
  refine lv_iload_n hx hb d_M_move_64 rfl (lv_at hl 2 rfl) ?_
  refine lv_aload_n hx hb d_M_move_65 rfl (lv_at hl 0 rfl) ?_
  refine m_get (v := .ref (b 6)) G V 0 4 6 m_w0 rfl in_M (by decide) k_M_25 rfl d_M_move_66 ?_
  refine lv_iload_n hx hb d_M_move_69 rfl (lv_at hl 1 rfl) ?_
  obtain ⟨g16, h⟩ := q_gd_h h
  refine m_iald G V 6 m_w6 g16 d_M_move_70 ?_
  obtain ⟨g17, h⟩ := q_gd_h h
  obtain ⟨s18, e18, h⟩ := q_let_h h
  refine m_iast (σ' := s18) G V 6 m_w6 (m_u6.trans (congrArg (m_W b cs) e18.symm)) g17 d_M_move_71 (fun H locs V => ?_)
  refine lv_aload_n hx hb d_M_move_72 rfl (lv_at hl 0 rfl) ?_
  refine m_get (v := .ref (b 7)) G V 0 4 7 m_w0 rfl in_M (by decide) k_M_28 rfl d_M_move_73 ?_
  refine lv_iload_n hx hb d_M_move_76 rfl (lv_at hl 2 rfl) ?_
  refine lv_aload_n hx hb d_M_move_77 rfl (lv_at hl 0 rfl) ?_
  refine m_get (v := .ref (b 7)) G V 0 4 7 m_w0 rfl in_M (by decide) k_M_28 rfl d_M_move_78 ?_
  refine lv_iload_n hx hb d_M_move_81 rfl (lv_at hl 1 rfl) ?_
  obtain ⟨g19, h⟩ := q_gd_h h
  refine m_iald G V 7 m_w7 g19 d_M_move_82 ?_
  obtain ⟨g20, h⟩ := q_gd_h h
  obtain ⟨s21, e21, h⟩ := q_let_h h
  refine m_iast (σ' := s21) G V 7 m_w7 (m_u7.trans (congrArg (m_W b cs) e21.symm)) g20 d_M_move_83 (fun H locs V => ?_)
  refine lv_aload_n hx hb d_M_move_84 rfl (lv_at hl 0 rfl) ?_
  refine m_get (v := .ref (b 8)) G V 0 4 8 m_w0 rfl in_M (by decide) k_M_31 rfl d_M_move_85 ?_
  refine lv_iload_n hx hb d_M_move_88 rfl (lv_at hl 2 rfl) ?_
  refine lv_aload_n hx hb d_M_move_89 rfl (lv_at hl 0 rfl) ?_
  refine m_get (v := .ref (b 8)) G V 0 4 8 m_w0 rfl in_M (by decide) k_M_31 rfl d_M_move_90 ?_
  refine lv_iload_n hx hb d_M_move_93 rfl (lv_at hl 1 rfl) ?_
  obtain ⟨g22, h⟩ := q_gd_h h
  refine m_iald G V 8 m_w8 g22 d_M_move_94 ?_
  obtain ⟨g23, h⟩ := q_gd_h h
  obtain ⟨s24, e24, h⟩ := q_let_h h
  refine m_iast (σ' := s24) G V 8 m_w8 (m_u8.trans (congrArg (m_W b cs) e24.symm)) g23 d_M_move_95 (fun H locs V => ?_)
  exact m_ret_v G hr hlk h V d_M_move_96

set_option maxHeartbeats 40000000 in
set_option maxRecDepth 100000 in
theorem c_M_takes (l : Launch) (D : va_G) (b : Nat → Nat) (cs : Nat → ClassId) (N : Nat) (σ : m_T) (a1 : Int32) (r : Int32) (h : f_M_takes N σ a1 = some r) : m_Ci l y_M_takes b_M_takes 2 (some .boolean) { frames := 1, cells := 0, slots := 0, locals := 20 } D b cs σ [.ref (b 0), .int (a1)] r σ := by
  refine m_met_i (own := R_M) (by decide) rfl (Nat.le_of_ble_eq_true rfl) ?_
  intro p e s m args below meth c A G hr hlk hml ls hl V
  have hx := G.1
  have hb := G.2.1
  have hown := G.2.2.1
  have hts := G.2.2.2.1
  have hN := G.2.2.2.2.2
  have hl : lv_has ls 2 [(0, .ref (b 0)), (1, .int (a1))] := hl
  unfold f_M_takes at h
  refine lv_iload_n hx hb d_M_takes_0 rfl (lv_at hl 1 rfl) ?_
  obtain ⟨r2, h1, h⟩ := q_bind h
  refine q_cS_i (As := [.int (a1)]) (rest := []) hx hb hown hts hN hml (c_M_isRow l a1 r2 h1) g_M_96 e_M_isRow ⟨Nat.le_of_ble_eq_true rfl, Nat.le_of_ble_eq_true rfl⟩ ⟨rfl, rfl⟩ ⟨Nat.zero_le _, Nat.zero_le _⟩ rfl hl.1 rfl (Nat.le_of_ble_eq_true rfl) d_M_takes_1 ?_
  refine lv_if_eq (tgt := 34) hx hb d_M_takes_4 (by decide) (fun hc => ?_) (fun hc => ?_)
  · replace h := q_ifp hc h
    refine lv_iconst (v := 0) hx hb d_M_takes_34 (by decide) ?_
    exact m_zpret_i G hr hlk rfl h rfl V d_M_takes_35
  · replace h := q_ifn hc h
    refine lv_aload_n hx hb d_M_takes_7 rfl (lv_at hl 0 rfl) ?_
    refine m_get (v := .int (m_S σ 15)) G V 0 4 15 m_w0 rfl in_M (by decide) k_M_99 rfl d_M_takes_8 ?_
    refine lv_iconst (v := 4) hx hb d_M_takes_11 (by decide) ?_
    refine lv_icmp_ge (tgt := 34) hx hb d_M_takes_12 (by decide) (fun hc => ?_) (fun hc => ?_)
    · replace h := q_ifp hc h
      refine lv_iconst (v := 0) hx hb d_M_takes_34 (by decide) ?_
      exact m_zpret_i G hr hlk rfl h rfl V d_M_takes_35
    · replace h := q_ifn hc h
      refine lv_aload_n hx hb d_M_takes_15 rfl (lv_at hl 0 rfl) ?_
      refine m_get (v := .int (m_S σ 15)) G V 0 4 15 m_w0 rfl in_M (by decide) k_M_99 rfl d_M_takes_16 ?_
      refine lv_if_eq (tgt := 30) hx hb d_M_takes_19 (by decide) (fun hc => ?_) (fun hc => ?_)
      · replace h := q_ifp hc h
        refine lv_iconst (v := 1) hx hb d_M_takes_30 (by decide) ?_
        refine lv_goto (tgt := 35) hx hb d_M_takes_31 (by decide) ?_
        exact m_zpret_i G hr hlk rfl h rfl V d_M_takes_35
      · replace h := q_ifn hc h
        refine lv_iload_n hx hb d_M_takes_22 rfl (lv_at hl 1 rfl) ?_
        refine lv_aload_n hx hb d_M_takes_23 rfl (lv_at hl 0 rfl) ?_
        refine m_get (v := .int (m_S σ 17)) G V 0 4 17 m_w0 rfl in_M (by decide) k_M_102 rfl d_M_takes_24 ?_
        refine lv_icmp_ne (tgt := 34) hx hb d_M_takes_27 (by decide) (fun hc => ?_) (fun hc => ?_)
        · replace h := q_ifn hc h
          refine lv_iconst (v := 0) hx hb d_M_takes_34 (by decide) ?_
          exact m_zpret_i G hr hlk rfl h rfl V d_M_takes_35
        · replace h := q_ifp hc h
          refine lv_iconst (v := 1) hx hb d_M_takes_30 (by decide) ?_
          refine lv_goto (tgt := 35) hx hb d_M_takes_31 (by decide) ?_
          exact m_zpret_i G hr hlk rfl h rfl V d_M_takes_35

set_option maxHeartbeats 40000000 in
set_option maxRecDepth 100000 in
theorem c_M_change (l : Launch) (D : va_G) (b : Nat → Nat) (cs : Nat → ClassId) (N : Nat) (σ : m_T) (a1 : Int32) (a2 : Int32) (a3 : Int32) (a4 : Int32) (a5 : Int32) (σ' : m_T) (h : f_M_change N σ a1 a2 a3 a4 a5 = some σ') : m_Cv l y_M_change b_M_change 6 none { frames := 0, cells := 0, slots := 0, locals := 0 } D b cs σ [.ref (b 0), .int (a1), .int (a2), .int (a3), .int (a4), .int (a5)] σ' := by
  refine m_met_v (own := R_M) (by decide) rfl (Nat.le_of_ble_eq_true rfl) ?_
  intro p e s m args below meth c A G hr hlk hml ls hl V
  have hx := G.1
  have hb := G.2.1
  have hown := G.2.2.1
  have hts := G.2.2.2.1
  have hN := G.2.2.2.2.2
  have hl : lv_has ls 6 [(0, .ref (b 0)), (1, .int (a1)), (2, .int (a2)), (3, .int (a3)), (4, .int (a4)), (5, .int (a5))] := hl
  unfold f_M_change at h
  refine lv_aload_n hx hb d_M_change_0 rfl (lv_at hl 0 rfl) ?_
  refine lv_iload_n hx hb d_M_change_1 rfl (lv_at hl 2 rfl) ?_
  obtain ⟨s1, e1, h⟩ := q_let_h h
  refine m_put (σ' := s1) (ty := .int) G V 0 4 17 m_w0 rfl in_M tt_M_ok n_M (by decide) k_M_102 rfl rfl rfl rfl (Nat.le_of_ble_eq_true rfl) (m_uM17.trans (congrArg (m_W b cs) e1.symm)) d_M_change_2 (fun H locs V => ?_)
  refine lv_aload_n hx hb d_M_change_5 rfl (lv_at hl 0 rfl) ?_
  refine m_get (v := .ref (b 13)) G V 0 4 16 m_w0 rfl in_M (by decide) k_M_50 rfl d_M_change_6 ?_
  refine lv_aload_n hx hb d_M_change_9 rfl (lv_at hl 0 rfl) ?_
  refine m_get (v := .int (m_S s1 15)) G V 0 4 15 m_w0 rfl in_M (by decide) k_M_99 rfl d_M_change_10 ?_
  refine lv_iload_n hx hb d_M_change_13 rfl (lv_at hl 1 rfl) ?_
  obtain ⟨g2, h⟩ := q_gd_h h
  obtain ⟨s3, e3, h⟩ := q_let_h h
  refine m_iast (σ' := s3) G V 13 m_w13 (m_u13.trans (congrArg (m_W b cs) e3.symm)) g2 d_M_change_14 (fun H locs V => ?_)
  refine lv_aload_n hx hb d_M_change_15 rfl (lv_at hl 0 rfl) ?_
  refine m_get (v := .ref (b 14)) G V 0 4 18 m_w0 rfl in_M (by decide) k_M_53 rfl d_M_change_16 ?_
  refine lv_aload_n hx hb d_M_change_19 rfl (lv_at hl 0 rfl) ?_
  refine m_get (v := .int (m_S s3 15)) G V 0 4 15 m_w0 rfl in_M (by decide) k_M_99 rfl d_M_change_20 ?_
  refine lv_iload_n hx hb d_M_change_23 rfl (lv_at hl 3 rfl) ?_
  obtain ⟨g4, h⟩ := q_gd_h h
  obtain ⟨s5, e5, h⟩ := q_let_h h
  refine m_iast (σ' := s5) G V 14 m_w14 (m_u14.trans (congrArg (m_W b cs) e5.symm)) g4 d_M_change_24 (fun H locs V => ?_)
  refine lv_aload_n hx hb d_M_change_25 rfl (lv_at hl 0 rfl) ?_
  refine m_get (v := .ref (b 15)) G V 0 4 19 m_w0 rfl in_M (by decide) k_M_56 rfl d_M_change_26 ?_
  refine lv_aload_n hx hb d_M_change_29 rfl (lv_at hl 0 rfl) ?_
  refine m_get (v := .int (m_S s5 15)) G V 0 4 15 m_w0 rfl in_M (by decide) k_M_99 rfl d_M_change_30 ?_
  refine lv_iload hx hb d_M_change_33 (lv_at hl 4 rfl) ?_
  obtain ⟨g6, h⟩ := q_gd_h h
  obtain ⟨s7, e7, h⟩ := q_let_h h
  refine m_iast (σ' := s7) G V 15 m_w15 (m_u15.trans (congrArg (m_W b cs) e7.symm)) g6 d_M_change_35 (fun H locs V => ?_)
  refine lv_aload_n hx hb d_M_change_36 rfl (lv_at hl 0 rfl) ?_
  refine m_get (v := .ref (b 16)) G V 0 4 20 m_w0 rfl in_M (by decide) k_M_59 rfl d_M_change_37 ?_
  refine lv_aload_n hx hb d_M_change_40 rfl (lv_at hl 0 rfl) ?_
  refine m_get (v := .int (m_S s7 15)) G V 0 4 15 m_w0 rfl in_M (by decide) k_M_99 rfl d_M_change_41 ?_
  refine lv_iload hx hb d_M_change_44 (lv_at hl 5 rfl) ?_
  obtain ⟨g8, h⟩ := q_gd_h h
  obtain ⟨s9, e9, h⟩ := q_let_h h
  refine m_iast (σ' := s9) G V 16 m_w16 (m_u16.trans (congrArg (m_W b cs) e9.symm)) g8 d_M_change_46 (fun H locs V => ?_)
  refine lv_aload_n hx hb d_M_change_47 rfl (lv_at hl 0 rfl) ?_
  refine lv_dup hx hb d_M_change_48 rfl ?_
  refine m_get (v := .int (m_S s9 15)) G V 0 4 15 m_w0 rfl in_M (by decide) k_M_99 rfl d_M_change_49 ?_
  refine lv_iconst (v := 1) hx hb d_M_change_52 (by decide) ?_
  refine lv_iadd hx hb d_M_change_53 ?_
  obtain ⟨s10, e10, h⟩ := q_let_h h
  refine m_put (σ' := s10) (ty := .int) G V 0 4 15 m_w0 rfl in_M tt_M_ok n_M (by decide) k_M_99 rfl rfl rfl rfl (Nat.le_of_ble_eq_true rfl) (m_uM15.trans (congrArg (m_W b cs) e10.symm)) d_M_change_54 (fun H locs V => ?_)
  exact m_ret_v G hr hlk h V d_M_change_57
