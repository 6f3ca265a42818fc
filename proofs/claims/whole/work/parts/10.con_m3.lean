set_option maxHeartbeats 40000000 in
set_option maxRecDepth 100000 in
theorem c_M_tear (l : Launch) (D : va_G) (b : Nat → Nat) (cs : Nat → ClassId) (N : Nat) (σ : m_T) (σ' : m_T) (h : f_M_tear N σ = some σ') : m_Cv l y_M_tear b_M_tear 1 none { frames := 0, cells := 0, slots := 0, locals := 0 } D b cs σ [.ref (b 0)] σ' := by
  refine m_met_v (own := R_M) (by decide) rfl (Nat.le_of_ble_eq_true rfl) ?_
  intro p e s m args below meth c A G hr hlk hml ls hl V
  have hx := G.1
  have hb := G.2.1
  have hown := G.2.2.1
  have hts := G.2.2.2.1
  have hN := G.2.2.2.2.2
  have hl : lv_has ls 1 [(0, .ref (b 0))] := hl
  unfold f_M_tear at h
  refine lv_aload_n hx hb d_M_tear_0 rfl (lv_at hl 0 rfl) ?_
  refine lv_iconst (v := 1) hx hb d_M_tear_1 (by decide) ?_
  obtain ⟨s1, e1, h⟩ := q_let_h h
  refine m_put (σ' := s1) (ty := .boolean) G V 0 4 26 m_w0 rfl in_M tt_M_ok n_M (by decide) k_M_148 rfl rfl rfl rfl (Nat.le_of_ble_eq_true rfl) (m_uM26.trans (congrArg (m_W b cs) e1.symm)) d_M_tear_2 (fun H locs V => ?_)
  exact m_ret_v G hr hlk h V d_M_tear_5

set_option maxHeartbeats 40000000 in
set_option maxRecDepth 100000 in
theorem c_M_crash (l : Launch) (D : va_G) (b : Nat → Nat) (cs : Nat → ClassId) (N : Nat) (σ : m_T) (σ' : m_T) (h : f_M_crash N σ = some σ') : m_Cv l y_M_crash b_M_crash 1 none { frames := 1, cells := 0, slots := 0, locals := 20 } D b cs σ [.ref (b 0)] σ' := by
  refine m_met_v (own := R_M) (by decide) rfl (Nat.le_of_ble_eq_true rfl) ?_
  intro p e s m args below meth c A G hr hlk hml ls hl V
  have hx := G.1
  have hb := G.2.1
  have hown := G.2.2.1
  have hts := G.2.2.2.1
  have hN := G.2.2.2.2.2
  have hl : lv_has ls 1 [(0, .ref (b 0))] := hl
  unfold f_M_crash at h
  refine lv_aload_n hx hb d_M_crash_0 rfl (lv_at hl 0 rfl) ?_
  obtain ⟨s2, h1, h⟩ := q_bind h
  refine m_cV_v (As := []) (rest := []) G V hml (c_M_drop l D b cs N σ s2 h1) 0 4 rfl m_w0 g_M_145 e_M_drop ⟨Nat.le_of_ble_eq_true rfl, Nat.le_of_ble_eq_true rfl⟩ ⟨rfl, rfl⟩ ⟨Nat.zero_le _, Nat.zero_le _⟩ rfl hl.1 rfl (Nat.le_of_ble_eq_true rfl) d_M_crash_1 (fun H locs V => ?_)
  exact m_ret_v G hr hlk h V d_M_crash_4

set_option maxHeartbeats 40000000 in
set_option maxRecDepth 100000 in
theorem c_M_tick (l : Launch) (D : va_G) (b : Nat → Nat) (cs : Nat → ClassId) (N : Nat) (σ : m_T) (a1 : Int32) (r : Int32) (σ' : m_T) (h : f_M_tick N σ a1 = some (r, σ')) : m_Ci l y_M_tick b_M_tick 2 (some .int) { frames := 0, cells := 0, slots := 0, locals := 0 } D b cs σ [.ref (b 0), .int (a1)] r σ' := by
  refine m_met_i (own := R_M) (by decide) rfl (Nat.le_of_ble_eq_true rfl) ?_
  intro p e s m args below meth c A G hr hlk hml ls hl V
  have hx := G.1
  have hb := G.2.1
  have hown := G.2.2.1
  have hts := G.2.2.2.1
  have hN := G.2.2.2.2.2
  have hl : lv_has ls 2 [(0, .ref (b 0)), (1, .int (a1))] := hl
  unfold f_M_tick at h
  refine lv_aload_n hx hb d_M_tick_0 rfl (lv_at hl 0 rfl) ?_
  refine lv_dup hx hb d_M_tick_1 rfl ?_
  refine m_get (v := .int (m_S σ 14)) G V 0 4 14 m_w0 rfl in_M (by decide) k_M_72 rfl d_M_tick_2 ?_
  refine lv_iload_n hx hb d_M_tick_5 rfl (lv_at hl 1 rfl) ?_
  refine lv_if_lt (tgt := 20) hx hb d_M_tick_6 (by decide) (fun hc => ?_) (fun hc => ?_)
  · replace h := q_ifp hc h
    refine lv_iconst (v := 0) hx hb d_M_tick_20 (by decide) ?_
    refine lv_iadd hx hb d_M_tick_21 ?_
    obtain ⟨s1, e1, h⟩ := q_let_h h
    refine m_put (σ' := s1) (ty := .int) G V 0 4 14 m_w0 rfl in_M tt_M_ok n_M (by decide) k_M_72 rfl rfl rfl rfl (Nat.le_of_ble_eq_true rfl) (m_uM14.trans (congrArg (m_W b cs) e1.symm)) d_M_tick_22 (fun H locs V => ?_)
    refine lv_aload_n hx hb d_M_tick_25 rfl (lv_at hl 0 rfl) ?_
    refine m_get (v := .int (m_S s1 14)) G V 0 4 14 m_w0 rfl in_M (by decide) k_M_72 rfl d_M_tick_26 ?_
    exact m_ret_i G hr hlk h V d_M_tick_29
  · replace h := q_ifn hc h
    refine lv_iload_n hx hb d_M_tick_9 rfl (lv_at hl 1 rfl) ?_
    refine lv_sipush (v := 5000) hx hb d_M_tick_10 (by decide) ?_
    refine lv_icmp_gt (tgt := 20) hx hb d_M_tick_13 (by decide) (fun hc => ?_) (fun hc => ?_)
    · replace h := q_ifp hc h
      refine lv_iconst (v := 0) hx hb d_M_tick_20 (by decide) ?_
      refine lv_iadd hx hb d_M_tick_21 ?_
      obtain ⟨s2, e2, h⟩ := q_let_h h
      refine m_put (σ' := s2) (ty := .int) G V 0 4 14 m_w0 rfl in_M tt_M_ok n_M (by decide) k_M_72 rfl rfl rfl rfl (Nat.le_of_ble_eq_true rfl) (m_uM14.trans (congrArg (m_W b cs) e2.symm)) d_M_tick_22 (fun H locs V => ?_)
      refine lv_aload_n hx hb d_M_tick_25 rfl (lv_at hl 0 rfl) ?_
      refine m_get (v := .int (m_S s2 14)) G V 0 4 14 m_w0 rfl in_M (by decide) k_M_72 rfl d_M_tick_26 ?_
      exact m_ret_i G hr hlk h V d_M_tick_29
    · replace h := q_ifn hc h
      refine lv_iload_n hx hb d_M_tick_16 rfl (lv_at hl 1 rfl) ?_
      refine lv_goto (tgt := 21) hx hb d_M_tick_17 (by decide) ?_
      refine lv_iadd hx hb d_M_tick_21 ?_
      obtain ⟨s3, e3, h⟩ := q_let_h h
      refine m_put (σ' := s3) (ty := .int) G V 0 4 14 m_w0 rfl in_M tt_M_ok n_M (by decide) k_M_72 rfl rfl rfl rfl (Nat.le_of_ble_eq_true rfl) (m_uM14.trans (congrArg (m_W b cs) e3.symm)) d_M_tick_22 (fun H locs V => ?_)
      refine lv_aload_n hx hb d_M_tick_25 rfl (lv_at hl 0 rfl) ?_
      refine m_get (v := .int (m_S s3 14)) G V 0 4 14 m_w0 rfl in_M (by decide) k_M_72 rfl d_M_tick_26 ?_
      exact m_ret_i G hr hlk h V d_M_tick_29

set_option maxHeartbeats 40000000 in
set_option maxRecDepth 100000 in
theorem c_M_bits (l : Launch) (a1 : Int32) (r : Int64) (h : f_M_bits a1 = some r) : q_Cl l y_M_bits b_M_bits 1 (some .long) { frames := 0, cells := 0, slots := 0, locals := 0 } [.int (a1)] r := by
  refine q_met_l (own := R_M) (by decide) rfl (Nat.le_of_ble_eq_true rfl) ?_
  intro p e s m args below meth c G hr hlk hml ls hl
  have hx := G.1
  have hb := G.2.1
  have hown := G.2.2.1
  have hts := G.2.2.2.1
  have hN := G.2.2.2.2
  have hl : lv_has ls 1 [(0, .int (a1))] := hl
  unfold f_M_bits at h
  refine lv_lconst (v := 1) hx hb d_M_bits_0 (by decide) ?_
  refine lv_bipush (v := 7) hx hb d_M_bits_1 (by decide) ?_
  refine lv_iload_n hx hb d_M_bits_3 rfl (lv_at hl 0 rfl) ?_
  refine lv_imul hx hb d_M_bits_4 ?_
  refine lv_iconst (v := 3) hx hb d_M_bits_5 (by decide) ?_
  refine lv_iadd hx hb d_M_bits_6 ?_
  refine lv_bipush (v := 64) hx hb d_M_bits_7 (by decide) ?_
  refine lv_irem hx hb d_M_bits_9 (by decide) ?_
  refine lv_lshl (v := (1 : Int64) <<< ((((7 * a1) + 3) - ((7 * a1) + 3) / 64 * 64 : Int32).toInt64 &&& 63)) hx hb d_M_bits_10 rfl ?_
  refine lv_lconst (v := 1) hx hb d_M_bits_11 (by decide) ?_
  refine lv_bipush (v := 13) hx hb d_M_bits_12 (by decide) ?_
  refine lv_iload_n hx hb d_M_bits_14 rfl (lv_at hl 0 rfl) ?_
  refine lv_imul hx hb d_M_bits_15 ?_
  refine lv_bipush (v := 29) hx hb d_M_bits_16 (by decide) ?_
  refine lv_iadd hx hb d_M_bits_18 ?_
  refine lv_bipush (v := 64) hx hb d_M_bits_19 (by decide) ?_
  refine lv_irem hx hb d_M_bits_21 (by decide) ?_
  refine lv_lshl (v := (1 : Int64) <<< ((((13 * a1) + 29) - ((13 * a1) + 29) / 64 * 64 : Int32).toInt64 &&& 63)) hx hb d_M_bits_22 rfl ?_
  refine lv_lor hx hb d_M_bits_23 ?_
  exact q_ret_l G hr hlk h d_M_bits_24

set_option maxHeartbeats 40000000 in
set_option maxRecDepth 100000 in
theorem c_M_blocksFor (l : Launch) (D : va_G) (b : Nat → Nat) (cs : Nat → ClassId) (N : Nat) (σ : m_T) (a1 : Int32) (a2 : Int32) (a3 : Int32) (r : Int32) (h : f_M_blocksFor N σ a1 a2 a3 = some r) : m_Ci l y_M_blocksFor b_M_blocksFor 10 (some .int) { frames := 1, cells := 0, slots := 0, locals := 20 } D b cs σ [.ref (b 0), .int (a1), .int (a2), .int (a3)] r σ := by
  refine m_met_i (own := R_M) (by decide) rfl (Nat.le_of_ble_eq_true rfl) ?_
  intro p e s m args below meth c A G hr hlk hml ls hl V
  have hx := G.1
  have hb := G.2.1
  have hown := G.2.2.1
  have hts := G.2.2.2.1
  have hN := G.2.2.2.2.2
  have hl : lv_has ls 10 [(0, .ref (b 0)), (1, .int (a1)), (2, .int (a2)), (3, .int (a3))] := hl
  unfold f_M_blocksFor at h
  refine lv_lconst (v := 0) hx hb d_M_blocksFor_0 (by decide) ?_
  refine lv_lstore (lv' := [(4, .long (0)), (0, .ref (b 0)), (1, .int (a1)), (2, .int (a2)), (3, .int (a3))]) hx hb d_M_blocksFor_1 hl (by decide) rfl (fun ls hl => ?_)
  refine lv_iconst (v := 0) hx hb d_M_blocksFor_3 (by decide) ?_
  refine lv_istore (lv' := [(6, .int (0)), (4, .long (0)), (0, .ref (b 0)), (1, .int (a1)), (2, .int (a2)), (3, .int (a3))]) hx hb d_M_blocksFor_4 hl (by decide) rfl (fun ls hl => ?_)
  refine lv_iconst (v := 0) hx hb d_M_blocksFor_6 (by decide) ?_
  refine lv_istore (lv' := [(7, .int (0)), (6, .int (0)), (4, .long (0)), (0, .ref (b 0)), (1, .int (a1)), (2, .int (a2)), (3, .int (a3))]) hx hb d_M_blocksFor_7 hl (by decide) rfl (fun ls hl => ?_)
  refine lv_iconst (v := 0) hx hb d_M_blocksFor_9 (by decide) ?_
  refine lv_istore (lv' := [(8, .int (0)), (7, .int (0)), (6, .int (0)), (4, .long (0)), (0, .ref (b 0)), (1, .int (a1)), (2, .int (a2)), (3, .int (a3))]) hx hb d_M_blocksFor_10 hl (by decide) rfl (fun ls hl => ?_)
  have lp12 : ∀ (u1 : Int32) (u2 : Int32) (u3 : Int32) (K : Int64 → Int32 → Int32 → Option Int32) (_ : ∀ (v4 : Int64) (v6 : Int32) (v7 : Int32) (H : Heap) (locs : List Loc) (ls : Array Slot), K v4 v6 v7 = some r → lv_has ls 10 [(3, .int (u3)), (4, .long (v4)), (6, .int (v6)), (7, .int (v7))] → m_V D b cs σ A s.heap H locs → W p l e { frames := 1, cells := 0, slots := 0, locals := 20 } s m args below meth c H locs 0 0 (m_Qi below args s D b cs A r σ) (F0 m 106 ls [])) (n : Nat) (v4 : Int64) (v6 : Int32) (v7 : Int32) (v8 : Int32) (H : Heap) (locs : List Loc) (ls : Array Slot), f_M_blocksFor_L12 N σ u1 u2 u3 K n v4 v6 v7 v8 = some r → lv_has ls 10 [(0, .ref (b 0)), (1, .int (u1)), (2, .int (u2)), (3, .int (u3)), (4, .long (v4)), (6, .int (v6)), (7, .int (v7)), (8, .int (v8))] → m_V D b cs σ A s.heap H locs → W p l e { frames := 1, cells := 0, slots := 0, locals := 20 } s m args below meth c H locs 0 0 (m_Qi below args s D b cs A r σ) (F0 m 12 ls []) := by
    intro u1 u2 u3 K hK n
    induction n with
    | zero => intro v4 v6 v7 v8 H locs ls h hl V; cases h
    | succ n ih =>
      intro v4 v6 v7 v8 H locs ls h hl V
      rw [f_M_blocksFor_L12] at h
      refine lv_iload hx hb d_M_blocksFor_12 (lv_at hl 7 rfl) ?_
      refine lv_aload_n hx hb d_M_blocksFor_14 rfl (lv_at hl 0 rfl) ?_
      refine m_get (v := .int (m_S σ 0)) G V 0 4 0 m_w0 rfl in_M (by decide) k_M_79 rfl d_M_blocksFor_15 ?_
      refine lv_icmp_ge (tgt := 106) hx hb d_M_blocksFor_18 (by decide) (fun hc => ?_) (fun hc => ?_)
      · replace h := q_ifp hc h
        exact hK _ _ _ _ _ ls h (lv_sub hl [3, 4, 5, 6] rfl) V
      · replace h := q_ifn hc h
        refine lv_aload_n hx hb d_M_blocksFor_21 rfl (lv_at hl 0 rfl) ?_
        refine m_get (v := .ref (b 7)) G V 0 4 7 m_w0 rfl in_M (by decide) k_M_28 rfl d_M_blocksFor_22 ?_
        refine lv_iload hx hb d_M_blocksFor_25 (lv_at hl 7 rfl) ?_
        obtain ⟨g1, h⟩ := q_gd_h h
        refine m_iald G V 7 m_w7 g1 d_M_blocksFor_27 ?_
        refine lv_iload_n hx hb d_M_blocksFor_28 rfl (lv_at hl 1 rfl) ?_
        refine lv_icmp_ne (tgt := 100) hx hb d_M_blocksFor_29 (by decide) (fun hc => ?_) (fun hc => ?_)
        · replace h := q_ifn hc h
          refine lv_iinc (k := 7) (v := v8 + 1) (lv' := [(8, .int (v8 + 1)), (0, .ref (b 0)), (1, .int (u1)), (2, .int (u2)), (3, .int (u3)), (4, .long (v4)), (6, .int (v6)), (7, .int (v7))]) hx hb d_M_blocksFor_100 hl rfl rfl (by decide) rfl (fun ls hl => ?_)
          refine lv_goto (tgt := 12) hx hb d_M_blocksFor_103 (by decide) ?_
          exact ih _ _ _ _ _ _ ls h (lv_sub hl [1, 2, 3, 4, 5, 6, 7, 0] rfl) V
        · replace h := q_ifp hc h
          refine lv_aload_n hx hb d_M_blocksFor_32 rfl (lv_at hl 0 rfl) ?_
          refine m_get (v := .ref (b 8)) G V 0 4 8 m_w0 rfl in_M (by decide) k_M_31 rfl d_M_blocksFor_33 ?_
          refine lv_iload hx hb d_M_blocksFor_36 (lv_at hl 7 rfl) ?_
          obtain ⟨g2, h⟩ := q_gd_h h
          refine m_iald G V 8 m_w8 g2 d_M_blocksFor_38 ?_
          refine lv_iload_n hx hb d_M_blocksFor_39 rfl (lv_at hl 2 rfl) ?_
          refine lv_icmp_ne (tgt := 100) hx hb d_M_blocksFor_40 (by decide) (fun hc => ?_) (fun hc => ?_)
          · replace h := q_ifn hc h
            refine lv_iinc (k := 7) (v := v8 + 1) (lv' := [(8, .int (v8 + 1)), (0, .ref (b 0)), (1, .int (u1)), (2, .int (u2)), (3, .int (u3)), (4, .long (v4)), (6, .int (v6)), (7, .int (v7))]) hx hb d_M_blocksFor_100 hl rfl rfl (by decide) rfl (fun ls hl => ?_)
            refine lv_goto (tgt := 12) hx hb d_M_blocksFor_103 (by decide) ?_
            exact ih _ _ _ _ _ _ ls h (lv_sub hl [1, 2, 3, 4, 5, 6, 7, 0] rfl) V
          · replace h := q_ifp hc h
            refine lv_lload hx hb d_M_blocksFor_43 (lv_at hl 4 rfl) ?_
            refine lv_aload_n hx hb d_M_blocksFor_45 rfl (lv_at hl 0 rfl) ?_
            refine m_get (v := .ref (b 2)) G V 0 4 2 m_w0 rfl in_M (by decide) k_M_13 rfl d_M_blocksFor_46 ?_
            refine lv_iload hx hb d_M_blocksFor_49 (lv_at hl 7 rfl) ?_
            obtain ⟨g3, h⟩ := q_gd_h h
            refine m_iald G V 2 m_w2 g3 d_M_blocksFor_51 ?_
            obtain ⟨r5, h4, h⟩ := q_bind h
            refine q_cS_l (As := [.int (m_I σ 2 ((v8 : Int32).toNatClampNeg))]) (rest := [.long (v4)]) hx hb hown hts hN hml (c_M_bits l (m_I σ 2 ((v8 : Int32).toNatClampNeg)) r5 h4) g_M_161 e_M_bits ⟨Nat.le_of_ble_eq_true rfl, Nat.le_of_ble_eq_true rfl⟩ ⟨rfl, rfl⟩ ⟨Nat.zero_le _, Nat.zero_le _⟩ rfl hl.1 rfl (Nat.le_of_ble_eq_true rfl) d_M_blocksFor_52 ?_
            refine lv_lor hx hb d_M_blocksFor_55 ?_
            refine lv_lstore (lv' := [(4, .long (v4 ||| r5)), (0, .ref (b 0)), (1, .int (u1)), (2, .int (u2)), (3, .int (u3)), (6, .int (v6)), (7, .int (v7)), (8, .int (v8))]) hx hb d_M_blocksFor_56 hl (by decide) rfl (fun ls hl => ?_)
            refine lv_iload hx hb d_M_blocksFor_58 (lv_at hl 5 rfl) ?_
            refine lv_aload_n hx hb d_M_blocksFor_60 rfl (lv_at hl 1 rfl) ?_
            refine m_get (v := .ref (b 2)) G V 0 4 2 m_w0 rfl in_M (by decide) k_M_13 rfl d_M_blocksFor_61 ?_
            refine lv_iload hx hb d_M_blocksFor_64 (lv_at hl 7 rfl) ?_
            obtain ⟨g6, h⟩ := q_gd_h h
            refine m_iald G V 2 m_w2 g6 d_M_blocksFor_66 ?_
            refine lv_iload_n hx hb d_M_blocksFor_67 rfl (lv_at hl 4 rfl) ?_
            refine lv_icmp_ge (tgt := 75) hx hb d_M_blocksFor_68 (by decide) (fun hc => ?_) (fun hc => ?_)
            · replace h := q_ifp hc h
              refine lv_iconst (v := 0) hx hb d_M_blocksFor_75 (by decide) ?_
              refine lv_iadd hx hb d_M_blocksFor_76 ?_
              refine lv_istore (lv' := [(6, .int (v6 + 0)), (4, .long (v4 ||| r5)), (0, .ref (b 0)), (1, .int (u1)), (2, .int (u2)), (3, .int (u3)), (7, .int (v7)), (8, .int (v8))]) hx hb d_M_blocksFor_77 hl (by decide) rfl (fun ls hl => ?_)
              refine lv_iload hx hb d_M_blocksFor_79 (lv_at hl 6 rfl) ?_
              refine lv_aload_n hx hb d_M_blocksFor_81 rfl (lv_at hl 2 rfl) ?_
              refine m_get (v := .ref (b 2)) G V 0 4 2 m_w0 rfl in_M (by decide) k_M_13 rfl d_M_blocksFor_82 ?_
              refine lv_iload hx hb d_M_blocksFor_85 (lv_at hl 7 rfl) ?_
              obtain ⟨g7, h⟩ := q_gd_h h
              refine m_iald G V 2 m_w2 g7 d_M_blocksFor_87 ?_
              refine lv_iload_n hx hb d_M_blocksFor_88 rfl (lv_at hl 5 rfl) ?_
              refine lv_icmp_ne (tgt := 96) hx hb d_M_blocksFor_89 (by decide) (fun hc => ?_) (fun hc => ?_)
              · replace h := q_ifn hc h
                refine lv_iconst (v := 0) hx hb d_M_blocksFor_96 (by decide) ?_
                refine lv_iadd hx hb d_M_blocksFor_97 ?_
                refine lv_istore (lv' := [(7, .int (v7 + 0)), (6, .int (v6 + 0)), (4, .long (v4 ||| r5)), (0, .ref (b 0)), (1, .int (u1)), (2, .int (u2)), (3, .int (u3)), (8, .int (v8))]) hx hb d_M_blocksFor_98 hl (by decide) rfl (fun ls hl => ?_)
                refine lv_iinc (k := 7) (v := v8 + 1) (lv' := [(8, .int (v8 + 1)), (7, .int (v7 + 0)), (6, .int (v6 + 0)), (4, .long (v4 ||| r5)), (0, .ref (b 0)), (1, .int (u1)), (2, .int (u2)), (3, .int (u3))]) hx hb d_M_blocksFor_100 hl rfl rfl (by decide) rfl (fun ls hl => ?_)
                refine lv_goto (tgt := 12) hx hb d_M_blocksFor_103 (by decide) ?_
                exact ih _ _ _ _ _ _ ls h (lv_sub hl [4, 5, 6, 7, 3, 2, 1, 0] rfl) V
              · replace h := q_ifp hc h
                refine lv_iconst (v := 1) hx hb d_M_blocksFor_92 (by decide) ?_
                refine lv_goto (tgt := 97) hx hb d_M_blocksFor_93 (by decide) ?_
                refine lv_iadd hx hb d_M_blocksFor_97 ?_
                refine lv_istore (lv' := [(7, .int (v7 + 1)), (6, .int (v6 + 0)), (4, .long (v4 ||| r5)), (0, .ref (b 0)), (1, .int (u1)), (2, .int (u2)), (3, .int (u3)), (8, .int (v8))]) hx hb d_M_blocksFor_98 hl (by decide) rfl (fun ls hl => ?_)
                refine lv_iinc (k := 7) (v := v8 + 1) (lv' := [(8, .int (v8 + 1)), (7, .int (v7 + 1)), (6, .int (v6 + 0)), (4, .long (v4 ||| r5)), (0, .ref (b 0)), (1, .int (u1)), (2, .int (u2)), (3, .int (u3))]) hx hb d_M_blocksFor_100 hl rfl rfl (by decide) rfl (fun ls hl => ?_)
                refine lv_goto (tgt := 12) hx hb d_M_blocksFor_103 (by decide) ?_
                exact ih _ _ _ _ _ _ ls h (lv_sub hl [4, 5, 6, 7, 3, 2, 1, 0] rfl) V
            · replace h := q_ifn hc h
              refine lv_iconst (v := 1) hx hb d_M_blocksFor_71 (by decide) ?_
              refine lv_goto (tgt := 76) hx hb d_M_blocksFor_72 (by decide) ?_
              refine lv_iadd hx hb d_M_blocksFor_76 ?_
              refine lv_istore (lv' := [(6, .int (v6 + 1)), (4, .long (v4 ||| r5)), (0, .ref (b 0)), (1, .int (u1)), (2, .int (u2)), (3, .int (u3)), (7, .int (v7)), (8, .int (v8))]) hx hb d_M_blocksFor_77 hl (by decide) rfl (fun ls hl => ?_)
              refine lv_iload hx hb d_M_blocksFor_79 (lv_at hl 6 rfl) ?_
              refine lv_aload_n hx hb d_M_blocksFor_81 rfl (lv_at hl 2 rfl) ?_
              refine m_get (v := .ref (b 2)) G V 0 4 2 m_w0 rfl in_M (by decide) k_M_13 rfl d_M_blocksFor_82 ?_
              refine lv_iload hx hb d_M_blocksFor_85 (lv_at hl 7 rfl) ?_
              obtain ⟨g8, h⟩ := q_gd_h h
              refine m_iald G V 2 m_w2 g8 d_M_blocksFor_87 ?_
              refine lv_iload_n hx hb d_M_blocksFor_88 rfl (lv_at hl 5 rfl) ?_
              refine lv_icmp_ne (tgt := 96) hx hb d_M_blocksFor_89 (by decide) (fun hc => ?_) (fun hc => ?_)
              · replace h := q_ifn hc h
                refine lv_iconst (v := 0) hx hb d_M_blocksFor_96 (by decide) ?_
                refine lv_iadd hx hb d_M_blocksFor_97 ?_
                refine lv_istore (lv' := [(7, .int (v7 + 0)), (6, .int (v6 + 1)), (4, .long (v4 ||| r5)), (0, .ref (b 0)), (1, .int (u1)), (2, .int (u2)), (3, .int (u3)), (8, .int (v8))]) hx hb d_M_blocksFor_98 hl (by decide) rfl (fun ls hl => ?_)
                refine lv_iinc (k := 7) (v := v8 + 1) (lv' := [(8, .int (v8 + 1)), (7, .int (v7 + 0)), (6, .int (v6 + 1)), (4, .long (v4 ||| r5)), (0, .ref (b 0)), (1, .int (u1)), (2, .int (u2)), (3, .int (u3))]) hx hb d_M_blocksFor_100 hl rfl rfl (by decide) rfl (fun ls hl => ?_)
                refine lv_goto (tgt := 12) hx hb d_M_blocksFor_103 (by decide) ?_
                exact ih _ _ _ _ _ _ ls h (lv_sub hl [4, 5, 6, 7, 3, 2, 1, 0] rfl) V
              · replace h := q_ifp hc h
                refine lv_iconst (v := 1) hx hb d_M_blocksFor_92 (by decide) ?_
                refine lv_goto (tgt := 97) hx hb d_M_blocksFor_93 (by decide) ?_
                refine lv_iadd hx hb d_M_blocksFor_97 ?_
                refine lv_istore (lv' := [(7, .int (v7 + 1)), (6, .int (v6 + 1)), (4, .long (v4 ||| r5)), (0, .ref (b 0)), (1, .int (u1)), (2, .int (u2)), (3, .int (u3)), (8, .int (v8))]) hx hb d_M_blocksFor_98 hl (by decide) rfl (fun ls hl => ?_)
                refine lv_iinc (k := 7) (v := v8 + 1) (lv' := [(8, .int (v8 + 1)), (7, .int (v7 + 1)), (6, .int (v6 + 1)), (4, .long (v4 ||| r5)), (0, .ref (b 0)), (1, .int (u1)), (2, .int (u2)), (3, .int (u3))]) hx hb d_M_blocksFor_100 hl rfl rfl (by decide) rfl (fun ls hl => ?_)
                refine lv_goto (tgt := 12) hx hb d_M_blocksFor_103 (by decide) ?_
                exact ih _ _ _ _ _ _ ls h (lv_sub hl [4, 5, 6, 7, 3, 2, 1, 0] rfl) V
  replace hl := lv_sub (l' := [(0, .ref (b 0)), (1, .int (a1)), (2, .int (a2)), (3, .int (a3)), (4, .long (0)), (6, .int (0)), (7, .int (0)), (8, .int (0))]) hl [4, 5, 6, 7, 3, 2, 1, 0] rfl
  refine lp12 _ _ _ _ ?_ _ _ _ _ _ _ _ ls h hl V
  intro v4 v6 v7 H locs ls h hl V
  refine lv_iload_n hx hb d_M_blocksFor_106 rfl (lv_at hl 0 rfl) ?_
  obtain ⟨r10, h9, h⟩ := q_bind h
  refine q_cS_l (As := [.int (a3)]) (rest := []) hx hb hown hts hN hml (c_M_bits l a3 r10 h9) g_M_161 e_M_bits ⟨Nat.le_of_ble_eq_true rfl, Nat.le_of_ble_eq_true rfl⟩ ⟨rfl, rfl⟩ ⟨Nat.zero_le _, Nat.zero_le _⟩ rfl hl.1 rfl (Nat.le_of_ble_eq_true rfl) d_M_blocksFor_107 ?_
  refine lv_lstore (lv' := [(8, .long (r10)), (3, .int (a3)), (4, .long (v4)), (6, .int (v6)), (7, .int (v7))]) hx hb d_M_blocksFor_110 hl (by decide) rfl (fun ls hl => ?_)
  refine lv_lload hx hb d_M_blocksFor_112 (lv_at hl 2 rfl) ?_
  refine lv_lload hx hb d_M_blocksFor_114 (lv_at hl 0 rfl) ?_
  refine lv_land hx hb d_M_blocksFor_116 ?_
  refine lv_lload hx hb d_M_blocksFor_117 (lv_at hl 0 rfl) ?_
  refine W.lcmp hx hb d_M_blocksFor_119 ?_
  refine lv_if_eq (tgt := 125) hx hb d_M_blocksFor_120 (by decide) (fun hc => ?_) (fun hc => ?_)
  · replace h := q_ifp hc h
    refine lv_iload hx hb d_M_blocksFor_125 (lv_at hl 4 rfl) ?_
    refine lv_if_ne (tgt := 134) hx hb d_M_blocksFor_127 (by decide) (fun hc => ?_) (fun hc => ?_)
    · replace h := q_ifn hc h
      refine lv_iload hx hb d_M_blocksFor_134 (lv_at hl 3 rfl) ?_
      refine lv_iload hx hb d_M_blocksFor_136 (lv_at hl 4 rfl) ?_
      refine lv_iadd hx hb d_M_blocksFor_138 ?_
      refine lv_iconst (v := 1) hx hb d_M_blocksFor_139 (by decide) ?_
      refine lv_isub hx hb d_M_blocksFor_140 ?_
      refine lv_iconst (v := 4) hx hb d_M_blocksFor_141 (by decide) ?_
      refine lv_idiv hx hb d_M_blocksFor_142 (by decide) ?_
      refine lv_iload hx hb d_M_blocksFor_143 (lv_at hl 3 rfl) ?_
      refine lv_iconst (v := 4) hx hb d_M_blocksFor_145 (by decide) ?_
      refine lv_idiv hx hb d_M_blocksFor_146 (by decide) ?_
      refine lv_isub hx hb d_M_blocksFor_147 ?_
      refine lv_iconst (v := 1) hx hb d_M_blocksFor_148 (by decide) ?_
      refine lv_iadd hx hb d_M_blocksFor_149 ?_
      exact m_pret_i G hr hlk h rfl V d_M_blocksFor_150
    · replace h := q_ifp hc h
      refine lv_iconst (v := 1) hx hb d_M_blocksFor_130 (by decide) ?_
      refine lv_goto (tgt := 150) hx hb d_M_blocksFor_131 (by decide) ?_
      exact m_pret_i G hr hlk h rfl V d_M_blocksFor_150
  · replace h := q_ifn hc h
    refine lv_iconst (v := 0) hx hb d_M_blocksFor_123 (by decide) ?_
    exact m_pret_i G hr hlk h rfl V d_M_blocksFor_124

set_option maxHeartbeats 40000000 in
set_option maxRecDepth 100000 in
theorem c_M_look (l : Launch) (D : va_G) (b : Nat → Nat) (cs : Nat → ClassId) (N : Nat) (σ : m_T) (a1 : Int32) (σ' : m_T) (h : f_M_look N σ a1 = some σ') : m_Cv l y_M_look b_M_look 4 none { frames := 2, cells := 0, slots := 0, locals := 49 } D b cs σ [.ref (b 0), .int (a1)] σ' := by
  refine m_met_v (own := R_M) (by decide) rfl (Nat.le_of_ble_eq_true rfl) ?_
  intro p e s m args below meth c A G hr hlk hml ls hl V
  have hx := G.1
  have hb := G.2.1
  have hown := G.2.2.1
  have hts := G.2.2.2.1
  have hN := G.2.2.2.2.2
  have hl : lv_has ls 4 [(0, .ref (b 0)), (1, .int (a1))] := hl
  unfold f_M_look at h
  refine lv_aload_n hx hb d_M_look_0 rfl (lv_at hl 0 rfl) ?_
  refine lv_iload_n hx hb d_M_look_1 rfl (lv_at hl 1 rfl) ?_
  obtain ⟨r2, h1, h⟩ := q_bind h
  refine m_cV_i (As := [.int (a1)]) (rest := []) G V hml (c_M_tabletWith l D b cs N σ a1 r2 h1) 0 4 rfl m_w0 g_M_92 e_M_tabletWith ⟨Nat.le_of_ble_eq_true rfl, Nat.le_of_ble_eq_true rfl⟩ ⟨rfl, rfl⟩ ⟨Nat.zero_le _, Nat.zero_le _⟩ rfl hl.1 rfl (Nat.le_of_ble_eq_true rfl) d_M_look_2 (fun H locs V => ?_)
  refine lv_istore_n (lv' := [(2, .int (r2)), (0, .ref (b 0)), (1, .int (a1))]) hx hb d_M_look_5 rfl hl (by decide) rfl (fun ls hl => ?_)
  refine lv_iconst (v := 0) hx hb d_M_look_6 (by decide) ?_
  refine lv_istore_n (lv' := [(3, .int (0)), (2, .int (r2)), (0, .ref (b 0)), (1, .int (a1))]) hx hb d_M_look_7 rfl hl (by decide) rfl (fun ls hl => ?_)
  have lp8 : ∀ (u1 : Int32) (u2 : Int32) (K : m_T → Option m_T) (_ : ∀ (σ : m_T) (H : Heap) (locs : List Loc) (ls : Array Slot), K σ = some σ' → lv_has ls 4 [] → m_V D b cs σ A s.heap H locs → W p l e { frames := 2, cells := 0, slots := 0, locals := 49 } s m args below meth c H locs 0 0 (m_Qv below args s D b cs A σ') (F0 m 40 ls [])) (n : Nat) (v3 : Int32) (σ : m_T) (H : Heap) (locs : List Loc) (ls : Array Slot), f_M_look_L8 N u1 u2 K n v3 σ = some σ' → lv_has ls 4 [(0, .ref (b 0)), (1, .int (u1)), (2, .int (u2)), (3, .int (v3))] → m_V D b cs σ A s.heap H locs → W p l e { frames := 2, cells := 0, slots := 0, locals := 49 } s m args below meth c H locs 0 0 (m_Qv below args s D b cs A σ') (F0 m 8 ls []) := by
    intro u1 u2 K hK n
    induction n with
    | zero => intro v3 σ H locs ls h hl V; cases h
    | succ n ih =>
      intro v3 σ H locs ls h hl V
      rw [f_M_look_L8] at h
      refine lv_iload_n hx hb d_M_look_8 rfl (lv_at hl 3 rfl) ?_
      refine lv_aload_n hx hb d_M_look_9 rfl (lv_at hl 0 rfl) ?_
      refine m_get (v := .ref (b 10)) G V 0 4 11 m_w0 rfl in_M (by decide) k_M_41 rfl d_M_look_10 ?_
      refine lv_iload_n hx hb d_M_look_13 rfl (lv_at hl 2 rfl) ?_
      obtain ⟨g3, h⟩ := q_gd_h h
      refine m_iald G V 10 m_w10 g3 d_M_look_14 ?_
      refine lv_icmp_ge (tgt := 40) hx hb d_M_look_15 (by decide) (fun hc => ?_) (fun hc => ?_)
      · replace h := q_ifp hc h
        exact hK _ _ _ ls h (lv_sub hl [] rfl) V
      · replace h := q_ifn hc h
        refine lv_aload_n hx hb d_M_look_18 rfl (lv_at hl 0 rfl) ?_
        refine lv_dup hx hb d_M_look_19 rfl ?_
        refine m_get (v := .int (m_S σ 31)) G V 0 4 31 m_w0 rfl in_M (by decide) k_M_165 rfl d_M_look_20 ?_
        refine lv_aload_n hx hb d_M_look_23 rfl (lv_at hl 0 rfl) ?_
        refine lv_iload_n hx hb d_M_look_24 rfl (lv_at hl 2 rfl) ?_
        refine lv_iload_n hx hb d_M_look_25 rfl (lv_at hl 3 rfl) ?_
        refine lv_iload_n hx hb d_M_look_26 rfl (lv_at hl 1 rfl) ?_
        obtain ⟨r5, h4, h⟩ := q_bind h
        refine m_cV_i (As := [.int (u2), .int (v3), .int (u1)]) (rest := [.int (m_S σ 31), .ref (b 0)]) G V hml (c_M_blocksFor l D b cs N σ u2 v3 u1 r5 h4) 0 4 rfl m_w0 g_M_168 e_M_blocksFor ⟨Nat.le_of_ble_eq_true rfl, Nat.le_of_ble_eq_true rfl⟩ ⟨rfl, rfl⟩ ⟨Nat.zero_le _, Nat.zero_le _⟩ rfl hl.1 rfl (Nat.le_of_ble_eq_true rfl) d_M_look_27 (fun H locs V => ?_)
        refine lv_iadd hx hb d_M_look_30 ?_
        obtain ⟨s6, e6, h⟩ := q_let_h h
        refine m_put (σ' := s6) (ty := .int) G V 0 4 31 m_w0 rfl in_M tt_M_ok n_M (by decide) k_M_165 rfl rfl rfl rfl (Nat.le_of_ble_eq_true rfl) (m_uM31.trans (congrArg (m_W b cs) e6.symm)) d_M_look_31 (fun H locs V => ?_)
        refine lv_iinc (k := 3) (v := v3 + 1) (lv' := [(3, .int (v3 + 1)), (0, .ref (b 0)), (1, .int (u1)), (2, .int (u2))]) hx hb d_M_look_34 hl rfl rfl (by decide) rfl (fun ls hl => ?_)
        refine lv_goto (tgt := 8) hx hb d_M_look_37 (by decide) ?_
        exact ih _ _ _ _ ls h (lv_sub hl [1, 2, 3, 0] rfl) V
  replace hl := lv_sub (l' := [(0, .ref (b 0)), (1, .int (a1)), (2, .int (r2)), (3, .int (0))]) hl [2, 3, 1, 0] rfl
  refine lp8 _ _ _ ?_ _ _ _ _ _ ls h hl V
  intro t7 H locs ls h hl V
  exact m_ret_v G hr hlk h V d_M_look_40

set_option maxHeartbeats 40000000 in
set_option maxRecDepth 100000 in
theorem c_M_get (l : Launch) (D : va_G) (b : Nat → Nat) (cs : Nat → ClassId) (N : Nat) (σ : m_T) (a1 : Int32) (a2 : Int32) (a3 : Int32) (a4 : Int32) (r : Int64) (σ' : m_T) (h : f_M_get N σ a1 a2 a3 a4 = some (r, σ')) : m_Cl l y_M_get b_M_get 8 (some .long) { frames := 3, cells := 0, slots := 0, locals := 72 } D b cs σ [.ref (b 0), .int (a1), .int (a2), .int (a3), .int (a4)] r σ' := by
  refine m_met_l (own := R_M) (by decide) rfl (Nat.le_of_ble_eq_true rfl) ?_
  intro p e s m args below meth c A G hr hlk hml ls hl V
  have hx := G.1
  have hb := G.2.1
  have hown := G.2.2.1
  have hts := G.2.2.2.1
  have hN := G.2.2.2.2.2
  have hl : lv_has ls 8 [(0, .ref (b 0)), (1, .int (a1)), (2, .int (a2)), (3, .int (a3)), (4, .int (a4))] := hl
  unfold f_M_get at h
  refine lv_iload_n hx hb d_M_get_0 rfl (lv_at hl 1 rfl) ?_
  obtain ⟨r2, h1, h⟩ := q_bind h
  refine q_cS_i (As := [.int (a1)]) (rest := []) hx hb hown hts hN hml (c_M_isRow l a1 r2 h1) g_M_96 e_M_isRow ⟨Nat.le_of_ble_eq_true rfl, Nat.le_of_ble_eq_true rfl⟩ ⟨rfl, rfl⟩ ⟨Nat.zero_le _, Nat.zero_le _⟩ rfl hl.1 rfl (Nat.le_of_ble_eq_true rfl) d_M_get_1 ?_
  refine lv_if_eq (tgt := 14) hx hb d_M_get_4 (by decide) (fun hc => ?_) (fun hc => ?_)
  · replace h := q_ifp hc h
    refine lv_ldc2 (v := -1) hx hb hown (hts _ k_M_171) d_M_get_14 ?_
    exact m_ret_l G hr hlk h V d_M_get_17
  · replace h := q_ifn hc h
    refine lv_iload_n hx hb d_M_get_7 rfl (lv_at hl 2 rfl) ?_
    obtain ⟨r4, h3, h⟩ := q_bind h
    refine q_cS_i (As := [.int (a2)]) (rest := []) hx hb hown hts hN hml (c_M_isColumn l a2 r4 h3) g_M_105 e_M_isColumn ⟨Nat.le_of_ble_eq_true rfl, Nat.le_of_ble_eq_true rfl⟩ ⟨rfl, rfl⟩ ⟨Nat.zero_le _, Nat.zero_le _⟩ rfl hl.1 rfl (Nat.le_of_ble_eq_true rfl) d_M_get_8 ?_
    refine lv_if_ne (tgt := 18) hx hb d_M_get_11 (by decide) (fun hc => ?_) (fun hc => ?_)
    · replace h := q_ifn hc h
      refine lv_aload_n hx hb d_M_get_18 rfl (lv_at hl 0 rfl) ?_
      refine lv_iload_n hx hb d_M_get_19 rfl (lv_at hl 1 rfl) ?_
      obtain ⟨s6, h5, h⟩ := q_bind h
      refine m_cV_v (As := [.int (a1)]) (rest := []) G V hml (c_M_look l D b cs N σ a1 s6 h5) 0 4 rfl m_w0 g_M_173 e_M_look ⟨Nat.le_of_ble_eq_true rfl, Nat.le_of_ble_eq_true rfl⟩ ⟨rfl, rfl⟩ ⟨Nat.zero_le _, Nat.zero_le _⟩ rfl hl.1 rfl (Nat.le_of_ble_eq_true rfl) d_M_get_20 (fun H locs V => ?_)
      refine lv_iload hx hb d_M_get_23 (lv_at hl 4 rfl) ?_
      refine lv_if_ge (tgt := 32) hx hb d_M_get_25 (by decide) (fun hc => ?_) (fun hc => ?_)
      · replace h := q_ifp hc h
        refine lv_iload_n hx hb d_M_get_32 rfl (lv_at hl 3 rfl) ?_
        refine lv_sipush (v := 9999) hx hb d_M_get_33 (by decide) ?_
        refine lv_icmp_le (tgt := 45) hx hb d_M_get_36 (by decide) (fun hc => ?_) (fun hc => ?_)
        · replace h := q_ifp hc h
          refine lv_iload_n hx hb d_M_get_45 rfl (lv_at hl 3 rfl) ?_
          refine lv_if_ge (tgt := 53) hx hb d_M_get_46 (by decide) (fun hc => ?_) (fun hc => ?_)
          · replace h := q_ifp hc h
            refine lv_iload_n hx hb d_M_get_53 rfl (lv_at hl 3 rfl) ?_
            refine lv_iconst (v := 1) hx hb d_M_get_54 (by decide) ?_
            refine lv_iadd hx hb d_M_get_55 ?_
            refine lv_istore (lv' := [(5, .int (a3 + 1)), (0, .ref (b 0)), (1, .int (a1)), (2, .int (a2)), (3, .int (a3)), (4, .int (a4))]) hx hb d_M_get_56 hl (by decide) rfl (fun ls hl => ?_)
            refine lv_aload_n hx hb d_M_get_58 rfl (lv_at hl 1 rfl) ?_
            refine lv_iload_n hx hb d_M_get_59 rfl (lv_at hl 2 rfl) ?_
            refine lv_iload_n hx hb d_M_get_60 rfl (lv_at hl 3 rfl) ?_
            refine lv_iload hx hb d_M_get_61 (lv_at hl 0 rfl) ?_
            obtain ⟨r8, h7, h⟩ := q_bind h
            refine m_cV_i (As := [.int (a1), .int (a2), .int (a3 + 1)]) (rest := []) G V hml (c_M_below l D b cs N s6 a1 a2 (a3 + 1) r8 h7) 0 4 rfl m_w0 g_M_134 e_M_below ⟨Nat.le_of_ble_eq_true rfl, Nat.le_of_ble_eq_true rfl⟩ ⟨rfl, rfl⟩ ⟨Nat.zero_le _, Nat.zero_le _⟩ rfl hl.1 rfl (Nat.le_of_ble_eq_true rfl) d_M_get_63 (fun H locs V => ?_)
            refine lv_istore (lv' := [(6, .int (r8)), (5, .int (a3 + 1)), (0, .ref (b 0)), (1, .int (a1)), (2, .int (a2)), (3, .int (a3)), (4, .int (a4))]) hx hb d_M_get_66 hl (by decide) rfl (fun ls hl => ?_)
            refine lv_iconst (v := 0) hx hb d_M_get_68 (by decide) ?_
            refine lv_istore (lv' := [(7, .int (0)), (6, .int (r8)), (5, .int (a3 + 1)), (0, .ref (b 0)), (1, .int (a1)), (2, .int (a2)), (3, .int (a3)), (4, .int (a4))]) hx hb d_M_get_69 hl (by decide) rfl (fun ls hl => ?_)
            have lp71 : ∀ (σ : m_T) (u1 : Int32) (u2 : Int32) (u4 : Int32) (K : Int32 → Option (Int64 × m_T)) (_ : ∀ (v6 : Int32) (H : Heap) (locs : List Loc) (ls : Array Slot), K v6 = some (r, σ') → lv_has ls 8 [(0, .ref (b 0)), (6, .int (v6))] → m_V D b cs σ A s.heap H locs → W p l e { frames := 3, cells := 0, slots := 0, locals := 72 } s m args below meth c H locs 0 0 (m_Ql below args s D b cs A r σ') (F0 m 104 ls [])) (n : Nat) (v6 : Int32) (v7 : Int32) (H : Heap) (locs : List Loc) (ls : Array Slot), f_M_get_L71 N σ u1 u2 u4 K n v6 v7 = some (r, σ') → lv_has ls 8 [(0, .ref (b 0)), (1, .int (u1)), (2, .int (u2)), (4, .int (u4)), (6, .int (v6)), (7, .int (v7))] → m_V D b cs σ A s.heap H locs → W p l e { frames := 3, cells := 0, slots := 0, locals := 72 } s m args below meth c H locs 0 0 (m_Ql below args s D b cs A r σ') (F0 m 71 ls []) := by
              intro σ u1 u2 u4 K hK n
              induction n with
              | zero => intro v6 v7 H locs ls h hl V; cases h
              | succ n ih =>
                intro v6 v7 H locs ls h hl V
                rw [f_M_get_L71] at h
                refine lv_iload hx hb d_M_get_71 (lv_at hl 5 rfl) ?_
                refine lv_iload hx hb d_M_get_73 (lv_at hl 3 rfl) ?_
                refine lv_icmp_ge (tgt := 104) hx hb d_M_get_75 (by decide) (fun hc => ?_) (fun hc => ?_)
                · replace h := q_ifp hc h
                  exact hK _ _ _ ls h (lv_sub hl [0, 4] rfl) V
                · replace h := q_ifn hc h
                  refine lv_iload hx hb d_M_get_78 (lv_at hl 4 rfl) ?_
                  refine lv_if_lt (tgt := 104) hx hb d_M_get_80 (by decide) (fun hc => ?_) (fun hc => ?_)
                  · replace h := q_ifp hc h
                    exact hK _ _ _ ls h (lv_sub hl [0, 4] rfl) V
                  · replace h := q_ifn hc h
                    refine lv_aload_n hx hb d_M_get_83 rfl (lv_at hl 0 rfl) ?_
                    refine lv_iload_n hx hb d_M_get_84 rfl (lv_at hl 1 rfl) ?_
                    refine lv_iload_n hx hb d_M_get_85 rfl (lv_at hl 2 rfl) ?_
                    refine lv_aload_n hx hb d_M_get_86 rfl (lv_at hl 0 rfl) ?_
                    refine m_get (v := .ref (b 4)) G V 0 4 4 m_w0 rfl in_M (by decide) k_M_19 rfl d_M_get_87 ?_
                    refine lv_iload hx hb d_M_get_90 (lv_at hl 4 rfl) ?_
                    obtain ⟨g9, h⟩ := q_gd_h h
                    refine m_iald G V 4 m_w4 g9 d_M_get_92 ?_
                    obtain ⟨r11, h10, h⟩ := q_bind h
                    refine m_cV_i (As := [.int (u1), .int (u2), .int (m_I σ 4 ((v6 : Int32).toNatClampNeg))]) (rest := []) G V hml (c_M_below l D b cs N σ u1 u2 (m_I σ 4 ((v6 : Int32).toNatClampNeg)) r11 h10) 0 4 rfl m_w0 g_M_134 e_M_below ⟨Nat.le_of_ble_eq_true rfl, Nat.le_of_ble_eq_true rfl⟩ ⟨rfl, rfl⟩ ⟨Nat.zero_le _, Nat.zero_le _⟩ rfl hl.1 rfl (Nat.le_of_ble_eq_true rfl) d_M_get_93 (fun H locs V => ?_)
                    refine lv_istore (lv' := [(6, .int (r11)), (0, .ref (b 0)), (1, .int (u1)), (2, .int (u2)), (4, .int (u4)), (7, .int (v7))]) hx hb d_M_get_96 hl (by decide) rfl (fun ls hl => ?_)
                    refine lv_iinc (k := 5) (v := v7 + 1) (lv' := [(7, .int (v7 + 1)), (6, .int (r11)), (0, .ref (b 0)), (1, .int (u1)), (2, .int (u2)), (4, .int (u4))]) hx hb d_M_get_98 hl rfl rfl (by decide) rfl (fun ls hl => ?_)
                    refine lv_goto (tgt := 71) hx hb d_M_get_101 (by decide) ?_
                    exact ih _ _ _ _ ls h (lv_sub hl [2, 3, 4, 5, 1, 0] rfl) V
            replace hl := lv_sub (l' := [(0, .ref (b 0)), (1, .int (a1)), (2, .int (a2)), (4, .int (a4)), (6, .int (r8)), (7, .int (0))]) hl [3, 4, 5, 7, 1, 0] rfl
            refine lp71 _ _ _ _ _ ?_ _ _ _ _ _ ls h hl V
            intro v6 H locs ls h hl V
            refine lv_iload hx hb d_M_get_104 (lv_at hl 1 rfl) ?_
            refine lv_if_ge (tgt := 115) hx hb d_M_get_106 (by decide) (fun hc => ?_) (fun hc => ?_)
            · replace h := q_ifp hc h
              refine lv_ldc2 (v := 4294967296) hx hb hown (hts _ k_M_177) d_M_get_115 ?_
              refine lv_aload_n hx hb d_M_get_118 rfl (lv_at hl 0 rfl) ?_
              refine m_get (v := .ref (b 4)) G V 0 4 4 m_w0 rfl in_M (by decide) k_M_19 rfl d_M_get_119 ?_
              refine lv_iload hx hb d_M_get_122 (lv_at hl 1 rfl) ?_
              obtain ⟨g12, h⟩ := q_gd_h h
              refine m_iald G V 4 m_w4 g12 d_M_get_124 ?_
              refine lv_i2l (v := (m_I s6 4 ((v6 : Int32).toNatClampNeg) : Int32).toInt64) hx hb d_M_get_125 rfl ?_
              refine lv_lmul hx hb d_M_get_126 ?_
              refine lv_aload_n hx hb d_M_get_127 rfl (lv_at hl 0 rfl) ?_
              refine m_get (v := .ref (b 5)) G V 0 4 5 m_w0 rfl in_M (by decide) k_M_22 rfl d_M_get_128 ?_
              refine lv_iload hx hb d_M_get_131 (lv_at hl 1 rfl) ?_
              obtain ⟨g13, h⟩ := q_gd_h h
              refine m_iald G V 5 m_w5 g13 d_M_get_133 ?_
              refine lv_i2l (v := (m_I s6 5 ((v6 : Int32).toNatClampNeg) : Int32).toInt64) hx hb d_M_get_134 rfl ?_
              refine lv_ldc2 (v := 4294967295) hx hb hown (hts _ k_M_179) d_M_get_135 ?_
              refine lv_land hx hb d_M_get_138 ?_
              refine lv_ladd hx hb d_M_get_139 ?_
              exact m_ret_l G hr hlk h V d_M_get_140
            · replace h := q_ifn hc h
              refine lv_ldc2 (v := -1) hx hb hown (hts _ k_M_171) d_M_get_109 ?_
              refine lv_goto (tgt := 140) hx hb d_M_get_112 (by decide) ?_
              exact m_ret_l G hr hlk h V d_M_get_140
          · replace h := q_ifn hc h
            refine lv_iconst (v := 0) hx hb d_M_get_49 (by decide) ?_
            refine lv_goto (tgt := 56) hx hb d_M_get_50 (by decide) ?_
            refine lv_istore (lv' := [(5, .int (0)), (0, .ref (b 0)), (1, .int (a1)), (2, .int (a2)), (3, .int (a3)), (4, .int (a4))]) hx hb d_M_get_56 hl (by decide) rfl (fun ls hl => ?_)
            refine lv_aload_n hx hb d_M_get_58 rfl (lv_at hl 1 rfl) ?_
            refine lv_iload_n hx hb d_M_get_59 rfl (lv_at hl 2 rfl) ?_
            refine lv_iload_n hx hb d_M_get_60 rfl (lv_at hl 3 rfl) ?_
            refine lv_iload hx hb d_M_get_61 (lv_at hl 0 rfl) ?_
            obtain ⟨r15, h14, h⟩ := q_bind h
            refine m_cV_i (As := [.int (a1), .int (a2), .int (0)]) (rest := []) G V hml (c_M_below l D b cs N s6 a1 a2 0 r15 h14) 0 4 rfl m_w0 g_M_134 e_M_below ⟨Nat.le_of_ble_eq_true rfl, Nat.le_of_ble_eq_true rfl⟩ ⟨rfl, rfl⟩ ⟨Nat.zero_le _, Nat.zero_le _⟩ rfl hl.1 rfl (Nat.le_of_ble_eq_true rfl) d_M_get_63 (fun H locs V => ?_)
            refine lv_istore (lv' := [(6, .int (r15)), (5, .int (0)), (0, .ref (b 0)), (1, .int (a1)), (2, .int (a2)), (3, .int (a3)), (4, .int (a4))]) hx hb d_M_get_66 hl (by decide) rfl (fun ls hl => ?_)
            refine lv_iconst (v := 0) hx hb d_M_get_68 (by decide) ?_
            refine lv_istore (lv' := [(7, .int (0)), (6, .int (r15)), (5, .int (0)), (0, .ref (b 0)), (1, .int (a1)), (2, .int (a2)), (3, .int (a3)), (4, .int (a4))]) hx hb d_M_get_69 hl (by decide) rfl (fun ls hl => ?_)
            have lp71 : ∀ (σ : m_T) (u1 : Int32) (u2 : Int32) (u4 : Int32) (K : Int32 → Option (Int64 × m_T)) (_ : ∀ (v6 : Int32) (H : Heap) (locs : List Loc) (ls : Array Slot), K v6 = some (r, σ') → lv_has ls 8 [(0, .ref (b 0)), (6, .int (v6))] → m_V D b cs σ A s.heap H locs → W p l e { frames := 3, cells := 0, slots := 0, locals := 72 } s m args below meth c H locs 0 0 (m_Ql below args s D b cs A r σ') (F0 m 104 ls [])) (n : Nat) (v6 : Int32) (v7 : Int32) (H : Heap) (locs : List Loc) (ls : Array Slot), f_M_get_L71 N σ u1 u2 u4 K n v6 v7 = some (r, σ') → lv_has ls 8 [(0, .ref (b 0)), (1, .int (u1)), (2, .int (u2)), (4, .int (u4)), (6, .int (v6)), (7, .int (v7))] → m_V D b cs σ A s.heap H locs → W p l e { frames := 3, cells := 0, slots := 0, locals := 72 } s m args below meth c H locs 0 0 (m_Ql below args s D b cs A r σ') (F0 m 71 ls []) := by
              intro σ u1 u2 u4 K hK n
              induction n with
              | zero => intro v6 v7 H locs ls h hl V; cases h
              | succ n ih =>
                intro v6 v7 H locs ls h hl V
                rw [f_M_get_L71] at h
                refine lv_iload hx hb d_M_get_71 (lv_at hl 5 rfl) ?_
                refine lv_iload hx hb d_M_get_73 (lv_at hl 3 rfl) ?_
                refine lv_icmp_ge (tgt := 104) hx hb d_M_get_75 (by decide) (fun hc => ?_) (fun hc => ?_)
                · replace h := q_ifp hc h
                  exact hK _ _ _ ls h (lv_sub hl [0, 4] rfl) V
                · replace h := q_ifn hc h
                  refine lv_iload hx hb d_M_get_78 (lv_at hl 4 rfl) ?_
                  refine lv_if_lt (tgt := 104) hx hb d_M_get_80 (by decide) (fun hc => ?_) (fun hc => ?_)
                  · replace h := q_ifp hc h
                    exact hK _ _ _ ls h (lv_sub hl [0, 4] rfl) V
                  · replace h := q_ifn hc h
                    refine lv_aload_n hx hb d_M_get_83 rfl (lv_at hl 0 rfl) ?_
                    refine lv_iload_n hx hb d_M_get_84 rfl (lv_at hl 1 rfl) ?_
                    refine lv_iload_n hx hb d_M_get_85 rfl (lv_at hl 2 rfl) ?_
                    refine lv_aload_n hx hb d_M_get_86 rfl (lv_at hl 0 rfl) ?_
                    refine m_get (v := .ref (b 4)) G V 0 4 4 m_w0 rfl in_M (by decide) k_M_19 rfl d_M_get_87 ?_
                    refine lv_iload hx hb d_M_get_90 (lv_at hl 4 rfl) ?_
                    obtain ⟨g16, h⟩ := q_gd_h h
                    refine m_iald G V 4 m_w4 g16 d_M_get_92 ?_
                    obtain ⟨r18, h17, h⟩ := q_bind h
                    refine m_cV_i (As := [.int (u1), .int (u2), .int (m_I σ 4 ((v6 : Int32).toNatClampNeg))]) (rest := []) G V hml (c_M_below l D b cs N σ u1 u2 (m_I σ 4 ((v6 : Int32).toNatClampNeg)) r18 h17) 0 4 rfl m_w0 g_M_134 e_M_below ⟨Nat.le_of_ble_eq_true rfl, Nat.le_of_ble_eq_true rfl⟩ ⟨rfl, rfl⟩ ⟨Nat.zero_le _, Nat.zero_le _⟩ rfl hl.1 rfl (Nat.le_of_ble_eq_true rfl) d_M_get_93 (fun H locs V => ?_)
                    refine lv_istore (lv' := [(6, .int (r18)), (0, .ref (b 0)), (1, .int (u1)), (2, .int (u2)), (4, .int (u4)), (7, .int (v7))]) hx hb d_M_get_96 hl (by decide) rfl (fun ls hl => ?_)
                    refine lv_iinc (k := 5) (v := v7 + 1) (lv' := [(7, .int (v7 + 1)), (6, .int (r18)), (0, .ref (b 0)), (1, .int (u1)), (2, .int (u2)), (4, .int (u4))]) hx hb d_M_get_98 hl rfl rfl (by decide) rfl (fun ls hl => ?_)
                    refine lv_goto (tgt := 71) hx hb d_M_get_101 (by decide) ?_
                    exact ih _ _ _ _ ls h (lv_sub hl [2, 3, 4, 5, 1, 0] rfl) V
            replace hl := lv_sub (l' := [(0, .ref (b 0)), (1, .int (a1)), (2, .int (a2)), (4, .int (a4)), (6, .int (r15)), (7, .int (0))]) hl [3, 4, 5, 7, 1, 0] rfl
            refine lp71 _ _ _ _ _ ?_ _ _ _ _ _ ls h hl V
            intro v6 H locs ls h hl V
            refine lv_iload hx hb d_M_get_104 (lv_at hl 1 rfl) ?_
            refine lv_if_ge (tgt := 115) hx hb d_M_get_106 (by decide) (fun hc => ?_) (fun hc => ?_)
            · replace h := q_ifp hc h
              refine lv_ldc2 (v := 4294967296) hx hb hown (hts _ k_M_177) d_M_get_115 ?_
              refine lv_aload_n hx hb d_M_get_118 rfl (lv_at hl 0 rfl) ?_
              refine m_get (v := .ref (b 4)) G V 0 4 4 m_w0 rfl in_M (by decide) k_M_19 rfl d_M_get_119 ?_
              refine lv_iload hx hb d_M_get_122 (lv_at hl 1 rfl) ?_
              obtain ⟨g19, h⟩ := q_gd_h h
              refine m_iald G V 4 m_w4 g19 d_M_get_124 ?_
              refine lv_i2l (v := (m_I s6 4 ((v6 : Int32).toNatClampNeg) : Int32).toInt64) hx hb d_M_get_125 rfl ?_
              refine lv_lmul hx hb d_M_get_126 ?_
              refine lv_aload_n hx hb d_M_get_127 rfl (lv_at hl 0 rfl) ?_
              refine m_get (v := .ref (b 5)) G V 0 4 5 m_w0 rfl in_M (by decide) k_M_22 rfl d_M_get_128 ?_
              refine lv_iload hx hb d_M_get_131 (lv_at hl 1 rfl) ?_
              obtain ⟨g20, h⟩ := q_gd_h h
              refine m_iald G V 5 m_w5 g20 d_M_get_133 ?_
              refine lv_i2l (v := (m_I s6 5 ((v6 : Int32).toNatClampNeg) : Int32).toInt64) hx hb d_M_get_134 rfl ?_
              refine lv_ldc2 (v := 4294967295) hx hb hown (hts _ k_M_179) d_M_get_135 ?_
              refine lv_land hx hb d_M_get_138 ?_
              refine lv_ladd hx hb d_M_get_139 ?_
              exact m_ret_l G hr hlk h V d_M_get_140
            · replace h := q_ifn hc h
              refine lv_ldc2 (v := -1) hx hb hown (hts _ k_M_171) d_M_get_109 ?_
              refine lv_goto (tgt := 140) hx hb d_M_get_112 (by decide) ?_
              exact m_ret_l G hr hlk h V d_M_get_140
        · replace h := q_ifn hc h
          refine lv_sipush (v := 10000) hx hb d_M_get_39 (by decide) ?_
          refine lv_goto (tgt := 56) hx hb d_M_get_42 (by decide) ?_
          refine lv_istore (lv' := [(5, .int (10000)), (0, .ref (b 0)), (1, .int (a1)), (2, .int (a2)), (3, .int (a3)), (4, .int (a4))]) hx hb d_M_get_56 hl (by decide) rfl (fun ls hl => ?_)
          refine lv_aload_n hx hb d_M_get_58 rfl (lv_at hl 1 rfl) ?_
          refine lv_iload_n hx hb d_M_get_59 rfl (lv_at hl 2 rfl) ?_
          refine lv_iload_n hx hb d_M_get_60 rfl (lv_at hl 3 rfl) ?_
          refine lv_iload hx hb d_M_get_61 (lv_at hl 0 rfl) ?_
          obtain ⟨r22, h21, h⟩ := q_bind h
          refine m_cV_i (As := [.int (a1), .int (a2), .int (10000)]) (rest := []) G V hml (c_M_below l D b cs N s6 a1 a2 10000 r22 h21) 0 4 rfl m_w0 g_M_134 e_M_below ⟨Nat.le_of_ble_eq_true rfl, Nat.le_of_ble_eq_true rfl⟩ ⟨rfl, rfl⟩ ⟨Nat.zero_le _, Nat.zero_le _⟩ rfl hl.1 rfl (Nat.le_of_ble_eq_true rfl) d_M_get_63 (fun H locs V => ?_)
          refine lv_istore (lv' := [(6, .int (r22)), (5, .int (10000)), (0, .ref (b 0)), (1, .int (a1)), (2, .int (a2)), (3, .int (a3)), (4, .int (a4))]) hx hb d_M_get_66 hl (by decide) rfl (fun ls hl => ?_)
          refine lv_iconst (v := 0) hx hb d_M_get_68 (by decide) ?_
          refine lv_istore (lv' := [(7, .int (0)), (6, .int (r22)), (5, .int (10000)), (0, .ref (b 0)), (1, .int (a1)), (2, .int (a2)), (3, .int (a3)), (4, .int (a4))]) hx hb d_M_get_69 hl (by decide) rfl (fun ls hl => ?_)
          have lp71 : ∀ (σ : m_T) (u1 : Int32) (u2 : Int32) (u4 : Int32) (K : Int32 → Option (Int64 × m_T)) (_ : ∀ (v6 : Int32) (H : Heap) (locs : List Loc) (ls : Array Slot), K v6 = some (r, σ') → lv_has ls 8 [(0, .ref (b 0)), (6, .int (v6))] → m_V D b cs σ A s.heap H locs → W p l e { frames := 3, cells := 0, slots := 0, locals := 72 } s m args below meth c H locs 0 0 (m_Ql below args s D b cs A r σ') (F0 m 104 ls [])) (n : Nat) (v6 : Int32) (v7 : Int32) (H : Heap) (locs : List Loc) (ls : Array Slot), f_M_get_L71 N σ u1 u2 u4 K n v6 v7 = some (r, σ') → lv_has ls 8 [(0, .ref (b 0)), (1, .int (u1)), (2, .int (u2)), (4, .int (u4)), (6, .int (v6)), (7, .int (v7))] → m_V D b cs σ A s.heap H locs → W p l e { frames := 3, cells := 0, slots := 0, locals := 72 } s m args below meth c H locs 0 0 (m_Ql below args s D b cs A r σ') (F0 m 71 ls []) := by
            intro σ u1 u2 u4 K hK n
            induction n with
            | zero => intro v6 v7 H locs ls h hl V; cases h
            | succ n ih =>
              intro v6 v7 H locs ls h hl V
              rw [f_M_get_L71] at h
              refine lv_iload hx hb d_M_get_71 (lv_at hl 5 rfl) ?_
              refine lv_iload hx hb d_M_get_73 (lv_at hl 3 rfl) ?_
              refine lv_icmp_ge (tgt := 104) hx hb d_M_get_75 (by decide) (fun hc => ?_) (fun hc => ?_)
              · replace h := q_ifp hc h
                exact hK _ _ _ ls h (lv_sub hl [0, 4] rfl) V
              · replace h := q_ifn hc h
                refine lv_iload hx hb d_M_get_78 (lv_at hl 4 rfl) ?_
                refine lv_if_lt (tgt := 104) hx hb d_M_get_80 (by decide) (fun hc => ?_) (fun hc => ?_)
                · replace h := q_ifp hc h
                  exact hK _ _ _ ls h (lv_sub hl [0, 4] rfl) V
                · replace h := q_ifn hc h
                  refine lv_aload_n hx hb d_M_get_83 rfl (lv_at hl 0 rfl) ?_
                  refine lv_iload_n hx hb d_M_get_84 rfl (lv_at hl 1 rfl) ?_
                  refine lv_iload_n hx hb d_M_get_85 rfl (lv_at hl 2 rfl) ?_
                  refine lv_aload_n hx hb d_M_get_86 rfl (lv_at hl 0 rfl) ?_
                  refine m_get (v := .ref (b 4)) G V 0 4 4 m_w0 rfl in_M (by decide) k_M_19 rfl d_M_get_87 ?_
                  refine lv_iload hx hb d_M_get_90 (lv_at hl 4 rfl) ?_
                  obtain ⟨g23, h⟩ := q_gd_h h
                  refine m_iald G V 4 m_w4 g23 d_M_get_92 ?_
                  obtain ⟨r25, h24, h⟩ := q_bind h
                  refine m_cV_i (As := [.int (u1), .int (u2), .int (m_I σ 4 ((v6 : Int32).toNatClampNeg))]) (rest := []) G V hml (c_M_below l D b cs N σ u1 u2 (m_I σ 4 ((v6 : Int32).toNatClampNeg)) r25 h24) 0 4 rfl m_w0 g_M_134 e_M_below ⟨Nat.le_of_ble_eq_true rfl, Nat.le_of_ble_eq_true rfl⟩ ⟨rfl, rfl⟩ ⟨Nat.zero_le _, Nat.zero_le _⟩ rfl hl.1 rfl (Nat.le_of_ble_eq_true rfl) d_M_get_93 (fun H locs V => ?_)
                  refine lv_istore (lv' := [(6, .int (r25)), (0, .ref (b 0)), (1, .int (u1)), (2, .int (u2)), (4, .int (u4)), (7, .int (v7))]) hx hb d_M_get_96 hl (by decide) rfl (fun ls hl => ?_)
                  refine lv_iinc (k := 5) (v := v7 + 1) (lv' := [(7, .int (v7 + 1)), (6, .int (r25)), (0, .ref (b 0)), (1, .int (u1)), (2, .int (u2)), (4, .int (u4))]) hx hb d_M_get_98 hl rfl rfl (by decide) rfl (fun ls hl => ?_)
                  refine lv_goto (tgt := 71) hx hb d_M_get_101 (by decide) ?_
                  exact ih _ _ _ _ ls h (lv_sub hl [2, 3, 4, 5, 1, 0] rfl) V
          replace hl := lv_sub (l' := [(0, .ref (b 0)), (1, .int (a1)), (2, .int (a2)), (4, .int (a4)), (6, .int (r22)), (7, .int (0))]) hl [3, 4, 5, 7, 1, 0] rfl
          refine lp71 _ _ _ _ _ ?_ _ _ _ _ _ ls h hl V
          intro v6 H locs ls h hl V
          refine lv_iload hx hb d_M_get_104 (lv_at hl 1 rfl) ?_
          refine lv_if_ge (tgt := 115) hx hb d_M_get_106 (by decide) (fun hc => ?_) (fun hc => ?_)
          · replace h := q_ifp hc h
            refine lv_ldc2 (v := 4294967296) hx hb hown (hts _ k_M_177) d_M_get_115 ?_
            refine lv_aload_n hx hb d_M_get_118 rfl (lv_at hl 0 rfl) ?_
            refine m_get (v := .ref (b 4)) G V 0 4 4 m_w0 rfl in_M (by decide) k_M_19 rfl d_M_get_119 ?_
            refine lv_iload hx hb d_M_get_122 (lv_at hl 1 rfl) ?_
            obtain ⟨g26, h⟩ := q_gd_h h
            refine m_iald G V 4 m_w4 g26 d_M_get_124 ?_
            refine lv_i2l (v := (m_I s6 4 ((v6 : Int32).toNatClampNeg) : Int32).toInt64) hx hb d_M_get_125 rfl ?_
            refine lv_lmul hx hb d_M_get_126 ?_
            refine lv_aload_n hx hb d_M_get_127 rfl (lv_at hl 0 rfl) ?_
            refine m_get (v := .ref (b 5)) G V 0 4 5 m_w0 rfl in_M (by decide) k_M_22 rfl d_M_get_128 ?_
            refine lv_iload hx hb d_M_get_131 (lv_at hl 1 rfl) ?_
            obtain ⟨g27, h⟩ := q_gd_h h
            refine m_iald G V 5 m_w5 g27 d_M_get_133 ?_
            refine lv_i2l (v := (m_I s6 5 ((v6 : Int32).toNatClampNeg) : Int32).toInt64) hx hb d_M_get_134 rfl ?_
            refine lv_ldc2 (v := 4294967295) hx hb hown (hts _ k_M_179) d_M_get_135 ?_
            refine lv_land hx hb d_M_get_138 ?_
            refine lv_ladd hx hb d_M_get_139 ?_
            exact m_ret_l G hr hlk h V d_M_get_140
          · replace h := q_ifn hc h
            refine lv_ldc2 (v := -1) hx hb hown (hts _ k_M_171) d_M_get_109 ?_
            refine lv_goto (tgt := 140) hx hb d_M_get_112 (by decide) ?_
            exact m_ret_l G hr hlk h V d_M_get_140
      · replace h := q_ifn hc h
        refine lv_ldc2 (v := -1) hx hb hown (hts _ k_M_171) d_M_get_28 ?_
        exact m_ret_l G hr hlk h V d_M_get_31
    · replace h := q_ifp hc h
      refine lv_ldc2 (v := -1) hx hb hown (hts _ k_M_171) d_M_get_14 ?_
      exact m_ret_l G hr hlk h V d_M_get_17

set_option maxHeartbeats 40000000 in
set_option maxRecDepth 100000 in
theorem c_M_gather (l : Launch) (D : va_G) (b : Nat → Nat) (cs : Nat → ClassId) (N : Nat) (σ : m_T) (a1 : Int32) (a2 : Int32) (a3 : Int32) (a4 : Int32) (σ' : m_T) (h : f_M_gather N σ a1 a2 a3 a4 = some σ') : m_Cv l y_M_gather b_M_gather 6 none { frames := 3, cells := 0, slots := 0, locals := 70 } D b cs σ [.ref (b 0), .int (a1), .int (a2), .int (a3), .int (a4)] σ' := by
  refine m_met_v (own := R_M) (by decide) rfl (Nat.le_of_ble_eq_true rfl) ?_
  intro p e s m args below meth c A G hr hlk hml ls hl V
  have hx := G.1
  have hb := G.2.1
  have hown := G.2.2.1
  have hts := G.2.2.2.1
  have hN := G.2.2.2.2.2
  have hl : lv_has ls 6 [(0, .ref (b 0)), (1, .int (a1)), (2, .int (a2)), (3, .int (a3)), (4, .int (a4))] := hl
  unfold f_M_gather at h
  refine lv_aload_n hx hb d_M_gather_0 rfl (lv_at hl 0 rfl) ?_
  refine lv_iload_n hx hb d_M_gather_1 rfl (lv_at hl 1 rfl) ?_
  refine lv_iload_n hx hb d_M_gather_2 rfl (lv_at hl 2 rfl) ?_
  refine lv_iload hx hb d_M_gather_3 (lv_at hl 4 rfl) ?_
  refine lv_sipush (v := 9999) hx hb d_M_gather_5 (by decide) ?_
  refine lv_icmp_le (tgt := 17) hx hb d_M_gather_8 (by decide) (fun hc => ?_) (fun hc => ?_)
  · replace h := q_ifp hc h
    refine lv_iload hx hb d_M_gather_17 (lv_at hl 4 rfl) ?_
    refine lv_if_ge (tgt := 26) hx hb d_M_gather_19 (by decide) (fun hc => ?_) (fun hc => ?_)
    · replace h := q_ifp hc h
      refine lv_iload hx hb d_M_gather_26 (lv_at hl 4 rfl) ?_
      refine lv_iconst (v := 1) hx hb d_M_gather_28 (by decide) ?_
      refine lv_iadd hx hb d_M_gather_29 ?_
      obtain ⟨r2, h1, h⟩ := q_bind h
      refine m_cV_i (As := [.int (a1), .int (a2), .int (a4 + 1)]) (rest := []) G V hml (c_M_below l D b cs N σ a1 a2 (a4 + 1) r2 h1) 0 4 rfl m_w0 g_M_134 e_M_below ⟨Nat.le_of_ble_eq_true rfl, Nat.le_of_ble_eq_true rfl⟩ ⟨rfl, rfl⟩ ⟨Nat.zero_le _, Nat.zero_le _⟩ rfl hl.1 rfl (Nat.le_of_ble_eq_true rfl) d_M_gather_30 (fun H locs V => ?_)
      refine lv_istore (lv' := [(5, .int (r2)), (0, .ref (b 0)), (1, .int (a1)), (2, .int (a2)), (3, .int (a3)), (4, .int (a4))]) hx hb d_M_gather_33 hl (by decide) rfl (fun ls hl => ?_)
      have lp35 : ∀ (u1 : Int32) (u2 : Int32) (u3 : Int32) (K : m_T → Option m_T) (_ : ∀ (σ : m_T) (H : Heap) (locs : List Loc) (ls : Array Slot), K σ = some σ' → lv_has ls 6 [] → m_V D b cs σ A s.heap H locs → W p l e { frames := 3, cells := 0, slots := 0, locals := 70 } s m args below meth c H locs 0 0 (m_Qv below args s D b cs A σ') (F0 m 122 ls [])) (n : Nat) (v5 : Int32) (σ : m_T) (H : Heap) (locs : List Loc) (ls : Array Slot), f_M_gather_L35 N u1 u2 u3 K n v5 σ = some σ' → lv_has ls 6 [(0, .ref (b 0)), (1, .int (u1)), (2, .int (u2)), (3, .int (u3)), (5, .int (v5))] → m_V D b cs σ A s.heap H locs → W p l e { frames := 3, cells := 0, slots := 0, locals := 70 } s m args below meth c H locs 0 0 (m_Qv below args s D b cs A σ') (F0 m 35 ls []) := by
        intro u1 u2 u3 K hK n
        induction n with
        | zero => intro v5 σ H locs ls h hl V; cases h
        | succ n ih =>
          intro v5 σ H locs ls h hl V
          rw [f_M_gather_L35] at h
          refine lv_iload hx hb d_M_gather_35 (lv_at hl 4 rfl) ?_
          refine lv_if_lt (tgt := 122) hx hb d_M_gather_37 (by decide) (fun hc => ?_) (fun hc => ?_)
          · replace h := q_ifp hc h
            exact hK _ _ _ ls h (lv_sub hl [] rfl) V
          · replace h := q_ifn hc h
            refine lv_aload_n hx hb d_M_gather_40 rfl (lv_at hl 0 rfl) ?_
            refine m_get (v := .ref (b 4)) G V 0 4 4 m_w0 rfl in_M (by decide) k_M_19 rfl d_M_gather_41 ?_
            refine lv_iload hx hb d_M_gather_44 (lv_at hl 4 rfl) ?_
            obtain ⟨g3, h⟩ := q_gd_h h
            refine m_iald G V 4 m_w4 g3 d_M_gather_46 ?_
            refine lv_iload_n hx hb d_M_gather_47 rfl (lv_at hl 3 rfl) ?_
            refine lv_icmp_lt (tgt := 122) hx hb d_M_gather_48 (by decide) (fun hc => ?_) (fun hc => ?_)
            · replace h := q_ifp hc h
              exact hK _ _ _ ls h (lv_sub hl [] rfl) V
            · replace h := q_ifn hc h
              refine lv_aload_n hx hb d_M_gather_51 rfl (lv_at hl 0 rfl) ?_
              refine m_get (v := .ref (b 17)) G V 0 4 29 m_w0 rfl in_M (by decide) k_M_62 rfl d_M_gather_52 ?_
              refine lv_aload_n hx hb d_M_gather_55 rfl (lv_at hl 0 rfl) ?_
              refine m_get (v := .int (m_S σ 28)) G V 0 4 28 m_w0 rfl in_M (by decide) k_M_181 rfl d_M_gather_56 ?_
              refine lv_ldc (v := 80000) hx hb hown (hts _ k_M_184) d_M_gather_59 ?_
              refine lv_iload_n hx hb d_M_gather_61 rfl (lv_at hl 1 rfl) ?_
              refine lv_imul hx hb d_M_gather_62 ?_
              refine lv_sipush (v := 10000) hx hb d_M_gather_63 (by decide) ?_
              refine lv_iload_n hx hb d_M_gather_66 rfl (lv_at hl 2 rfl) ?_
              refine lv_imul hx hb d_M_gather_67 ?_
              refine lv_iadd hx hb d_M_gather_68 ?_
              refine lv_aload_n hx hb d_M_gather_69 rfl (lv_at hl 0 rfl) ?_
              refine m_get (v := .ref (b 4)) G V 0 4 4 m_w0 rfl in_M (by decide) k_M_19 rfl d_M_gather_70 ?_
              refine lv_iload hx hb d_M_gather_73 (lv_at hl 4 rfl) ?_
              obtain ⟨g4, h⟩ := q_gd_h h
              refine m_iald G V 4 m_w4 g4 d_M_gather_75 ?_
              refine lv_iadd hx hb d_M_gather_76 ?_
              obtain ⟨g5, h⟩ := q_gd_h h
              obtain ⟨s6, e6, h⟩ := q_let_h h
              refine m_iast (σ' := s6) G V 17 m_w17 (m_u17.trans (congrArg (m_W b cs) e6.symm)) g5 d_M_gather_77 (fun H locs V => ?_)
              refine lv_aload_n hx hb d_M_gather_78 rfl (lv_at hl 0 rfl) ?_
              refine m_get (v := .ref (b 18)) G V 0 4 30 m_w0 rfl in_M (by decide) k_M_65 rfl d_M_gather_79 ?_
              refine lv_aload_n hx hb d_M_gather_82 rfl (lv_at hl 0 rfl) ?_
              refine m_get (v := .int (m_S s6 28)) G V 0 4 28 m_w0 rfl in_M (by decide) k_M_181 rfl d_M_gather_83 ?_
              refine lv_aload_n hx hb d_M_gather_86 rfl (lv_at hl 0 rfl) ?_
              refine m_get (v := .ref (b 5)) G V 0 4 5 m_w0 rfl in_M (by decide) k_M_22 rfl d_M_gather_87 ?_
              refine lv_iload hx hb d_M_gather_90 (lv_at hl 4 rfl) ?_
              obtain ⟨g7, h⟩ := q_gd_h h
              refine m_iald G V 5 m_w5 g7 d_M_gather_92 ?_
              obtain ⟨g8, h⟩ := q_gd_h h
              obtain ⟨s9, e9, h⟩ := q_let_h h
              refine m_iast (σ' := s9) G V 18 m_w18 (m_u18.trans (congrArg (m_W b cs) e9.symm)) g8 d_M_gather_93 (fun H locs V => ?_)
              refine lv_aload_n hx hb d_M_gather_94 rfl (lv_at hl 0 rfl) ?_
              refine lv_dup hx hb d_M_gather_95 rfl ?_
              refine m_get (v := .int (m_S s9 28)) G V 0 4 28 m_w0 rfl in_M (by decide) k_M_181 rfl d_M_gather_96 ?_
              refine lv_iconst (v := 1) hx hb d_M_gather_99 (by decide) ?_
              refine lv_iadd hx hb d_M_gather_100 ?_
              obtain ⟨s10, e10, h⟩ := q_let_h h
              refine m_put (σ' := s10) (ty := .int) G V 0 4 28 m_w0 rfl in_M tt_M_ok n_M (by decide) k_M_181 rfl rfl rfl rfl (Nat.le_of_ble_eq_true rfl) (m_uM28.trans (congrArg (m_W b cs) e10.symm)) d_M_gather_101 (fun H locs V => ?_)
              refine lv_aload_n hx hb d_M_gather_104 rfl (lv_at hl 0 rfl) ?_
              refine lv_iload_n hx hb d_M_gather_105 rfl (lv_at hl 1 rfl) ?_
              refine lv_iload_n hx hb d_M_gather_106 rfl (lv_at hl 2 rfl) ?_
              refine lv_aload_n hx hb d_M_gather_107 rfl (lv_at hl 0 rfl) ?_
              refine m_get (v := .ref (b 4)) G V 0 4 4 m_w0 rfl in_M (by decide) k_M_19 rfl d_M_gather_108 ?_
              refine lv_iload hx hb d_M_gather_111 (lv_at hl 4 rfl) ?_
              obtain ⟨g11, h⟩ := q_gd_h h
              refine m_iald G V 4 m_w4 g11 d_M_gather_113 ?_
              obtain ⟨r13, h12, h⟩ := q_bind h
              refine m_cV_i (As := [.int (u1), .int (u2), .int (m_I s10 4 ((v5 : Int32).toNatClampNeg))]) (rest := []) G V hml (c_M_below l D b cs N s10 u1 u2 (m_I s10 4 ((v5 : Int32).toNatClampNeg)) r13 h12) 0 4 rfl m_w0 g_M_134 e_M_below ⟨Nat.le_of_ble_eq_true rfl, Nat.le_of_ble_eq_true rfl⟩ ⟨rfl, rfl⟩ ⟨Nat.zero_le _, Nat.zero_le _⟩ rfl hl.1 rfl (Nat.le_of_ble_eq_true rfl) d_M_gather_114 (fun H locs V => ?_)
              refine lv_istore (lv' := [(5, .int (r13)), (0, .ref (b 0)), (1, .int (u1)), (2, .int (u2)), (3, .int (u3))]) hx hb d_M_gather_117 hl (by decide) rfl (fun ls hl => ?_)
              refine lv_goto (tgt := 35) hx hb d_M_gather_119 (by decide) ?_
              exact ih _ _ _ _ ls h (lv_sub hl [1, 2, 3, 4, 0] rfl) V
      replace hl := lv_sub (l' := [(0, .ref (b 0)), (1, .int (a1)), (2, .int (a2)), (3, .int (a3)), (5, .int (r2))]) hl [1, 2, 3, 4, 0] rfl
      refine lp35 _ _ _ _ ?_ _ _ _ _ _ ls h hl V
      intro t14 H locs ls h hl V
      exact m_ret_v G hr hlk h V d_M_gather_122
    · replace h := q_ifn hc h
      refine lv_iconst (v := 0) hx hb d_M_gather_22 (by decide) ?_
      refine lv_goto (tgt := 30) hx hb d_M_gather_23 (by decide) ?_
      obtain ⟨r16, h15, h⟩ := q_bind h
      refine m_cV_i (As := [.int (a1), .int (a2), .int (0)]) (rest := []) G V hml (c_M_below l D b cs N σ a1 a2 0 r16 h15) 0 4 rfl m_w0 g_M_134 e_M_below ⟨Nat.le_of_ble_eq_true rfl, Nat.le_of_ble_eq_true rfl⟩ ⟨rfl, rfl⟩ ⟨Nat.zero_le _, Nat.zero_le _⟩ rfl hl.1 rfl (Nat.le_of_ble_eq_true rfl) d_M_gather_30 (fun H locs V => ?_)
      refine lv_istore (lv' := [(5, .int (r16)), (0, .ref (b 0)), (1, .int (a1)), (2, .int (a2)), (3, .int (a3)), (4, .int (a4))]) hx hb d_M_gather_33 hl (by decide) rfl (fun ls hl => ?_)
      have lp35 : ∀ (u1 : Int32) (u2 : Int32) (u3 : Int32) (K : m_T → Option m_T) (_ : ∀ (σ : m_T) (H : Heap) (locs : List Loc) (ls : Array Slot), K σ = some σ' → lv_has ls 6 [] → m_V D b cs σ A s.heap H locs → W p l e { frames := 3, cells := 0, slots := 0, locals := 70 } s m args below meth c H locs 0 0 (m_Qv below args s D b cs A σ') (F0 m 122 ls [])) (n : Nat) (v5 : Int32) (σ : m_T) (H : Heap) (locs : List Loc) (ls : Array Slot), f_M_gather_L35 N u1 u2 u3 K n v5 σ = some σ' → lv_has ls 6 [(0, .ref (b 0)), (1, .int (u1)), (2, .int (u2)), (3, .int (u3)), (5, .int (v5))] → m_V D b cs σ A s.heap H locs → W p l e { frames := 3, cells := 0, slots := 0, locals := 70 } s m args below meth c H locs 0 0 (m_Qv below args s D b cs A σ') (F0 m 35 ls []) := by
        intro u1 u2 u3 K hK n
        induction n with
        | zero => intro v5 σ H locs ls h hl V; cases h
        | succ n ih =>
          intro v5 σ H locs ls h hl V
          rw [f_M_gather_L35] at h
          refine lv_iload hx hb d_M_gather_35 (lv_at hl 4 rfl) ?_
          refine lv_if_lt (tgt := 122) hx hb d_M_gather_37 (by decide) (fun hc => ?_) (fun hc => ?_)
          · replace h := q_ifp hc h
            exact hK _ _ _ ls h (lv_sub hl [] rfl) V
          · replace h := q_ifn hc h
            refine lv_aload_n hx hb d_M_gather_40 rfl (lv_at hl 0 rfl) ?_
            refine m_get (v := .ref (b 4)) G V 0 4 4 m_w0 rfl in_M (by decide) k_M_19 rfl d_M_gather_41 ?_
            refine lv_iload hx hb d_M_gather_44 (lv_at hl 4 rfl) ?_
            obtain ⟨g17, h⟩ := q_gd_h h
            refine m_iald G V 4 m_w4 g17 d_M_gather_46 ?_
            refine lv_iload_n hx hb d_M_gather_47 rfl (lv_at hl 3 rfl) ?_
            refine lv_icmp_lt (tgt := 122) hx hb d_M_gather_48 (by decide) (fun hc => ?_) (fun hc => ?_)
            · replace h := q_ifp hc h
              exact hK _ _ _ ls h (lv_sub hl [] rfl) V
            · replace h := q_ifn hc h
              refine lv_aload_n hx hb d_M_gather_51 rfl (lv_at hl 0 rfl) ?_
              refine m_get (v := .ref (b 17)) G V 0 4 29 m_w0 rfl in_M (by decide) k_M_62 rfl d_M_gather_52 ?_
              refine lv_aload_n hx hb d_M_gather_55 rfl (lv_at hl 0 rfl) ?_
              refine m_get (v := .int (m_S σ 28)) G V 0 4 28 m_w0 rfl in_M (by decide) k_M_181 rfl d_M_gather_56 ?_
              refine lv_ldc (v := 80000) hx hb hown (hts _ k_M_184) d_M_gather_59 ?_
              refine lv_iload_n hx hb d_M_gather_61 rfl (lv_at hl 1 rfl) ?_
              refine lv_imul hx hb d_M_gather_62 ?_
              refine lv_sipush (v := 10000) hx hb d_M_gather_63 (by decide) ?_
              refine lv_iload_n hx hb d_M_gather_66 rfl (lv_at hl 2 rfl) ?_
              refine lv_imul hx hb d_M_gather_67 ?_
              refine lv_iadd hx hb d_M_gather_68 ?_
              refine lv_aload_n hx hb d_M_gather_69 rfl (lv_at hl 0 rfl) ?_
              refine m_get (v := .ref (b 4)) G V 0 4 4 m_w0 rfl in_M (by decide) k_M_19 rfl d_M_gather_70 ?_
              refine lv_iload hx hb d_M_gather_73 (lv_at hl 4 rfl) ?_
              obtain ⟨g18, h⟩ := q_gd_h h
              refine m_iald G V 4 m_w4 g18 d_M_gather_75 ?_
              refine lv_iadd hx hb d_M_gather_76 ?_
              obtain ⟨g19, h⟩ := q_gd_h h
              obtain ⟨s20, e20, h⟩ := q_let_h h
              refine m_iast (σ' := s20) G V 17 m_w17 (m_u17.trans (congrArg (m_W b cs) e20.symm)) g19 d_M_gather_77 (fun H locs V => ?_)
              refine lv_aload_n hx hb d_M_gather_78 rfl (lv_at hl 0 rfl) ?_
              refine m_get (v := .ref (b 18)) G V 0 4 30 m_w0 rfl in_M (by decide) k_M_65 rfl d_M_gather_79 ?_
              refine lv_aload_n hx hb d_M_gather_82 rfl (lv_at hl 0 rfl) ?_
              refine m_get (v := .int (m_S s20 28)) G V 0 4 28 m_w0 rfl in_M (by decide) k_M_181 rfl d_M_gather_83 ?_
              refine lv_aload_n hx hb d_M_gather_86 rfl (lv_at hl 0 rfl) ?_
              refine m_get (v := .ref (b 5)) G V 0 4 5 m_w0 rfl in_M (by decide) k_M_22 rfl d_M_gather_87 ?_
              refine lv_iload hx hb d_M_gather_90 (lv_at hl 4 rfl) ?_
              obtain ⟨g21, h⟩ := q_gd_h h
              refine m_iald G V 5 m_w5 g21 d_M_gather_92 ?_
              obtain ⟨g22, h⟩ := q_gd_h h
              obtain ⟨s23, e23, h⟩ := q_let_h h
              refine m_iast (σ' := s23) G V 18 m_w18 (m_u18.trans (congrArg (m_W b cs) e23.symm)) g22 d_M_gather_93 (fun H locs V => ?_)
              refine lv_aload_n hx hb d_M_gather_94 rfl (lv_at hl 0 rfl) ?_
              refine lv_dup hx hb d_M_gather_95 rfl ?_
              refine m_get (v := .int (m_S s23 28)) G V 0 4 28 m_w0 rfl in_M (by decide) k_M_181 rfl d_M_gather_96 ?_
              refine lv_iconst (v := 1) hx hb d_M_gather_99 (by decide) ?_
              refine lv_iadd hx hb d_M_gather_100 ?_
              obtain ⟨s24, e24, h⟩ := q_let_h h
              refine m_put (σ' := s24) (ty := .int) G V 0 4 28 m_w0 rfl in_M tt_M_ok n_M (by decide) k_M_181 rfl rfl rfl rfl (Nat.le_of_ble_eq_true rfl) (m_uM28.trans (congrArg (m_W b cs) e24.symm)) d_M_gather_101 (fun H locs V => ?_)
              refine lv_aload_n hx hb d_M_gather_104 rfl (lv_at hl 0 rfl) ?_
              refine lv_iload_n hx hb d_M_gather_105 rfl (lv_at hl 1 rfl) ?_
              refine lv_iload_n hx hb d_M_gather_106 rfl (lv_at hl 2 rfl) ?_
              refine lv_aload_n hx hb d_M_gather_107 rfl (lv_at hl 0 rfl) ?_
              refine m_get (v := .ref (b 4)) G V 0 4 4 m_w0 rfl in_M (by decide) k_M_19 rfl d_M_gather_108 ?_
              refine lv_iload hx hb d_M_gather_111 (lv_at hl 4 rfl) ?_
              obtain ⟨g25, h⟩ := q_gd_h h
              refine m_iald G V 4 m_w4 g25 d_M_gather_113 ?_
              obtain ⟨r27, h26, h⟩ := q_bind h
              refine m_cV_i (As := [.int (u1), .int (u2), .int (m_I s24 4 ((v5 : Int32).toNatClampNeg))]) (rest := []) G V hml (c_M_below l D b cs N s24 u1 u2 (m_I s24 4 ((v5 : Int32).toNatClampNeg)) r27 h26) 0 4 rfl m_w0 g_M_134 e_M_below ⟨Nat.le_of_ble_eq_true rfl, Nat.le_of_ble_eq_true rfl⟩ ⟨rfl, rfl⟩ ⟨Nat.zero_le _, Nat.zero_le _⟩ rfl hl.1 rfl (Nat.le_of_ble_eq_true rfl) d_M_gather_114 (fun H locs V => ?_)
              refine lv_istore (lv' := [(5, .int (r27)), (0, .ref (b 0)), (1, .int (u1)), (2, .int (u2)), (3, .int (u3))]) hx hb d_M_gather_117 hl (by decide) rfl (fun ls hl => ?_)
              refine lv_goto (tgt := 35) hx hb d_M_gather_119 (by decide) ?_
              exact ih _ _ _ _ ls h (lv_sub hl [1, 2, 3, 4, 0] rfl) V
      replace hl := lv_sub (l' := [(0, .ref (b 0)), (1, .int (a1)), (2, .int (a2)), (3, .int (a3)), (5, .int (r16))]) hl [1, 2, 3, 4, 0] rfl
      refine lp35 _ _ _ _ ?_ _ _ _ _ _ ls h hl V
      intro t28 H locs ls h hl V
      exact m_ret_v G hr hlk h V d_M_gather_122
  · replace h := q_ifn hc h
    refine lv_sipush (v := 10000) hx hb d_M_gather_11 (by decide) ?_
    refine lv_goto (tgt := 30) hx hb d_M_gather_14 (by decide) ?_
    obtain ⟨r30, h29, h⟩ := q_bind h
    refine m_cV_i (As := [.int (a1), .int (a2), .int (10000)]) (rest := []) G V hml (c_M_below l D b cs N σ a1 a2 10000 r30 h29) 0 4 rfl m_w0 g_M_134 e_M_below ⟨Nat.le_of_ble_eq_true rfl, Nat.le_of_ble_eq_true rfl⟩ ⟨rfl, rfl⟩ ⟨Nat.zero_le _, Nat.zero_le _⟩ rfl hl.1 rfl (Nat.le_of_ble_eq_true rfl) d_M_gather_30 (fun H locs V => ?_)
    refine lv_istore (lv' := [(5, .int (r30)), (0, .ref (b 0)), (1, .int (a1)), (2, .int (a2)), (3, .int (a3)), (4, .int (a4))]) hx hb d_M_gather_33 hl (by decide) rfl (fun ls hl => ?_)
    have lp35 : ∀ (u1 : Int32) (u2 : Int32) (u3 : Int32) (K : m_T → Option m_T) (_ : ∀ (σ : m_T) (H : Heap) (locs : List Loc) (ls : Array Slot), K σ = some σ' → lv_has ls 6 [] → m_V D b cs σ A s.heap H locs → W p l e { frames := 3, cells := 0, slots := 0, locals := 70 } s m args below meth c H locs 0 0 (m_Qv below args s D b cs A σ') (F0 m 122 ls [])) (n : Nat) (v5 : Int32) (σ : m_T) (H : Heap) (locs : List Loc) (ls : Array Slot), f_M_gather_L35 N u1 u2 u3 K n v5 σ = some σ' → lv_has ls 6 [(0, .ref (b 0)), (1, .int (u1)), (2, .int (u2)), (3, .int (u3)), (5, .int (v5))] → m_V D b cs σ A s.heap H locs → W p l e { frames := 3, cells := 0, slots := 0, locals := 70 } s m args below meth c H locs 0 0 (m_Qv below args s D b cs A σ') (F0 m 35 ls []) := by
      intro u1 u2 u3 K hK n
      induction n with
      | zero => intro v5 σ H locs ls h hl V; cases h
      | succ n ih =>
        intro v5 σ H locs ls h hl V
        rw [f_M_gather_L35] at h
        refine lv_iload hx hb d_M_gather_35 (lv_at hl 4 rfl) ?_
        refine lv_if_lt (tgt := 122) hx hb d_M_gather_37 (by decide) (fun hc => ?_) (fun hc => ?_)
        · replace h := q_ifp hc h
          exact hK _ _ _ ls h (lv_sub hl [] rfl) V
        · replace h := q_ifn hc h
          refine lv_aload_n hx hb d_M_gather_40 rfl (lv_at hl 0 rfl) ?_
          refine m_get (v := .ref (b 4)) G V 0 4 4 m_w0 rfl in_M (by decide) k_M_19 rfl d_M_gather_41 ?_
          refine lv_iload hx hb d_M_gather_44 (lv_at hl 4 rfl) ?_
          obtain ⟨g31, h⟩ := q_gd_h h
          refine m_iald G V 4 m_w4 g31 d_M_gather_46 ?_
          refine lv_iload_n hx hb d_M_gather_47 rfl (lv_at hl 3 rfl) ?_
          refine lv_icmp_lt (tgt := 122) hx hb d_M_gather_48 (by decide) (fun hc => ?_) (fun hc => ?_)
          · replace h := q_ifp hc h
            exact hK _ _ _ ls h (lv_sub hl [] rfl) V
          · replace h := q_ifn hc h
            refine lv_aload_n hx hb d_M_gather_51 rfl (lv_at hl 0 rfl) ?_
            refine m_get (v := .ref (b 17)) G V 0 4 29 m_w0 rfl in_M (by decide) k_M_62 rfl d_M_gather_52 ?_
            refine lv_aload_n hx hb d_M_gather_55 rfl (lv_at hl 0 rfl) ?_
            refine m_get (v := .int (m_S σ 28)) G V 0 4 28 m_w0 rfl in_M (by decide) k_M_181 rfl d_M_gather_56 ?_
            refine lv_ldc (v := 80000) hx hb hown (hts _ k_M_184) d_M_gather_59 ?_
            refine lv_iload_n hx hb d_M_gather_61 rfl (lv_at hl 1 rfl) ?_
            refine lv_imul hx hb d_M_gather_62 ?_
            refine lv_sipush (v := 10000) hx hb d_M_gather_63 (by decide) ?_
            refine lv_iload_n hx hb d_M_gather_66 rfl (lv_at hl 2 rfl) ?_
            refine lv_imul hx hb d_M_gather_67 ?_
            refine lv_iadd hx hb d_M_gather_68 ?_
            refine lv_aload_n hx hb d_M_gather_69 rfl (lv_at hl 0 rfl) ?_
            refine m_get (v := .ref (b 4)) G V 0 4 4 m_w0 rfl in_M (by decide) k_M_19 rfl d_M_gather_70 ?_
            refine lv_iload hx hb d_M_gather_73 (lv_at hl 4 rfl) ?_
            obtain ⟨g32, h⟩ := q_gd_h h
            refine m_iald G V 4 m_w4 g32 d_M_gather_75 ?_
            refine lv_iadd hx hb d_M_gather_76 ?_
            obtain ⟨g33, h⟩ := q_gd_h h
            obtain ⟨s34, e34, h⟩ := q_let_h h
            refine m_iast (σ' := s34) G V 17 m_w17 (m_u17.trans (congrArg (m_W b cs) e34.symm)) g33 d_M_gather_77 (fun H locs V => ?_)
            refine lv_aload_n hx hb d_M_gather_78 rfl (lv_at hl 0 rfl) ?_
            refine m_get (v := .ref (b 18)) G V 0 4 30 m_w0 rfl in_M (by decide) k_M_65 rfl d_M_gather_79 ?_
            refine lv_aload_n hx hb d_M_gather_82 rfl (lv_at hl 0 rfl) ?_
            refine m_get (v := .int (m_S s34 28)) G V 0 4 28 m_w0 rfl in_M (by decide) k_M_181 rfl d_M_gather_83 ?_
            refine lv_aload_n hx hb d_M_gather_86 rfl (lv_at hl 0 rfl) ?_
            refine m_get (v := .ref (b 5)) G V 0 4 5 m_w0 rfl in_M (by decide) k_M_22 rfl d_M_gather_87 ?_
            refine lv_iload hx hb d_M_gather_90 (lv_at hl 4 rfl) ?_
            obtain ⟨g35, h⟩ := q_gd_h h
            refine m_iald G V 5 m_w5 g35 d_M_gather_92 ?_
            obtain ⟨g36, h⟩ := q_gd_h h
            obtain ⟨s37, e37, h⟩ := q_let_h h
            refine m_iast (σ' := s37) G V 18 m_w18 (m_u18.trans (congrArg (m_W b cs) e37.symm)) g36 d_M_gather_93 (fun H locs V => ?_)
            refine lv_aload_n hx hb d_M_gather_94 rfl (lv_at hl 0 rfl) ?_
            refine lv_dup hx hb d_M_gather_95 rfl ?_
            refine m_get (v := .int (m_S s37 28)) G V 0 4 28 m_w0 rfl in_M (by decide) k_M_181 rfl d_M_gather_96 ?_
            refine lv_iconst (v := 1) hx hb d_M_gather_99 (by decide) ?_
            refine lv_iadd hx hb d_M_gather_100 ?_
            obtain ⟨s38, e38, h⟩ := q_let_h h
            refine m_put (σ' := s38) (ty := .int) G V 0 4 28 m_w0 rfl in_M tt_M_ok n_M (by decide) k_M_181 rfl rfl rfl rfl (Nat.le_of_ble_eq_true rfl) (m_uM28.trans (congrArg (m_W b cs) e38.symm)) d_M_gather_101 (fun H locs V => ?_)
            refine lv_aload_n hx hb d_M_gather_104 rfl (lv_at hl 0 rfl) ?_
            refine lv_iload_n hx hb d_M_gather_105 rfl (lv_at hl 1 rfl) ?_
            refine lv_iload_n hx hb d_M_gather_106 rfl (lv_at hl 2 rfl) ?_
            refine lv_aload_n hx hb d_M_gather_107 rfl (lv_at hl 0 rfl) ?_
            refine m_get (v := .ref (b 4)) G V 0 4 4 m_w0 rfl in_M (by decide) k_M_19 rfl d_M_gather_108 ?_
            refine lv_iload hx hb d_M_gather_111 (lv_at hl 4 rfl) ?_
            obtain ⟨g39, h⟩ := q_gd_h h
            refine m_iald G V 4 m_w4 g39 d_M_gather_113 ?_
            obtain ⟨r41, h40, h⟩ := q_bind h
            refine m_cV_i (As := [.int (u1), .int (u2), .int (m_I s38 4 ((v5 : Int32).toNatClampNeg))]) (rest := []) G V hml (c_M_below l D b cs N s38 u1 u2 (m_I s38 4 ((v5 : Int32).toNatClampNeg)) r41 h40) 0 4 rfl m_w0 g_M_134 e_M_below ⟨Nat.le_of_ble_eq_true rfl, Nat.le_of_ble_eq_true rfl⟩ ⟨rfl, rfl⟩ ⟨Nat.zero_le _, Nat.zero_le _⟩ rfl hl.1 rfl (Nat.le_of_ble_eq_true rfl) d_M_gather_114 (fun H locs V => ?_)
            refine lv_istore (lv' := [(5, .int (r41)), (0, .ref (b 0)), (1, .int (u1)), (2, .int (u2)), (3, .int (u3))]) hx hb d_M_gather_117 hl (by decide) rfl (fun ls hl => ?_)
            refine lv_goto (tgt := 35) hx hb d_M_gather_119 (by decide) ?_
            exact ih _ _ _ _ ls h (lv_sub hl [1, 2, 3, 4, 0] rfl) V
    replace hl := lv_sub (l' := [(0, .ref (b 0)), (1, .int (a1)), (2, .int (a2)), (3, .int (a3)), (5, .int (r30))]) hl [1, 2, 3, 4, 0] rfl
    refine lp35 _ _ _ _ ?_ _ _ _ _ _ ls h hl V
    intro t42 H locs ls h hl V
    exact m_ret_v G hr hlk h V d_M_gather_122
