set_option maxHeartbeats 40000000 in
set_option maxRecDepth 100000 in
theorem c_M_scan (l : Launch) (D : va_G) (b : Nat → Nat) (cs : Nat → ClassId) (N : Nat) (σ : m_T) (a1 : Int32) (a2 : Int32) (a3 : Int32) (a4 : Int32) (a5 : Int32) (r : Int32) (σ' : m_T) (h : f_M_scan N σ a1 a2 a3 a4 a5 = some (r, σ')) : m_Ci l y_M_scan b_M_scan 8 (some .int) { frames := 4, cells := 0, slots := 0, locals := 95 } D b cs σ [.ref (b 0), .int (a1), .int (a2), .int (a3), .int (a4), .int (a5)] r σ' := by
  refine m_met_i (own := R_M) (by decide) rfl (Nat.le_of_ble_eq_true rfl) ?_
  intro p e s m args below meth c A G hr hlk hml ls hl V
  have hx := G.1
  have hb := G.2.1
  have hown := G.2.2.1
  have hts := G.2.2.2.1
  have hN := G.2.2.2.2.2
  have hl : lv_has ls 8 [(0, .ref (b 0)), (1, .int (a1)), (2, .int (a2)), (3, .int (a3)), (4, .int (a4)), (5, .int (a5))] := hl
  unfold f_M_scan at h
  refine lv_iload_n hx hb d_M_scan_0 rfl (lv_at hl 3 rfl) ?_
  refine lv_iconst (v := (-1)) hx hb d_M_scan_1 (by decide) ?_
  refine lv_icmp_lt (tgt := 11) hx hb d_M_scan_2 (by decide) (fun hc => ?_) (fun hc => ?_)
  · replace h := q_ifp hc h
    refine lv_iconst (v := (-1)) hx hb d_M_scan_11 (by decide) ?_
    exact m_ret_i G hr hlk h V d_M_scan_12
  · replace h := q_ifn hc h
    refine lv_iload_n hx hb d_M_scan_5 rfl (lv_at hl 3 rfl) ?_
    refine lv_bipush (v := 7) hx hb d_M_scan_6 (by decide) ?_
    refine lv_icmp_le (tgt := 13) hx hb d_M_scan_8 (by decide) (fun hc => ?_) (fun hc => ?_)
    · replace h := q_ifp hc h
      refine lv_aload_n hx hb d_M_scan_13 rfl (lv_at hl 0 rfl) ?_
      refine lv_iconst (v := 0) hx hb d_M_scan_14 (by decide) ?_
      obtain ⟨s1, e1, h⟩ := q_let_h h
      refine m_put (σ' := s1) (ty := .int) G V 0 4 28 m_w0 rfl in_M tt_M_ok n_M (by decide) k_M_181 rfl rfl rfl rfl (Nat.le_of_ble_eq_true rfl) (m_uM28.trans (congrArg (m_W b cs) e1.symm)) d_M_scan_15 (fun H locs V => ?_)
      refine lv_iconst (v := 0) hx hb d_M_scan_18 (by decide) ?_
      refine lv_istore (lv' := [(6, .int (0)), (0, .ref (b 0)), (1, .int (a1)), (2, .int (a2)), (3, .int (a3)), (4, .int (a4)), (5, .int (a5))]) hx hb d_M_scan_19 hl (by decide) rfl (fun ls hl => ?_)
      have lp21 : ∀ (u1 : Int32) (u2 : Int32) (u3 : Int32) (u4 : Int32) (u5 : Int32) (K : m_T → Option (Int32 × m_T)) (_ : ∀ (σ : m_T) (H : Heap) (locs : List Loc) (ls : Array Slot), K σ = some (r, σ') → lv_has ls 8 [(0, .ref (b 0))] → m_V D b cs σ A s.heap H locs → W p l e { frames := 4, cells := 0, slots := 0, locals := 95 } s m args below meth c H locs 0 0 (m_Qi below args s D b cs A r σ') (F0 m 91 ls [])) (n : Nat) (v6 : Int32) (σ : m_T) (H : Heap) (locs : List Loc) (ls : Array Slot), f_M_scan_L21 N u1 u2 u3 u4 u5 K n v6 σ = some (r, σ') → lv_has ls 8 [(0, .ref (b 0)), (1, .int (u1)), (2, .int (u2)), (3, .int (u3)), (4, .int (u4)), (5, .int (u5)), (6, .int (v6))] → m_V D b cs σ A s.heap H locs → W p l e { frames := 4, cells := 0, slots := 0, locals := 95 } s m args below meth c H locs 0 0 (m_Qi below args s D b cs A r σ') (F0 m 21 ls []) := by
        intro u1 u2 u3 u4 u5 K hK n
        induction n with
        | zero => intro v6 σ H locs ls h hl V; cases h
        | succ n ih =>
          intro v6 σ H locs ls h hl V
          rw [f_M_scan_L21] at h
          refine lv_iload hx hb d_M_scan_21 (lv_at hl 6 rfl) ?_
          refine lv_bipush (v := 64) hx hb d_M_scan_23 (by decide) ?_
          refine lv_icmp_ge (tgt := 91) hx hb d_M_scan_25 (by decide) (fun hc => ?_) (fun hc => ?_)
          · replace h := q_ifp hc h
            exact hK _ _ _ ls h (lv_sub hl [0] rfl) V
          · replace h := q_ifn hc h
            refine lv_iload hx hb d_M_scan_28 (lv_at hl 6 rfl) ?_
            refine lv_iload_n hx hb d_M_scan_30 rfl (lv_at hl 1 rfl) ?_
            refine lv_icmp_lt (tgt := 85) hx hb d_M_scan_31 (by decide) (fun hc => ?_) (fun hc => ?_)
            · replace h := q_ifp hc h
              refine lv_iinc (k := 6) (v := v6 + 1) (lv' := [(6, .int (v6 + 1)), (0, .ref (b 0)), (1, .int (u1)), (2, .int (u2)), (3, .int (u3)), (4, .int (u4)), (5, .int (u5))]) hx hb d_M_scan_85 hl rfl rfl (by decide) rfl (fun ls hl => ?_)
              refine lv_goto (tgt := 21) hx hb d_M_scan_88 (by decide) ?_
              exact ih _ _ _ _ ls h (lv_sub hl [1, 2, 3, 4, 5, 6, 0] rfl) V
            · replace h := q_ifn hc h
              refine lv_iload hx hb d_M_scan_34 (lv_at hl 6 rfl) ?_
              refine lv_iload_n hx hb d_M_scan_36 rfl (lv_at hl 2 rfl) ?_
              refine lv_icmp_gt (tgt := 85) hx hb d_M_scan_37 (by decide) (fun hc => ?_) (fun hc => ?_)
              · replace h := q_ifp hc h
                refine lv_iinc (k := 6) (v := v6 + 1) (lv' := [(6, .int (v6 + 1)), (0, .ref (b 0)), (1, .int (u1)), (2, .int (u2)), (3, .int (u3)), (4, .int (u4)), (5, .int (u5))]) hx hb d_M_scan_85 hl rfl rfl (by decide) rfl (fun ls hl => ?_)
                refine lv_goto (tgt := 21) hx hb d_M_scan_88 (by decide) ?_
                exact ih _ _ _ _ ls h (lv_sub hl [1, 2, 3, 4, 5, 6, 0] rfl) V
              · replace h := q_ifn hc h
                refine lv_aload_n hx hb d_M_scan_40 rfl (lv_at hl 0 rfl) ?_
                refine lv_iload hx hb d_M_scan_41 (lv_at hl 6 rfl) ?_
                obtain ⟨s3, h2, h⟩ := q_bind h
                refine m_cV_v (As := [.int (v6)]) (rest := []) G V hml (c_M_look l D b cs N σ v6 s3 h2) 0 4 rfl m_w0 g_M_173 e_M_look ⟨Nat.le_of_ble_eq_true rfl, Nat.le_of_ble_eq_true rfl⟩ ⟨rfl, rfl⟩ ⟨Nat.zero_le _, Nat.zero_le _⟩ rfl hl.1 rfl (Nat.le_of_ble_eq_true rfl) d_M_scan_43 (fun H locs V => ?_)
                refine lv_iconst (v := 0) hx hb d_M_scan_46 (by decide) ?_
                refine lv_istore (lv' := [(7, .int (0)), (0, .ref (b 0)), (1, .int (u1)), (2, .int (u2)), (3, .int (u3)), (4, .int (u4)), (5, .int (u5)), (6, .int (v6))]) hx hb d_M_scan_47 hl (by decide) rfl (fun ls hl => ?_)
                have lp49 : ∀ (u1 : Int32) (u2 : Int32) (u3 : Int32) (u4 : Int32) (u5 : Int32) (u6 : Int32) (K : m_T → Option (Int32 × m_T)) (_ : ∀ (σ : m_T) (H : Heap) (locs : List Loc) (ls : Array Slot), K σ = some (r, σ') → lv_has ls 8 [(0, .ref (b 0)), (1, .int (u1)), (2, .int (u2)), (3, .int (u3)), (4, .int (u4)), (5, .int (u5)), (6, .int (u6))] → m_V D b cs σ A s.heap H locs → W p l e { frames := 4, cells := 0, slots := 0, locals := 95 } s m args below meth c H locs 0 0 (m_Qi below args s D b cs A r σ') (F0 m 85 ls [])) (n : Nat) (v7 : Int32) (σ : m_T) (H : Heap) (locs : List Loc) (ls : Array Slot), f_M_scan_L49 N u1 u2 u3 u4 u5 u6 K n v7 σ = some (r, σ') → lv_has ls 8 [(0, .ref (b 0)), (1, .int (u1)), (2, .int (u2)), (3, .int (u3)), (4, .int (u4)), (5, .int (u5)), (6, .int (u6)), (7, .int (v7))] → m_V D b cs σ A s.heap H locs → W p l e { frames := 4, cells := 0, slots := 0, locals := 95 } s m args below meth c H locs 0 0 (m_Qi below args s D b cs A r σ') (F0 m 49 ls []) := by
                  intro u1 u2 u3 u4 u5 u6 K hK n
                  induction n with
                  | zero => intro v7 σ H locs ls h hl V; cases h
                  | succ n ih =>
                    intro v7 σ H locs ls h hl V
                    rw [f_M_scan_L49] at h
                    refine lv_iload hx hb d_M_scan_49 (lv_at hl 7 rfl) ?_
                    refine lv_bipush (v := 8) hx hb d_M_scan_51 (by decide) ?_
                    refine lv_icmp_ge (tgt := 85) hx hb d_M_scan_53 (by decide) (fun hc => ?_) (fun hc => ?_)
                    · replace h := q_ifp hc h
                      exact hK _ _ _ ls h (lv_sub hl [0, 1, 2, 3, 4, 5, 6] rfl) V
                    · replace h := q_ifn hc h
                      refine lv_iload_n hx hb d_M_scan_56 rfl (lv_at hl 3 rfl) ?_
                      refine lv_iconst (v := (-1)) hx hb d_M_scan_57 (by decide) ?_
                      refine lv_icmp_eq (tgt := 67) hx hb d_M_scan_58 (by decide) (fun hc => ?_) (fun hc => ?_)
                      · replace h := q_ifp hc h
                        refine lv_aload_n hx hb d_M_scan_67 rfl (lv_at hl 0 rfl) ?_
                        refine lv_iload hx hb d_M_scan_68 (lv_at hl 6 rfl) ?_
                        refine lv_iload hx hb d_M_scan_70 (lv_at hl 7 rfl) ?_
                        refine lv_iload hx hb d_M_scan_72 (lv_at hl 4 rfl) ?_
                        refine lv_iload hx hb d_M_scan_74 (lv_at hl 5 rfl) ?_
                        obtain ⟨s5, h4, h⟩ := q_bind h
                        refine m_cV_v (As := [.int (u6), .int (v7), .int (u4), .int (u5)]) (rest := []) G V hml (c_M_gather l D b cs N σ u6 v7 u4 u5 s5 h4) 0 4 rfl m_w0 g_M_185 e_M_gather ⟨Nat.le_of_ble_eq_true rfl, Nat.le_of_ble_eq_true rfl⟩ ⟨rfl, rfl⟩ ⟨Nat.zero_le _, Nat.zero_le _⟩ rfl hl.1 rfl (Nat.le_of_ble_eq_true rfl) d_M_scan_76 (fun H locs V => ?_)
                        refine lv_iinc (k := 7) (v := v7 + 1) (lv' := [(7, .int (v7 + 1)), (0, .ref (b 0)), (1, .int (u1)), (2, .int (u2)), (3, .int (u3)), (4, .int (u4)), (5, .int (u5)), (6, .int (u6))]) hx hb d_M_scan_79 hl rfl rfl (by decide) rfl (fun ls hl => ?_)
                        refine lv_goto (tgt := 49) hx hb d_M_scan_82 (by decide) ?_
                        exact ih _ _ _ _ ls h (lv_sub hl [1, 2, 3, 4, 5, 6, 7, 0] rfl) V
                      · replace h := q_ifn hc h
                        refine lv_iload_n hx hb d_M_scan_61 rfl (lv_at hl 3 rfl) ?_
                        refine lv_iload hx hb d_M_scan_62 (lv_at hl 7 rfl) ?_
                        refine lv_icmp_ne (tgt := 79) hx hb d_M_scan_64 (by decide) (fun hc => ?_) (fun hc => ?_)
                        · replace h := q_ifn hc h
                          refine lv_iinc (k := 7) (v := v7 + 1) (lv' := [(7, .int (v7 + 1)), (0, .ref (b 0)), (1, .int (u1)), (2, .int (u2)), (3, .int (u3)), (4, .int (u4)), (5, .int (u5)), (6, .int (u6))]) hx hb d_M_scan_79 hl rfl rfl (by decide) rfl (fun ls hl => ?_)
                          refine lv_goto (tgt := 49) hx hb d_M_scan_82 (by decide) ?_
                          exact ih _ _ _ _ ls h (lv_sub hl [1, 2, 3, 4, 5, 6, 7, 0] rfl) V
                        · replace h := q_ifp hc h
                          refine lv_aload_n hx hb d_M_scan_67 rfl (lv_at hl 0 rfl) ?_
                          refine lv_iload hx hb d_M_scan_68 (lv_at hl 6 rfl) ?_
                          refine lv_iload hx hb d_M_scan_70 (lv_at hl 7 rfl) ?_
                          refine lv_iload hx hb d_M_scan_72 (lv_at hl 4 rfl) ?_
                          refine lv_iload hx hb d_M_scan_74 (lv_at hl 5 rfl) ?_
                          obtain ⟨s7, h6, h⟩ := q_bind h
                          refine m_cV_v (As := [.int (u6), .int (v7), .int (u4), .int (u5)]) (rest := []) G V hml (c_M_gather l D b cs N σ u6 v7 u4 u5 s7 h6) 0 4 rfl m_w0 g_M_185 e_M_gather ⟨Nat.le_of_ble_eq_true rfl, Nat.le_of_ble_eq_true rfl⟩ ⟨rfl, rfl⟩ ⟨Nat.zero_le _, Nat.zero_le _⟩ rfl hl.1 rfl (Nat.le_of_ble_eq_true rfl) d_M_scan_76 (fun H locs V => ?_)
                          refine lv_iinc (k := 7) (v := v7 + 1) (lv' := [(7, .int (v7 + 1)), (0, .ref (b 0)), (1, .int (u1)), (2, .int (u2)), (3, .int (u3)), (4, .int (u4)), (5, .int (u5)), (6, .int (u6))]) hx hb d_M_scan_79 hl rfl rfl (by decide) rfl (fun ls hl => ?_)
                          refine lv_goto (tgt := 49) hx hb d_M_scan_82 (by decide) ?_
                          exact ih _ _ _ _ ls h (lv_sub hl [1, 2, 3, 4, 5, 6, 7, 0] rfl) V
                replace hl := lv_sub (l' := [(0, .ref (b 0)), (1, .int (u1)), (2, .int (u2)), (3, .int (u3)), (4, .int (u4)), (5, .int (u5)), (6, .int (v6)), (7, .int (0))]) hl [1, 2, 3, 4, 5, 6, 7, 0] rfl
                refine lp49 _ _ _ _ _ _ _ ?_ _ _ _ _ _ ls h hl V
                intro t8 H locs ls h hl V
                refine lv_iinc (k := 6) (v := v6 + 1) (lv' := [(6, .int (v6 + 1)), (0, .ref (b 0)), (1, .int (u1)), (2, .int (u2)), (3, .int (u3)), (4, .int (u4)), (5, .int (u5))]) hx hb d_M_scan_85 hl rfl rfl (by decide) rfl (fun ls hl => ?_)
                refine lv_goto (tgt := 21) hx hb d_M_scan_88 (by decide) ?_
                exact ih _ _ _ _ ls h (lv_sub hl [1, 2, 3, 4, 5, 6, 0] rfl) V
      replace hl := lv_sub (l' := [(0, .ref (b 0)), (1, .int (a1)), (2, .int (a2)), (3, .int (a3)), (4, .int (a4)), (5, .int (a5)), (6, .int (0))]) hl [1, 2, 3, 4, 5, 6, 0] rfl
      refine lp21 _ _ _ _ _ _ ?_ _ _ _ _ _ ls h hl V
      intro t9 H locs ls h hl V
      refine lv_aload_n hx hb d_M_scan_91 rfl (lv_at hl 0 rfl) ?_
      refine m_get (v := .int (m_S t9 28)) G V 0 4 28 m_w0 rfl in_M (by decide) k_M_181 rfl d_M_scan_92 ?_
      exact m_ret_i G hr hlk h V d_M_scan_95
    · replace h := q_ifn hc h
      refine lv_iconst (v := (-1)) hx hb d_M_scan_11 (by decide) ?_
      exact m_ret_i G hr hlk h V d_M_scan_12

set_option maxHeartbeats 40000000 in
set_option maxRecDepth 100000 in
theorem c_M_found (l : Launch) (D : va_G) (b : Nat → Nat) (cs : Nat → ClassId) (N : Nat) (σ : m_T) (a1 : Int32) (r : Int64) (h : f_M_found N σ a1 = some r) : m_Cl l y_M_found b_M_found 2 (some .long) { frames := 0, cells := 0, slots := 0, locals := 0 } D b cs σ [.ref (b 0), .int (a1)] r σ := by
  refine m_met_l (own := R_M) (by decide) rfl (Nat.le_of_ble_eq_true rfl) ?_
  intro p e s m args below meth c A G hr hlk hml ls hl V
  have hx := G.1
  have hb := G.2.1
  have hown := G.2.2.1
  have hts := G.2.2.2.1
  have hN := G.2.2.2.2.2
  have hl : lv_has ls 2 [(0, .ref (b 0)), (1, .int (a1))] := hl
  unfold f_M_found at h
  refine lv_iload_n hx hb d_M_found_0 rfl (lv_at hl 1 rfl) ?_
  refine lv_if_lt (tgt := 12) hx hb d_M_found_1 (by decide) (fun hc => ?_) (fun hc => ?_)
  · replace h := q_ifp hc h
    refine lv_ldc2 (v := -1) hx hb hown (hts _ k_M_171) d_M_found_12 ?_
    refine lv_goto (tgt := 41) hx hb d_M_found_15 (by decide) ?_
    exact m_pret_l G hr hlk h rfl V d_M_found_41
  · replace h := q_ifn hc h
    refine lv_iload_n hx hb d_M_found_4 rfl (lv_at hl 1 rfl) ?_
    refine lv_aload_n hx hb d_M_found_5 rfl (lv_at hl 0 rfl) ?_
    refine m_get (v := .int (m_S σ 28)) G V 0 4 28 m_w0 rfl in_M (by decide) k_M_181 rfl d_M_found_6 ?_
    refine lv_icmp_lt (tgt := 18) hx hb d_M_found_9 (by decide) (fun hc => ?_) (fun hc => ?_)
    · replace h := q_ifp hc h
      refine lv_ldc2 (v := 4294967296) hx hb hown (hts _ k_M_177) d_M_found_18 ?_
      refine lv_aload_n hx hb d_M_found_21 rfl (lv_at hl 0 rfl) ?_
      refine m_get (v := .ref (b 17)) G V 0 4 29 m_w0 rfl in_M (by decide) k_M_62 rfl d_M_found_22 ?_
      refine lv_iload_n hx hb d_M_found_25 rfl (lv_at hl 1 rfl) ?_
      obtain ⟨g1, h⟩ := q_gd_h h
      refine m_iald G V 17 m_w17 g1 d_M_found_26 ?_
      refine lv_i2l (v := (m_I σ 17 ((a1 : Int32).toNatClampNeg) : Int32).toInt64) hx hb d_M_found_27 rfl ?_
      refine lv_lmul hx hb d_M_found_28 ?_
      refine lv_aload_n hx hb d_M_found_29 rfl (lv_at hl 0 rfl) ?_
      refine m_get (v := .ref (b 18)) G V 0 4 30 m_w0 rfl in_M (by decide) k_M_65 rfl d_M_found_30 ?_
      refine lv_iload_n hx hb d_M_found_33 rfl (lv_at hl 1 rfl) ?_
      obtain ⟨g2, h⟩ := q_gd_h h
      refine m_iald G V 18 m_w18 g2 d_M_found_34 ?_
      refine lv_i2l (v := (m_I σ 18 ((a1 : Int32).toNatClampNeg) : Int32).toInt64) hx hb d_M_found_35 rfl ?_
      refine lv_ldc2 (v := 4294967295) hx hb hown (hts _ k_M_179) d_M_found_36 ?_
      refine lv_land hx hb d_M_found_39 ?_
      refine lv_ladd hx hb d_M_found_40 ?_
      exact m_pret_l G hr hlk h rfl V d_M_found_41
    · replace h := q_ifn hc h
      refine lv_ldc2 (v := -1) hx hb hown (hts _ k_M_171) d_M_found_12 ?_
      refine lv_goto (tgt := 41) hx hb d_M_found_15 (by decide) ?_
      exact m_pret_l G hr hlk h rfl V d_M_found_41

set_option maxHeartbeats 40000000 in
set_option maxRecDepth 100000 in
theorem c_M_flush (l : Launch) (D : va_G) (b : Nat → Nat) (cs : Nat → ClassId) (N : Nat) (σ : m_T) (a1 : Int32) (r : Int32) (σ' : m_T) (h : f_M_flush N σ a1 = some (r, σ')) : m_Ci l y_M_flush b_M_flush 2 (some .int) { frames := 1, cells := 0, slots := 0, locals := 23 } D b cs σ [.ref (b 0), .int (a1)] r σ' := by
  refine m_met_i (own := R_M) (by decide) rfl (Nat.le_of_ble_eq_true rfl) ?_
  intro p e s m args below meth c A G hr hlk hml ls hl V
  have hx := G.1
  have hb := G.2.1
  have hown := G.2.2.1
  have hts := G.2.2.2.1
  have hN := G.2.2.2.2.2
  have hl : lv_has ls 2 [(0, .ref (b 0)), (1, .int (a1))] := hl
  unfold f_M_flush at h
  refine lv_aload_n hx hb d_M_flush_0 rfl (lv_at hl 0 rfl) ?_
  refine lv_iload_n hx hb d_M_flush_1 rfl (lv_at hl 1 rfl) ?_
  obtain ⟨r2, h1, h⟩ := q_bind h
  refine m_cV_i (As := [.int (a1)]) (rest := []) G V hml (c_M_isTablet l D b cs N σ a1 r2 h1) 0 4 rfl m_w0 g_M_189 e_M_isTablet ⟨Nat.le_of_ble_eq_true rfl, Nat.le_of_ble_eq_true rfl⟩ ⟨rfl, rfl⟩ ⟨Nat.zero_le _, Nat.zero_le _⟩ rfl hl.1 rfl (Nat.le_of_ble_eq_true rfl) d_M_flush_2 (fun H locs V => ?_)
  refine lv_if_eq (tgt := 16) hx hb d_M_flush_5 (by decide) (fun hc => ?_) (fun hc => ?_)
  · replace h := q_ifp hc h
    refine lv_iconst (v := (-1)) hx hb d_M_flush_16 (by decide) ?_
    exact m_ret_i G hr hlk h V d_M_flush_17
  · replace h := q_ifn hc h
    refine lv_aload_n hx hb d_M_flush_8 rfl (lv_at hl 0 rfl) ?_
    refine lv_iload_n hx hb d_M_flush_9 rfl (lv_at hl 1 rfl) ?_
    obtain ⟨q4, h3, h⟩ := q_bind h
    refine m_cV_i (As := [.int (a1)]) (rest := []) G V hml (c_M_flushed l D b cs N σ a1 q4.1 q4.2 h3) 0 4 rfl m_w0 g_M_158 e_M_flushed ⟨Nat.le_of_ble_eq_true rfl, Nat.le_of_ble_eq_true rfl⟩ ⟨rfl, rfl⟩ ⟨Nat.zero_le _, Nat.zero_le _⟩ rfl hl.1 rfl (Nat.le_of_ble_eq_true rfl) d_M_flush_10 (fun H locs V => ?_)
    refine lv_goto (tgt := 17) hx hb d_M_flush_13 (by decide) ?_
    exact m_ret_i G hr hlk h V d_M_flush_17

set_option maxHeartbeats 40000000 in
set_option maxRecDepth 100000 in
theorem c_M_isIn (l : Launch) (D : va_G) (b : Nat → Nat) (cs : Nat → ClassId) (N : Nat) (σ : m_T) (a1 : Int32) (a2 : Int32) (a3 : Int32) (r : Int32) (h : f_M_isIn N σ a1 a2 a3 = some r) : m_Ci l y_M_isIn b_M_isIn 4 (some .boolean) { frames := 0, cells := 0, slots := 0, locals := 0 } D b cs σ [.ref (b 0), .int (a1), .int (a2), .int (a3)] r σ := by
  refine m_met_i (own := R_M) (by decide) rfl (Nat.le_of_ble_eq_true rfl) ?_
  intro p e s m args below meth c A G hr hlk hml ls hl V
  have hx := G.1
  have hb := G.2.1
  have hown := G.2.2.1
  have hts := G.2.2.2.1
  have hN := G.2.2.2.2.2
  have hl : lv_has ls 4 [(0, .ref (b 0)), (1, .int (a1)), (2, .int (a2)), (3, .int (a3))] := hl
  unfold f_M_isIn at h
  refine lv_aload_n hx hb d_M_isIn_0 rfl (lv_at hl 0 rfl) ?_
  refine m_get (v := .ref (b 7)) G V 0 4 7 m_w0 rfl in_M (by decide) k_M_28 rfl d_M_isIn_1 ?_
  refine lv_iload_n hx hb d_M_isIn_4 rfl (lv_at hl 1 rfl) ?_
  obtain ⟨g1, h⟩ := q_gd_h h
  refine m_iald G V 7 m_w7 g1 d_M_isIn_5 ?_
  refine lv_iload_n hx hb d_M_isIn_6 rfl (lv_at hl 2 rfl) ?_
  refine lv_icmp_ne (tgt := 24) hx hb d_M_isIn_7 (by decide) (fun hc => ?_) (fun hc => ?_)
  · replace h := q_ifn hc h
    refine lv_iconst (v := 0) hx hb d_M_isIn_24 (by decide) ?_
    exact m_zpret_i G hr hlk rfl h rfl V d_M_isIn_25
  · replace h := q_ifp hc h
    refine lv_aload_n hx hb d_M_isIn_10 rfl (lv_at hl 0 rfl) ?_
    refine m_get (v := .ref (b 8)) G V 0 4 8 m_w0 rfl in_M (by decide) k_M_31 rfl d_M_isIn_11 ?_
    refine lv_iload_n hx hb d_M_isIn_14 rfl (lv_at hl 1 rfl) ?_
    obtain ⟨g2, h⟩ := q_gd_h h
    refine m_iald G V 8 m_w8 g2 d_M_isIn_15 ?_
    refine lv_iload_n hx hb d_M_isIn_16 rfl (lv_at hl 3 rfl) ?_
    refine lv_icmp_lt (tgt := 24) hx hb d_M_isIn_17 (by decide) (fun hc => ?_) (fun hc => ?_)
    · replace h := q_ifp hc h
      refine lv_iconst (v := 0) hx hb d_M_isIn_24 (by decide) ?_
      exact m_zpret_i G hr hlk rfl h rfl V d_M_isIn_25
    · replace h := q_ifn hc h
      refine lv_iconst (v := 1) hx hb d_M_isIn_20 (by decide) ?_
      refine lv_goto (tgt := 25) hx hb d_M_isIn_21 (by decide) ?_
      exact m_zpret_i G hr hlk rfl h rfl V d_M_isIn_25

set_option maxHeartbeats 40000000 in
set_option maxRecDepth 100000 in
theorem c_M_merge (l : Launch) (D : va_G) (b : Nat → Nat) (cs : Nat → ClassId) (N : Nat) (σ : m_T) (a1 : Int32) (a2 : Int32) (a3 : Int32) (r : Int32) (σ' : m_T) (h : f_M_merge N σ a1 a2 a3 = some (r, σ')) : m_Ci l y_M_merge b_M_merge 7 (some .int) { frames := 2, cells := 0, slots := 0, locals := 44 } D b cs σ [.ref (b 0), .int (a1), .int (a2), .int (a3)] r σ' := by
  refine m_met_i (own := R_M) (by decide) rfl (Nat.le_of_ble_eq_true rfl) ?_
  intro p e s m args below meth c A G hr hlk hml ls hl V
  have hx := G.1
  have hb := G.2.1
  have hown := G.2.2.1
  have hts := G.2.2.2.1
  have hN := G.2.2.2.2.2
  have hl : lv_has ls 7 [(0, .ref (b 0)), (1, .int (a1)), (2, .int (a2)), (3, .int (a3))] := hl
  unfold f_M_merge at h
  refine lv_iconst (v := 0) hx hb d_M_merge_0 (by decide) ?_
  refine lv_istore (lv' := [(4, .int (0)), (0, .ref (b 0)), (1, .int (a1)), (2, .int (a2)), (3, .int (a3))]) hx hb d_M_merge_1 hl (by decide) rfl (fun ls hl => ?_)
  have lp3 : ∀ (u1 : Int32) (u2 : Int32) (u3 : Int32) (K : m_T → Option (Int32 × m_T)) (_ : ∀ (σ : m_T) (H : Heap) (locs : List Loc) (ls : Array Slot), K σ = some (r, σ') → lv_has ls 7 [(0, .ref (b 0)), (1, .int (u1)), (2, .int (u2))] → m_V D b cs σ A s.heap H locs → W p l e { frames := 2, cells := 0, slots := 0, locals := 44 } s m args below meth c H locs 0 0 (m_Qi below args s D b cs A r σ') (F0 m 151 ls [])) (n : Nat) (v4 : Int32) (σ : m_T) (H : Heap) (locs : List Loc) (ls : Array Slot), f_M_merge_L3 N u1 u2 u3 K n v4 σ = some (r, σ') → lv_has ls 7 [(0, .ref (b 0)), (1, .int (u1)), (2, .int (u2)), (3, .int (u3)), (4, .int (v4))] → m_V D b cs σ A s.heap H locs → W p l e { frames := 2, cells := 0, slots := 0, locals := 44 } s m args below meth c H locs 0 0 (m_Qi below args s D b cs A r σ') (F0 m 3 ls []) := by
    intro u1 u2 u3 K hK n
    induction n with
    | zero => intro v4 σ H locs ls h hl V; cases h
    | succ n ih =>
      intro v4 σ H locs ls h hl V
      rw [f_M_merge_L3] at h
      refine lv_iload hx hb d_M_merge_3 (lv_at hl 4 rfl) ?_
      refine lv_aload_n hx hb d_M_merge_5 rfl (lv_at hl 0 rfl) ?_
      refine m_get (v := .int (m_S σ 0)) G V 0 4 0 m_w0 rfl in_M (by decide) k_M_79 rfl d_M_merge_6 ?_
      refine lv_icmp_ge (tgt := 151) hx hb d_M_merge_9 (by decide) (fun hc => ?_) (fun hc => ?_)
      · replace h := q_ifp hc h
        exact hK _ _ _ ls h (lv_sub hl [0, 1, 2] rfl) V
      · replace h := q_ifn hc h
        refine lv_iload_n hx hb d_M_merge_12 rfl (lv_at hl 3 rfl) ?_
        refine lv_if_eq (tgt := 25) hx hb d_M_merge_13 (by decide) (fun hc => ?_) (fun hc => ?_)
        · replace h := q_ifp hc h
          refine lv_aload_n hx hb d_M_merge_25 rfl (lv_at hl 0 rfl) ?_
          refine m_get (v := .ref (b 1)) G V 0 4 1 m_w0 rfl in_M (by decide) k_M_7 rfl d_M_merge_26 ?_
          refine lv_iload hx hb d_M_merge_29 (lv_at hl 4 rfl) ?_
          obtain ⟨g1, h⟩ := q_gd_h h
          refine m_iald G V 1 m_w1 g1 d_M_merge_31 ?_
          refine lv_if_ne (tgt := 44) hx hb d_M_merge_32 (by decide) (fun hc => ?_) (fun hc => ?_)
          · replace h := q_ifn hc h
            refine lv_iconst (v := 1) hx hb d_M_merge_44 (by decide) ?_
            refine lv_goto (tgt := 49) hx hb d_M_merge_45 (by decide) ?_
            refine lv_istore (lv' := [(5, .int (1)), (0, .ref (b 0)), (1, .int (u1)), (2, .int (u2)), (3, .int (u3)), (4, .int (v4))]) hx hb d_M_merge_49 hl (by decide) rfl (fun ls hl => ?_)
            refine lv_iload hx hb d_M_merge_51 (lv_at hl 5 rfl) ?_
            refine lv_iconst (v := 1) hx hb d_M_merge_53 (by decide) ?_
            refine lv_iadd hx hb d_M_merge_54 ?_
            refine lv_istore (lv' := [(6, .int (v4 + 1)), (5, .int (1)), (0, .ref (b 0)), (1, .int (u1)), (2, .int (u2)), (3, .int (u3)), (4, .int (v4))]) hx hb d_M_merge_55 hl (by decide) rfl (fun ls hl => ?_)
            have lp57 : ∀ (σ : m_T) (u1 : Int32) (u2 : Int32) (u3 : Int32) (u4 : Int32) (K : Int32 → Option (Int32 × m_T)) (_ : ∀ (v5 : Int32) (H : Heap) (locs : List Loc) (ls : Array Slot), K v5 = some (r, σ') → lv_has ls 7 [(0, .ref (b 0)), (1, .int (u1)), (2, .int (u2)), (3, .int (u3)), (4, .int (u4)), (5, .int (v5))] → m_V D b cs σ A s.heap H locs → W p l e { frames := 2, cells := 0, slots := 0, locals := 44 } s m args below meth c H locs 0 0 (m_Qi below args s D b cs A r σ') (F0 m 110 ls [])) (n : Nat) (v5 : Int32) (v6 : Int32) (H : Heap) (locs : List Loc) (ls : Array Slot), f_M_merge_L57 N σ u1 u2 u3 u4 K n v5 v6 = some (r, σ') → lv_has ls 7 [(0, .ref (b 0)), (1, .int (u1)), (2, .int (u2)), (3, .int (u3)), (4, .int (u4)), (5, .int (v5)), (6, .int (v6))] → m_V D b cs σ A s.heap H locs → W p l e { frames := 2, cells := 0, slots := 0, locals := 44 } s m args below meth c H locs 0 0 (m_Qi below args s D b cs A r σ') (F0 m 57 ls []) := by
              intro σ u1 u2 u3 u4 K hK n
              induction n with
              | zero => intro v5 v6 H locs ls h hl V; cases h
              | succ n ih =>
                intro v5 v6 H locs ls h hl V
                rw [f_M_merge_L57] at h
                refine lv_iload hx hb d_M_merge_57 (lv_at hl 6 rfl) ?_
                refine lv_aload_n hx hb d_M_merge_59 rfl (lv_at hl 0 rfl) ?_
                refine m_get (v := .int (m_S σ 0)) G V 0 4 0 m_w0 rfl in_M (by decide) k_M_79 rfl d_M_merge_60 ?_
                refine lv_icmp_ge (tgt := 110) hx hb d_M_merge_63 (by decide) (fun hc => ?_) (fun hc => ?_)
                · replace h := q_ifp hc h
                  exact hK _ _ _ ls h (lv_sub hl [0, 1, 2, 3, 4, 5] rfl) V
                · replace h := q_ifn hc h
                  refine lv_iload_n hx hb d_M_merge_66 rfl (lv_at hl 3 rfl) ?_
                  refine lv_if_ne (tgt := 110) hx hb d_M_merge_67 (by decide) (fun hc => ?_) (fun hc => ?_)
                  · replace h := q_ifn hc h
                    exact hK _ _ _ ls h (lv_sub hl [0, 1, 2, 3, 4, 5] rfl) V
                  · replace h := q_ifp hc h
                    refine lv_iload hx hb d_M_merge_70 (lv_at hl 5 rfl) ?_
                    refine lv_if_eq (tgt := 101) hx hb d_M_merge_72 (by decide) (fun hc => ?_) (fun hc => ?_)
                    · replace h := q_ifp hc h
                      refine lv_iconst (v := 0) hx hb d_M_merge_101 (by decide) ?_
                      refine lv_istore (lv' := [(5, .int (0)), (0, .ref (b 0)), (1, .int (u1)), (2, .int (u2)), (3, .int (u3)), (4, .int (u4)), (6, .int (v6))]) hx hb d_M_merge_102 hl (by decide) rfl (fun ls hl => ?_)
                      refine lv_iinc (k := 6) (v := v6 + 1) (lv' := [(6, .int (v6 + 1)), (5, .int (0)), (0, .ref (b 0)), (1, .int (u1)), (2, .int (u2)), (3, .int (u3)), (4, .int (u4))]) hx hb d_M_merge_104 hl rfl rfl (by decide) rfl (fun ls hl => ?_)
                      refine lv_goto (tgt := 57) hx hb d_M_merge_107 (by decide) ?_
                      exact ih _ _ _ _ ls h (lv_sub hl [2, 3, 4, 5, 6, 1, 0] rfl) V
                    · replace h := q_ifn hc h
                      refine lv_aload_n hx hb d_M_merge_75 rfl (lv_at hl 0 rfl) ?_
                      refine lv_iload hx hb d_M_merge_76 (lv_at hl 6 rfl) ?_
                      refine lv_iload_n hx hb d_M_merge_78 rfl (lv_at hl 1 rfl) ?_
                      refine lv_iload_n hx hb d_M_merge_79 rfl (lv_at hl 2 rfl) ?_
                      obtain ⟨r3, h2, h⟩ := q_bind h
                      refine m_cV_i (As := [.int (v6), .int (u1), .int (u2)]) (rest := []) G V hml (c_M_isIn l D b cs N σ v6 u1 u2 r3 h2) 0 4 rfl m_w0 g_M_192 e_M_isIn ⟨Nat.le_of_ble_eq_true rfl, Nat.le_of_ble_eq_true rfl⟩ ⟨rfl, rfl⟩ ⟨Nat.zero_le _, Nat.zero_le _⟩ rfl hl.1 rfl (Nat.le_of_ble_eq_true rfl) d_M_merge_80 (fun H locs V => ?_)
                      refine lv_if_eq (tgt := 97) hx hb d_M_merge_83 (by decide) (fun hc => ?_) (fun hc => ?_)
                      · replace h := q_ifp hc h
                        refine lv_iconst (v := 1) hx hb d_M_merge_97 (by decide) ?_
                        refine lv_goto (tgt := 102) hx hb d_M_merge_98 (by decide) ?_
                        refine lv_istore (lv' := [(5, .int (1)), (0, .ref (b 0)), (1, .int (u1)), (2, .int (u2)), (3, .int (u3)), (4, .int (u4)), (6, .int (v6))]) hx hb d_M_merge_102 hl (by decide) rfl (fun ls hl => ?_)
                        refine lv_iinc (k := 6) (v := v6 + 1) (lv' := [(6, .int (v6 + 1)), (5, .int (1)), (0, .ref (b 0)), (1, .int (u1)), (2, .int (u2)), (3, .int (u3)), (4, .int (u4))]) hx hb d_M_merge_104 hl rfl rfl (by decide) rfl (fun ls hl => ?_)
                        refine lv_goto (tgt := 57) hx hb d_M_merge_107 (by decide) ?_
                        exact ih _ _ _ _ ls h (lv_sub hl [2, 3, 4, 5, 6, 1, 0] rfl) V
                      · replace h := q_ifn hc h
                        refine lv_aload_n hx hb d_M_merge_86 rfl (lv_at hl 0 rfl) ?_
                        refine lv_iload hx hb d_M_merge_87 (lv_at hl 6 rfl) ?_
                        refine lv_iload hx hb d_M_merge_89 (lv_at hl 4 rfl) ?_
                        obtain ⟨r5, h4, h⟩ := q_bind h
                        refine m_cV_i (As := [.int (v6), .int (u4)]) (rest := []) G V hml (c_M_covers l D b cs N σ v6 u4 r5 h4) 0 4 rfl m_w0 g_M_82 e_M_covers ⟨Nat.le_of_ble_eq_true rfl, Nat.le_of_ble_eq_true rfl⟩ ⟨rfl, rfl⟩ ⟨Nat.zero_le _, Nat.zero_le _⟩ rfl hl.1 rfl (Nat.le_of_ble_eq_true rfl) d_M_merge_91 (fun H locs V => ?_)
                        refine lv_if_ne (tgt := 101) hx hb d_M_merge_94 (by decide) (fun hc => ?_) (fun hc => ?_)
                        · replace h := q_ifn hc h
                          refine lv_iconst (v := 0) hx hb d_M_merge_101 (by decide) ?_
                          refine lv_istore (lv' := [(5, .int (0)), (0, .ref (b 0)), (1, .int (u1)), (2, .int (u2)), (3, .int (u3)), (4, .int (u4)), (6, .int (v6))]) hx hb d_M_merge_102 hl (by decide) rfl (fun ls hl => ?_)
                          refine lv_iinc (k := 6) (v := v6 + 1) (lv' := [(6, .int (v6 + 1)), (5, .int (0)), (0, .ref (b 0)), (1, .int (u1)), (2, .int (u2)), (3, .int (u3)), (4, .int (u4))]) hx hb d_M_merge_104 hl rfl rfl (by decide) rfl (fun ls hl => ?_)
                          refine lv_goto (tgt := 57) hx hb d_M_merge_107 (by decide) ?_
                          exact ih _ _ _ _ ls h (lv_sub hl [2, 3, 4, 5, 6, 1, 0] rfl) V
                        · replace h := q_ifp hc h
                          refine lv_iconst (v := 1) hx hb d_M_merge_97 (by decide) ?_
                          refine lv_goto (tgt := 102) hx hb d_M_merge_98 (by decide) ?_
                          refine lv_istore (lv' := [(5, .int (1)), (0, .ref (b 0)), (1, .int (u1)), (2, .int (u2)), (3, .int (u3)), (4, .int (u4)), (6, .int (v6))]) hx hb d_M_merge_102 hl (by decide) rfl (fun ls hl => ?_)
                          refine lv_iinc (k := 6) (v := v6 + 1) (lv' := [(6, .int (v6 + 1)), (5, .int (1)), (0, .ref (b 0)), (1, .int (u1)), (2, .int (u2)), (3, .int (u3)), (4, .int (u4))]) hx hb d_M_merge_104 hl rfl rfl (by decide) rfl (fun ls hl => ?_)
                          refine lv_goto (tgt := 57) hx hb d_M_merge_107 (by decide) ?_
                          exact ih _ _ _ _ ls h (lv_sub hl [2, 3, 4, 5, 6, 1, 0] rfl) V
            replace hl := lv_sub (l' := [(0, .ref (b 0)), (1, .int (u1)), (2, .int (u2)), (3, .int (u3)), (4, .int (v4)), (5, .int (1)), (6, .int (v4 + 1))]) hl [2, 3, 4, 5, 6, 1, 0] rfl
            refine lp57 _ _ _ _ _ _ ?_ _ _ _ _ _ ls h hl V
            intro v5 H locs ls h hl V
            refine lv_aload_n hx hb d_M_merge_110 rfl (lv_at hl 0 rfl) ?_
            refine m_get (v := .ref (b 6)) G V 0 4 6 m_w0 rfl in_M (by decide) k_M_25 rfl d_M_merge_111 ?_
            refine lv_iload hx hb d_M_merge_114 (lv_at hl 4 rfl) ?_
            refine lv_aload_n hx hb d_M_merge_116 rfl (lv_at hl 0 rfl) ?_
            refine lv_iload hx hb d_M_merge_117 (lv_at hl 4 rfl) ?_
            refine lv_iload_n hx hb d_M_merge_119 rfl (lv_at hl 1 rfl) ?_
            refine lv_iload_n hx hb d_M_merge_120 rfl (lv_at hl 2 rfl) ?_
            obtain ⟨r7, h6, h⟩ := q_bind h
            refine m_cV_i (As := [.int (v4), .int (u1), .int (u2)]) (rest := [.int (v4), .ref (b 6)]) G V hml (c_M_isIn l D b cs N σ v4 u1 u2 r7 h6) 0 4 rfl m_w0 g_M_192 e_M_isIn ⟨Nat.le_of_ble_eq_true rfl, Nat.le_of_ble_eq_true rfl⟩ ⟨rfl, rfl⟩ ⟨Nat.zero_le _, Nat.zero_le _⟩ rfl hl.1 rfl (Nat.le_of_ble_eq_true rfl) d_M_merge_121 (fun H locs V => ?_)
            refine lv_if_eq (tgt := 137) hx hb d_M_merge_124 (by decide) (fun hc => ?_) (fun hc => ?_)
            · replace h := q_ifp hc h
              refine lv_aload_n hx hb d_M_merge_137 rfl (lv_at hl 0 rfl) ?_
              refine m_get (v := .ref (b 6)) G V 0 4 6 m_w0 rfl in_M (by decide) k_M_25 rfl d_M_merge_138 ?_
              refine lv_iload hx hb d_M_merge_141 (lv_at hl 4 rfl) ?_
              obtain ⟨g8, h⟩ := q_gd_h h
              refine m_iald G V 6 m_w6 g8 d_M_merge_143 ?_
              obtain ⟨g9, h⟩ := q_gd_h h
              obtain ⟨s10, e10, h⟩ := q_let_h h
              refine m_iast (σ' := s10) G V 6 m_w6 (m_u6.trans (congrArg (m_W b cs) e10.symm)) g9 d_M_merge_144 (fun H locs V => ?_)
              refine lv_iinc (k := 4) (v := v4 + 1) (lv' := [(4, .int (v4 + 1)), (0, .ref (b 0)), (1, .int (u1)), (2, .int (u2)), (3, .int (u3)), (5, .int (v5))]) hx hb d_M_merge_145 hl rfl rfl (by decide) rfl (fun ls hl => ?_)
              refine lv_goto (tgt := 3) hx hb d_M_merge_148 (by decide) ?_
              exact ih _ _ _ _ ls h (lv_sub hl [1, 2, 3, 4, 0] rfl) V
            · replace h := q_ifn hc h
              refine lv_iload hx hb d_M_merge_127 (lv_at hl 5 rfl) ?_
              refine lv_if_ne (tgt := 137) hx hb d_M_merge_129 (by decide) (fun hc => ?_) (fun hc => ?_)
              · replace h := q_ifn hc h
                refine lv_aload_n hx hb d_M_merge_137 rfl (lv_at hl 0 rfl) ?_
                refine m_get (v := .ref (b 6)) G V 0 4 6 m_w0 rfl in_M (by decide) k_M_25 rfl d_M_merge_138 ?_
                refine lv_iload hx hb d_M_merge_141 (lv_at hl 4 rfl) ?_
                obtain ⟨g11, h⟩ := q_gd_h h
                refine m_iald G V 6 m_w6 g11 d_M_merge_143 ?_
                obtain ⟨g12, h⟩ := q_gd_h h
                obtain ⟨s13, e13, h⟩ := q_let_h h
                refine m_iast (σ' := s13) G V 6 m_w6 (m_u6.trans (congrArg (m_W b cs) e13.symm)) g12 d_M_merge_144 (fun H locs V => ?_)
                refine lv_iinc (k := 4) (v := v4 + 1) (lv' := [(4, .int (v4 + 1)), (0, .ref (b 0)), (1, .int (u1)), (2, .int (u2)), (3, .int (u3)), (5, .int (v5))]) hx hb d_M_merge_145 hl rfl rfl (by decide) rfl (fun ls hl => ?_)
                refine lv_goto (tgt := 3) hx hb d_M_merge_148 (by decide) ?_
                exact ih _ _ _ _ ls h (lv_sub hl [1, 2, 3, 4, 0] rfl) V
              · replace h := q_ifp hc h
                refine lv_bipush (v := (-2)) hx hb d_M_merge_132 (by decide) ?_
                refine lv_goto (tgt := 144) hx hb d_M_merge_134 (by decide) ?_
                obtain ⟨g14, h⟩ := q_gd_h h
                obtain ⟨s15, e15, h⟩ := q_let_h h
                refine m_iast (σ' := s15) G V 6 m_w6 (m_u6.trans (congrArg (m_W b cs) e15.symm)) g14 d_M_merge_144 (fun H locs V => ?_)
                refine lv_iinc (k := 4) (v := v4 + 1) (lv' := [(4, .int (v4 + 1)), (0, .ref (b 0)), (1, .int (u1)), (2, .int (u2)), (3, .int (u3)), (5, .int (v5))]) hx hb d_M_merge_145 hl rfl rfl (by decide) rfl (fun ls hl => ?_)
                refine lv_goto (tgt := 3) hx hb d_M_merge_148 (by decide) ?_
                exact ih _ _ _ _ ls h (lv_sub hl [1, 2, 3, 4, 0] rfl) V
          · replace h := q_ifp hc h
            refine lv_aload_n hx hb d_M_merge_35 rfl (lv_at hl 0 rfl) ?_
            refine lv_iload hx hb d_M_merge_36 (lv_at hl 4 rfl) ?_
            obtain ⟨r17, h16, h⟩ := q_bind h
            refine m_cV_i (As := [.int (v4)]) (rest := []) G V hml (c_M_isOld l D b cs N σ v4 r17 h16) 0 4 rfl m_w0 g_M_75 e_M_isOld ⟨Nat.le_of_ble_eq_true rfl, Nat.le_of_ble_eq_true rfl⟩ ⟨rfl, rfl⟩ ⟨Nat.zero_le _, Nat.zero_le _⟩ rfl hl.1 rfl (Nat.le_of_ble_eq_true rfl) d_M_merge_38 (fun H locs V => ?_)
            refine lv_if_ne (tgt := 48) hx hb d_M_merge_41 (by decide) (fun hc => ?_) (fun hc => ?_)
            · replace h := q_ifn hc h
              refine lv_iconst (v := 0) hx hb d_M_merge_48 (by decide) ?_
              refine lv_istore (lv' := [(5, .int (0)), (0, .ref (b 0)), (1, .int (u1)), (2, .int (u2)), (3, .int (u3)), (4, .int (v4))]) hx hb d_M_merge_49 hl (by decide) rfl (fun ls hl => ?_)
              refine lv_iload hx hb d_M_merge_51 (lv_at hl 5 rfl) ?_
              refine lv_iconst (v := 1) hx hb d_M_merge_53 (by decide) ?_
              refine lv_iadd hx hb d_M_merge_54 ?_
              refine lv_istore (lv' := [(6, .int (v4 + 1)), (5, .int (0)), (0, .ref (b 0)), (1, .int (u1)), (2, .int (u2)), (3, .int (u3)), (4, .int (v4))]) hx hb d_M_merge_55 hl (by decide) rfl (fun ls hl => ?_)
              have lp57 : ∀ (σ : m_T) (u1 : Int32) (u2 : Int32) (u3 : Int32) (u4 : Int32) (K : Int32 → Option (Int32 × m_T)) (_ : ∀ (v5 : Int32) (H : Heap) (locs : List Loc) (ls : Array Slot), K v5 = some (r, σ') → lv_has ls 7 [(0, .ref (b 0)), (1, .int (u1)), (2, .int (u2)), (3, .int (u3)), (4, .int (u4)), (5, .int (v5))] → m_V D b cs σ A s.heap H locs → W p l e { frames := 2, cells := 0, slots := 0, locals := 44 } s m args below meth c H locs 0 0 (m_Qi below args s D b cs A r σ') (F0 m 110 ls [])) (n : Nat) (v5 : Int32) (v6 : Int32) (H : Heap) (locs : List Loc) (ls : Array Slot), f_M_merge_L57 N σ u1 u2 u3 u4 K n v5 v6 = some (r, σ') → lv_has ls 7 [(0, .ref (b 0)), (1, .int (u1)), (2, .int (u2)), (3, .int (u3)), (4, .int (u4)), (5, .int (v5)), (6, .int (v6))] → m_V D b cs σ A s.heap H locs → W p l e { frames := 2, cells := 0, slots := 0, locals := 44 } s m args below meth c H locs 0 0 (m_Qi below args s D b cs A r σ') (F0 m 57 ls []) := by
                intro σ u1 u2 u3 u4 K hK n
                induction n with
                | zero => intro v5 v6 H locs ls h hl V; cases h
                | succ n ih =>
                  intro v5 v6 H locs ls h hl V
                  rw [f_M_merge_L57] at h
                  refine lv_iload hx hb d_M_merge_57 (lv_at hl 6 rfl) ?_
                  refine lv_aload_n hx hb d_M_merge_59 rfl (lv_at hl 0 rfl) ?_
                  refine m_get (v := .int (m_S σ 0)) G V 0 4 0 m_w0 rfl in_M (by decide) k_M_79 rfl d_M_merge_60 ?_
                  refine lv_icmp_ge (tgt := 110) hx hb d_M_merge_63 (by decide) (fun hc => ?_) (fun hc => ?_)
                  · replace h := q_ifp hc h
                    exact hK _ _ _ ls h (lv_sub hl [0, 1, 2, 3, 4, 5] rfl) V
                  · replace h := q_ifn hc h
                    refine lv_iload_n hx hb d_M_merge_66 rfl (lv_at hl 3 rfl) ?_
                    refine lv_if_ne (tgt := 110) hx hb d_M_merge_67 (by decide) (fun hc => ?_) (fun hc => ?_)
                    · replace h := q_ifn hc h
                      exact hK _ _ _ ls h (lv_sub hl [0, 1, 2, 3, 4, 5] rfl) V
                    · replace h := q_ifp hc h
                      refine lv_iload hx hb d_M_merge_70 (lv_at hl 5 rfl) ?_
                      refine lv_if_eq (tgt := 101) hx hb d_M_merge_72 (by decide) (fun hc => ?_) (fun hc => ?_)
                      · replace h := q_ifp hc h
                        refine lv_iconst (v := 0) hx hb d_M_merge_101 (by decide) ?_
                        refine lv_istore (lv' := [(5, .int (0)), (0, .ref (b 0)), (1, .int (u1)), (2, .int (u2)), (3, .int (u3)), (4, .int (u4)), (6, .int (v6))]) hx hb d_M_merge_102 hl (by decide) rfl (fun ls hl => ?_)
                        refine lv_iinc (k := 6) (v := v6 + 1) (lv' := [(6, .int (v6 + 1)), (5, .int (0)), (0, .ref (b 0)), (1, .int (u1)), (2, .int (u2)), (3, .int (u3)), (4, .int (u4))]) hx hb d_M_merge_104 hl rfl rfl (by decide) rfl (fun ls hl => ?_)
                        refine lv_goto (tgt := 57) hx hb d_M_merge_107 (by decide) ?_
                        exact ih _ _ _ _ ls h (lv_sub hl [2, 3, 4, 5, 6, 1, 0] rfl) V
                      · replace h := q_ifn hc h
                        refine lv_aload_n hx hb d_M_merge_75 rfl (lv_at hl 0 rfl) ?_
                        refine lv_iload hx hb d_M_merge_76 (lv_at hl 6 rfl) ?_
                        refine lv_iload_n hx hb d_M_merge_78 rfl (lv_at hl 1 rfl) ?_
                        refine lv_iload_n hx hb d_M_merge_79 rfl (lv_at hl 2 rfl) ?_
                        obtain ⟨r19, h18, h⟩ := q_bind h
                        refine m_cV_i (As := [.int (v6), .int (u1), .int (u2)]) (rest := []) G V hml (c_M_isIn l D b cs N σ v6 u1 u2 r19 h18) 0 4 rfl m_w0 g_M_192 e_M_isIn ⟨Nat.le_of_ble_eq_true rfl, Nat.le_of_ble_eq_true rfl⟩ ⟨rfl, rfl⟩ ⟨Nat.zero_le _, Nat.zero_le _⟩ rfl hl.1 rfl (Nat.le_of_ble_eq_true rfl) d_M_merge_80 (fun H locs V => ?_)
                        refine lv_if_eq (tgt := 97) hx hb d_M_merge_83 (by decide) (fun hc => ?_) (fun hc => ?_)
                        · replace h := q_ifp hc h
                          refine lv_iconst (v := 1) hx hb d_M_merge_97 (by decide) ?_
                          refine lv_goto (tgt := 102) hx hb d_M_merge_98 (by decide) ?_
                          refine lv_istore (lv' := [(5, .int (1)), (0, .ref (b 0)), (1, .int (u1)), (2, .int (u2)), (3, .int (u3)), (4, .int (u4)), (6, .int (v6))]) hx hb d_M_merge_102 hl (by decide) rfl (fun ls hl => ?_)
                          refine lv_iinc (k := 6) (v := v6 + 1) (lv' := [(6, .int (v6 + 1)), (5, .int (1)), (0, .ref (b 0)), (1, .int (u1)), (2, .int (u2)), (3, .int (u3)), (4, .int (u4))]) hx hb d_M_merge_104 hl rfl rfl (by decide) rfl (fun ls hl => ?_)
                          refine lv_goto (tgt := 57) hx hb d_M_merge_107 (by decide) ?_
                          exact ih _ _ _ _ ls h (lv_sub hl [2, 3, 4, 5, 6, 1, 0] rfl) V
                        · replace h := q_ifn hc h
                          refine lv_aload_n hx hb d_M_merge_86 rfl (lv_at hl 0 rfl) ?_
                          refine lv_iload hx hb d_M_merge_87 (lv_at hl 6 rfl) ?_
                          refine lv_iload hx hb d_M_merge_89 (lv_at hl 4 rfl) ?_
                          obtain ⟨r21, h20, h⟩ := q_bind h
                          refine m_cV_i (As := [.int (v6), .int (u4)]) (rest := []) G V hml (c_M_covers l D b cs N σ v6 u4 r21 h20) 0 4 rfl m_w0 g_M_82 e_M_covers ⟨Nat.le_of_ble_eq_true rfl, Nat.le_of_ble_eq_true rfl⟩ ⟨rfl, rfl⟩ ⟨Nat.zero_le _, Nat.zero_le _⟩ rfl hl.1 rfl (Nat.le_of_ble_eq_true rfl) d_M_merge_91 (fun H locs V => ?_)
                          refine lv_if_ne (tgt := 101) hx hb d_M_merge_94 (by decide) (fun hc => ?_) (fun hc => ?_)
                          · replace h := q_ifn hc h
                            refine lv_iconst (v := 0) hx hb d_M_merge_101 (by decide) ?_
                            refine lv_istore (lv' := [(5, .int (0)), (0, .ref (b 0)), (1, .int (u1)), (2, .int (u2)), (3, .int (u3)), (4, .int (u4)), (6, .int (v6))]) hx hb d_M_merge_102 hl (by decide) rfl (fun ls hl => ?_)
                            refine lv_iinc (k := 6) (v := v6 + 1) (lv' := [(6, .int (v6 + 1)), (5, .int (0)), (0, .ref (b 0)), (1, .int (u1)), (2, .int (u2)), (3, .int (u3)), (4, .int (u4))]) hx hb d_M_merge_104 hl rfl rfl (by decide) rfl (fun ls hl => ?_)
                            refine lv_goto (tgt := 57) hx hb d_M_merge_107 (by decide) ?_
                            exact ih _ _ _ _ ls h (lv_sub hl [2, 3, 4, 5, 6, 1, 0] rfl) V
                          · replace h := q_ifp hc h
                            refine lv_iconst (v := 1) hx hb d_M_merge_97 (by decide) ?_
                            refine lv_goto (tgt := 102) hx hb d_M_merge_98 (by decide) ?_
                            refine lv_istore (lv' := [(5, .int (1)), (0, .ref (b 0)), (1, .int (u1)), (2, .int (u2)), (3, .int (u3)), (4, .int (u4)), (6, .int (v6))]) hx hb d_M_merge_102 hl (by decide) rfl (fun ls hl => ?_)
                            refine lv_iinc (k := 6) (v := v6 + 1) (lv' := [(6, .int (v6 + 1)), (5, .int (1)), (0, .ref (b 0)), (1, .int (u1)), (2, .int (u2)), (3, .int (u3)), (4, .int (u4))]) hx hb d_M_merge_104 hl rfl rfl (by decide) rfl (fun ls hl => ?_)
                            refine lv_goto (tgt := 57) hx hb d_M_merge_107 (by decide) ?_
                            exact ih _ _ _ _ ls h (lv_sub hl [2, 3, 4, 5, 6, 1, 0] rfl) V
              replace hl := lv_sub (l' := [(0, .ref (b 0)), (1, .int (u1)), (2, .int (u2)), (3, .int (u3)), (4, .int (v4)), (5, .int (0)), (6, .int (v4 + 1))]) hl [2, 3, 4, 5, 6, 1, 0] rfl
              refine lp57 _ _ _ _ _ _ ?_ _ _ _ _ _ ls h hl V
              intro v5 H locs ls h hl V
              refine lv_aload_n hx hb d_M_merge_110 rfl (lv_at hl 0 rfl) ?_
              refine m_get (v := .ref (b 6)) G V 0 4 6 m_w0 rfl in_M (by decide) k_M_25 rfl d_M_merge_111 ?_
              refine lv_iload hx hb d_M_merge_114 (lv_at hl 4 rfl) ?_
              refine lv_aload_n hx hb d_M_merge_116 rfl (lv_at hl 0 rfl) ?_
              refine lv_iload hx hb d_M_merge_117 (lv_at hl 4 rfl) ?_
              refine lv_iload_n hx hb d_M_merge_119 rfl (lv_at hl 1 rfl) ?_
              refine lv_iload_n hx hb d_M_merge_120 rfl (lv_at hl 2 rfl) ?_
              obtain ⟨r23, h22, h⟩ := q_bind h
              refine m_cV_i (As := [.int (v4), .int (u1), .int (u2)]) (rest := [.int (v4), .ref (b 6)]) G V hml (c_M_isIn l D b cs N σ v4 u1 u2 r23 h22) 0 4 rfl m_w0 g_M_192 e_M_isIn ⟨Nat.le_of_ble_eq_true rfl, Nat.le_of_ble_eq_true rfl⟩ ⟨rfl, rfl⟩ ⟨Nat.zero_le _, Nat.zero_le _⟩ rfl hl.1 rfl (Nat.le_of_ble_eq_true rfl) d_M_merge_121 (fun H locs V => ?_)
              refine lv_if_eq (tgt := 137) hx hb d_M_merge_124 (by decide) (fun hc => ?_) (fun hc => ?_)
              · replace h := q_ifp hc h
                refine lv_aload_n hx hb d_M_merge_137 rfl (lv_at hl 0 rfl) ?_
                refine m_get (v := .ref (b 6)) G V 0 4 6 m_w0 rfl in_M (by decide) k_M_25 rfl d_M_merge_138 ?_
                refine lv_iload hx hb d_M_merge_141 (lv_at hl 4 rfl) ?_
                obtain ⟨g24, h⟩ := q_gd_h h
                refine m_iald G V 6 m_w6 g24 d_M_merge_143 ?_
                obtain ⟨g25, h⟩ := q_gd_h h
                obtain ⟨s26, e26, h⟩ := q_let_h h
                refine m_iast (σ' := s26) G V 6 m_w6 (m_u6.trans (congrArg (m_W b cs) e26.symm)) g25 d_M_merge_144 (fun H locs V => ?_)
                refine lv_iinc (k := 4) (v := v4 + 1) (lv' := [(4, .int (v4 + 1)), (0, .ref (b 0)), (1, .int (u1)), (2, .int (u2)), (3, .int (u3)), (5, .int (v5))]) hx hb d_M_merge_145 hl rfl rfl (by decide) rfl (fun ls hl => ?_)
                refine lv_goto (tgt := 3) hx hb d_M_merge_148 (by decide) ?_
                exact ih _ _ _ _ ls h (lv_sub hl [1, 2, 3, 4, 0] rfl) V
              · replace h := q_ifn hc h
                refine lv_iload hx hb d_M_merge_127 (lv_at hl 5 rfl) ?_
                refine lv_if_ne (tgt := 137) hx hb d_M_merge_129 (by decide) (fun hc => ?_) (fun hc => ?_)
                · replace h := q_ifn hc h
                  refine lv_aload_n hx hb d_M_merge_137 rfl (lv_at hl 0 rfl) ?_
                  refine m_get (v := .ref (b 6)) G V 0 4 6 m_w0 rfl in_M (by decide) k_M_25 rfl d_M_merge_138 ?_
                  refine lv_iload hx hb d_M_merge_141 (lv_at hl 4 rfl) ?_
                  obtain ⟨g27, h⟩ := q_gd_h h
                  refine m_iald G V 6 m_w6 g27 d_M_merge_143 ?_
                  obtain ⟨g28, h⟩ := q_gd_h h
                  obtain ⟨s29, e29, h⟩ := q_let_h h
                  refine m_iast (σ' := s29) G V 6 m_w6 (m_u6.trans (congrArg (m_W b cs) e29.symm)) g28 d_M_merge_144 (fun H locs V => ?_)
                  refine lv_iinc (k := 4) (v := v4 + 1) (lv' := [(4, .int (v4 + 1)), (0, .ref (b 0)), (1, .int (u1)), (2, .int (u2)), (3, .int (u3)), (5, .int (v5))]) hx hb d_M_merge_145 hl rfl rfl (by decide) rfl (fun ls hl => ?_)
                  refine lv_goto (tgt := 3) hx hb d_M_merge_148 (by decide) ?_
                  exact ih _ _ _ _ ls h (lv_sub hl [1, 2, 3, 4, 0] rfl) V
                · replace h := q_ifp hc h
                  refine lv_bipush (v := (-2)) hx hb d_M_merge_132 (by decide) ?_
                  refine lv_goto (tgt := 144) hx hb d_M_merge_134 (by decide) ?_
                  obtain ⟨g30, h⟩ := q_gd_h h
                  obtain ⟨s31, e31, h⟩ := q_let_h h
                  refine m_iast (σ' := s31) G V 6 m_w6 (m_u6.trans (congrArg (m_W b cs) e31.symm)) g30 d_M_merge_144 (fun H locs V => ?_)
                  refine lv_iinc (k := 4) (v := v4 + 1) (lv' := [(4, .int (v4 + 1)), (0, .ref (b 0)), (1, .int (u1)), (2, .int (u2)), (3, .int (u3)), (5, .int (v5))]) hx hb d_M_merge_145 hl rfl rfl (by decide) rfl (fun ls hl => ?_)
                  refine lv_goto (tgt := 3) hx hb d_M_merge_148 (by decide) ?_
                  exact ih _ _ _ _ ls h (lv_sub hl [1, 2, 3, 4, 0] rfl) V
            · replace h := q_ifp hc h
              refine lv_iconst (v := 1) hx hb d_M_merge_44 (by decide) ?_
              refine lv_goto (tgt := 49) hx hb d_M_merge_45 (by decide) ?_
              refine lv_istore (lv' := [(5, .int (1)), (0, .ref (b 0)), (1, .int (u1)), (2, .int (u2)), (3, .int (u3)), (4, .int (v4))]) hx hb d_M_merge_49 hl (by decide) rfl (fun ls hl => ?_)
              refine lv_iload hx hb d_M_merge_51 (lv_at hl 5 rfl) ?_
              refine lv_iconst (v := 1) hx hb d_M_merge_53 (by decide) ?_
              refine lv_iadd hx hb d_M_merge_54 ?_
              refine lv_istore (lv' := [(6, .int (v4 + 1)), (5, .int (1)), (0, .ref (b 0)), (1, .int (u1)), (2, .int (u2)), (3, .int (u3)), (4, .int (v4))]) hx hb d_M_merge_55 hl (by decide) rfl (fun ls hl => ?_)
              have lp57 : ∀ (σ : m_T) (u1 : Int32) (u2 : Int32) (u3 : Int32) (u4 : Int32) (K : Int32 → Option (Int32 × m_T)) (_ : ∀ (v5 : Int32) (H : Heap) (locs : List Loc) (ls : Array Slot), K v5 = some (r, σ') → lv_has ls 7 [(0, .ref (b 0)), (1, .int (u1)), (2, .int (u2)), (3, .int (u3)), (4, .int (u4)), (5, .int (v5))] → m_V D b cs σ A s.heap H locs → W p l e { frames := 2, cells := 0, slots := 0, locals := 44 } s m args below meth c H locs 0 0 (m_Qi below args s D b cs A r σ') (F0 m 110 ls [])) (n : Nat) (v5 : Int32) (v6 : Int32) (H : Heap) (locs : List Loc) (ls : Array Slot), f_M_merge_L57 N σ u1 u2 u3 u4 K n v5 v6 = some (r, σ') → lv_has ls 7 [(0, .ref (b 0)), (1, .int (u1)), (2, .int (u2)), (3, .int (u3)), (4, .int (u4)), (5, .int (v5)), (6, .int (v6))] → m_V D b cs σ A s.heap H locs → W p l e { frames := 2, cells := 0, slots := 0, locals := 44 } s m args below meth c H locs 0 0 (m_Qi below args s D b cs A r σ') (F0 m 57 ls []) := by
                intro σ u1 u2 u3 u4 K hK n
                induction n with
                | zero => intro v5 v6 H locs ls h hl V; cases h
                | succ n ih =>
                  intro v5 v6 H locs ls h hl V
                  rw [f_M_merge_L57] at h
                  refine lv_iload hx hb d_M_merge_57 (lv_at hl 6 rfl) ?_
                  refine lv_aload_n hx hb d_M_merge_59 rfl (lv_at hl 0 rfl) ?_
                  refine m_get (v := .int (m_S σ 0)) G V 0 4 0 m_w0 rfl in_M (by decide) k_M_79 rfl d_M_merge_60 ?_
                  refine lv_icmp_ge (tgt := 110) hx hb d_M_merge_63 (by decide) (fun hc => ?_) (fun hc => ?_)
                  · replace h := q_ifp hc h
                    exact hK _ _ _ ls h (lv_sub hl [0, 1, 2, 3, 4, 5] rfl) V
                  · replace h := q_ifn hc h
                    refine lv_iload_n hx hb d_M_merge_66 rfl (lv_at hl 3 rfl) ?_
                    refine lv_if_ne (tgt := 110) hx hb d_M_merge_67 (by decide) (fun hc => ?_) (fun hc => ?_)
                    · replace h := q_ifn hc h
                      exact hK _ _ _ ls h (lv_sub hl [0, 1, 2, 3, 4, 5] rfl) V
                    · replace h := q_ifp hc h
                      refine lv_iload hx hb d_M_merge_70 (lv_at hl 5 rfl) ?_
                      refine lv_if_eq (tgt := 101) hx hb d_M_merge_72 (by decide) (fun hc => ?_) (fun hc => ?_)
                      · replace h := q_ifp hc h
                        refine lv_iconst (v := 0) hx hb d_M_merge_101 (by decide) ?_
                        refine lv_istore (lv' := [(5, .int (0)), (0, .ref (b 0)), (1, .int (u1)), (2, .int (u2)), (3, .int (u3)), (4, .int (u4)), (6, .int (v6))]) hx hb d_M_merge_102 hl (by decide) rfl (fun ls hl => ?_)
                        refine lv_iinc (k := 6) (v := v6 + 1) (lv' := [(6, .int (v6 + 1)), (5, .int (0)), (0, .ref (b 0)), (1, .int (u1)), (2, .int (u2)), (3, .int (u3)), (4, .int (u4))]) hx hb d_M_merge_104 hl rfl rfl (by decide) rfl (fun ls hl => ?_)
                        refine lv_goto (tgt := 57) hx hb d_M_merge_107 (by decide) ?_
                        exact ih _ _ _ _ ls h (lv_sub hl [2, 3, 4, 5, 6, 1, 0] rfl) V
                      · replace h := q_ifn hc h
                        refine lv_aload_n hx hb d_M_merge_75 rfl (lv_at hl 0 rfl) ?_
                        refine lv_iload hx hb d_M_merge_76 (lv_at hl 6 rfl) ?_
                        refine lv_iload_n hx hb d_M_merge_78 rfl (lv_at hl 1 rfl) ?_
                        refine lv_iload_n hx hb d_M_merge_79 rfl (lv_at hl 2 rfl) ?_
                        obtain ⟨r33, h32, h⟩ := q_bind h
                        refine m_cV_i (As := [.int (v6), .int (u1), .int (u2)]) (rest := []) G V hml (c_M_isIn l D b cs N σ v6 u1 u2 r33 h32) 0 4 rfl m_w0 g_M_192 e_M_isIn ⟨Nat.le_of_ble_eq_true rfl, Nat.le_of_ble_eq_true rfl⟩ ⟨rfl, rfl⟩ ⟨Nat.zero_le _, Nat.zero_le _⟩ rfl hl.1 rfl (Nat.le_of_ble_eq_true rfl) d_M_merge_80 (fun H locs V => ?_)
                        refine lv_if_eq (tgt := 97) hx hb d_M_merge_83 (by decide) (fun hc => ?_) (fun hc => ?_)
                        · replace h := q_ifp hc h
                          refine lv_iconst (v := 1) hx hb d_M_merge_97 (by decide) ?_
                          refine lv_goto (tgt := 102) hx hb d_M_merge_98 (by decide) ?_
                          refine lv_istore (lv' := [(5, .int (1)), (0, .ref (b 0)), (1, .int (u1)), (2, .int (u2)), (3, .int (u3)), (4, .int (u4)), (6, .int (v6))]) hx hb d_M_merge_102 hl (by decide) rfl (fun ls hl => ?_)
                          refine lv_iinc (k := 6) (v := v6 + 1) (lv' := [(6, .int (v6 + 1)), (5, .int (1)), (0, .ref (b 0)), (1, .int (u1)), (2, .int (u2)), (3, .int (u3)), (4, .int (u4))]) hx hb d_M_merge_104 hl rfl rfl (by decide) rfl (fun ls hl => ?_)
                          refine lv_goto (tgt := 57) hx hb d_M_merge_107 (by decide) ?_
                          exact ih _ _ _ _ ls h (lv_sub hl [2, 3, 4, 5, 6, 1, 0] rfl) V
                        · replace h := q_ifn hc h
                          refine lv_aload_n hx hb d_M_merge_86 rfl (lv_at hl 0 rfl) ?_
                          refine lv_iload hx hb d_M_merge_87 (lv_at hl 6 rfl) ?_
                          refine lv_iload hx hb d_M_merge_89 (lv_at hl 4 rfl) ?_
                          obtain ⟨r35, h34, h⟩ := q_bind h
                          refine m_cV_i (As := [.int (v6), .int (u4)]) (rest := []) G V hml (c_M_covers l D b cs N σ v6 u4 r35 h34) 0 4 rfl m_w0 g_M_82 e_M_covers ⟨Nat.le_of_ble_eq_true rfl, Nat.le_of_ble_eq_true rfl⟩ ⟨rfl, rfl⟩ ⟨Nat.zero_le _, Nat.zero_le _⟩ rfl hl.1 rfl (Nat.le_of_ble_eq_true rfl) d_M_merge_91 (fun H locs V => ?_)
                          refine lv_if_ne (tgt := 101) hx hb d_M_merge_94 (by decide) (fun hc => ?_) (fun hc => ?_)
                          · replace h := q_ifn hc h
                            refine lv_iconst (v := 0) hx hb d_M_merge_101 (by decide) ?_
                            refine lv_istore (lv' := [(5, .int (0)), (0, .ref (b 0)), (1, .int (u1)), (2, .int (u2)), (3, .int (u3)), (4, .int (u4)), (6, .int (v6))]) hx hb d_M_merge_102 hl (by decide) rfl (fun ls hl => ?_)
                            refine lv_iinc (k := 6) (v := v6 + 1) (lv' := [(6, .int (v6 + 1)), (5, .int (0)), (0, .ref (b 0)), (1, .int (u1)), (2, .int (u2)), (3, .int (u3)), (4, .int (u4))]) hx hb d_M_merge_104 hl rfl rfl (by decide) rfl (fun ls hl => ?_)
                            refine lv_goto (tgt := 57) hx hb d_M_merge_107 (by decide) ?_
                            exact ih _ _ _ _ ls h (lv_sub hl [2, 3, 4, 5, 6, 1, 0] rfl) V
                          · replace h := q_ifp hc h
                            refine lv_iconst (v := 1) hx hb d_M_merge_97 (by decide) ?_
                            refine lv_goto (tgt := 102) hx hb d_M_merge_98 (by decide) ?_
                            refine lv_istore (lv' := [(5, .int (1)), (0, .ref (b 0)), (1, .int (u1)), (2, .int (u2)), (3, .int (u3)), (4, .int (u4)), (6, .int (v6))]) hx hb d_M_merge_102 hl (by decide) rfl (fun ls hl => ?_)
                            refine lv_iinc (k := 6) (v := v6 + 1) (lv' := [(6, .int (v6 + 1)), (5, .int (1)), (0, .ref (b 0)), (1, .int (u1)), (2, .int (u2)), (3, .int (u3)), (4, .int (u4))]) hx hb d_M_merge_104 hl rfl rfl (by decide) rfl (fun ls hl => ?_)
                            refine lv_goto (tgt := 57) hx hb d_M_merge_107 (by decide) ?_
                            exact ih _ _ _ _ ls h (lv_sub hl [2, 3, 4, 5, 6, 1, 0] rfl) V
              replace hl := lv_sub (l' := [(0, .ref (b 0)), (1, .int (u1)), (2, .int (u2)), (3, .int (u3)), (4, .int (v4)), (5, .int (1)), (6, .int (v4 + 1))]) hl [2, 3, 4, 5, 6, 1, 0] rfl
              refine lp57 _ _ _ _ _ _ ?_ _ _ _ _ _ ls h hl V
              intro v5 H locs ls h hl V
              refine lv_aload_n hx hb d_M_merge_110 rfl (lv_at hl 0 rfl) ?_
              refine m_get (v := .ref (b 6)) G V 0 4 6 m_w0 rfl in_M (by decide) k_M_25 rfl d_M_merge_111 ?_
              refine lv_iload hx hb d_M_merge_114 (lv_at hl 4 rfl) ?_
              refine lv_aload_n hx hb d_M_merge_116 rfl (lv_at hl 0 rfl) ?_
              refine lv_iload hx hb d_M_merge_117 (lv_at hl 4 rfl) ?_
              refine lv_iload_n hx hb d_M_merge_119 rfl (lv_at hl 1 rfl) ?_
              refine lv_iload_n hx hb d_M_merge_120 rfl (lv_at hl 2 rfl) ?_
              obtain ⟨r37, h36, h⟩ := q_bind h
              refine m_cV_i (As := [.int (v4), .int (u1), .int (u2)]) (rest := [.int (v4), .ref (b 6)]) G V hml (c_M_isIn l D b cs N σ v4 u1 u2 r37 h36) 0 4 rfl m_w0 g_M_192 e_M_isIn ⟨Nat.le_of_ble_eq_true rfl, Nat.le_of_ble_eq_true rfl⟩ ⟨rfl, rfl⟩ ⟨Nat.zero_le _, Nat.zero_le _⟩ rfl hl.1 rfl (Nat.le_of_ble_eq_true rfl) d_M_merge_121 (fun H locs V => ?_)
              refine lv_if_eq (tgt := 137) hx hb d_M_merge_124 (by decide) (fun hc => ?_) (fun hc => ?_)
              · replace h := q_ifp hc h
                refine lv_aload_n hx hb d_M_merge_137 rfl (lv_at hl 0 rfl) ?_
                refine m_get (v := .ref (b 6)) G V 0 4 6 m_w0 rfl in_M (by decide) k_M_25 rfl d_M_merge_138 ?_
                refine lv_iload hx hb d_M_merge_141 (lv_at hl 4 rfl) ?_
                obtain ⟨g38, h⟩ := q_gd_h h
                refine m_iald G V 6 m_w6 g38 d_M_merge_143 ?_
                obtain ⟨g39, h⟩ := q_gd_h h
                obtain ⟨s40, e40, h⟩ := q_let_h h
                refine m_iast (σ' := s40) G V 6 m_w6 (m_u6.trans (congrArg (m_W b cs) e40.symm)) g39 d_M_merge_144 (fun H locs V => ?_)
                refine lv_iinc (k := 4) (v := v4 + 1) (lv' := [(4, .int (v4 + 1)), (0, .ref (b 0)), (1, .int (u1)), (2, .int (u2)), (3, .int (u3)), (5, .int (v5))]) hx hb d_M_merge_145 hl rfl rfl (by decide) rfl (fun ls hl => ?_)
                refine lv_goto (tgt := 3) hx hb d_M_merge_148 (by decide) ?_
                exact ih _ _ _ _ ls h (lv_sub hl [1, 2, 3, 4, 0] rfl) V
              · replace h := q_ifn hc h
                refine lv_iload hx hb d_M_merge_127 (lv_at hl 5 rfl) ?_
                refine lv_if_ne (tgt := 137) hx hb d_M_merge_129 (by decide) (fun hc => ?_) (fun hc => ?_)
                · replace h := q_ifn hc h
                  refine lv_aload_n hx hb d_M_merge_137 rfl (lv_at hl 0 rfl) ?_
                  refine m_get (v := .ref (b 6)) G V 0 4 6 m_w0 rfl in_M (by decide) k_M_25 rfl d_M_merge_138 ?_
                  refine lv_iload hx hb d_M_merge_141 (lv_at hl 4 rfl) ?_
                  obtain ⟨g41, h⟩ := q_gd_h h
                  refine m_iald G V 6 m_w6 g41 d_M_merge_143 ?_
                  obtain ⟨g42, h⟩ := q_gd_h h
                  obtain ⟨s43, e43, h⟩ := q_let_h h
                  refine m_iast (σ' := s43) G V 6 m_w6 (m_u6.trans (congrArg (m_W b cs) e43.symm)) g42 d_M_merge_144 (fun H locs V => ?_)
                  refine lv_iinc (k := 4) (v := v4 + 1) (lv' := [(4, .int (v4 + 1)), (0, .ref (b 0)), (1, .int (u1)), (2, .int (u2)), (3, .int (u3)), (5, .int (v5))]) hx hb d_M_merge_145 hl rfl rfl (by decide) rfl (fun ls hl => ?_)
                  refine lv_goto (tgt := 3) hx hb d_M_merge_148 (by decide) ?_
                  exact ih _ _ _ _ ls h (lv_sub hl [1, 2, 3, 4, 0] rfl) V
                · replace h := q_ifp hc h
                  refine lv_bipush (v := (-2)) hx hb d_M_merge_132 (by decide) ?_
                  refine lv_goto (tgt := 144) hx hb d_M_merge_134 (by decide) ?_
                  obtain ⟨g44, h⟩ := q_gd_h h
                  obtain ⟨s45, e45, h⟩ := q_let_h h
                  refine m_iast (σ' := s45) G V 6 m_w6 (m_u6.trans (congrArg (m_W b cs) e45.symm)) g44 d_M_merge_144 (fun H locs V => ?_)
                  refine lv_iinc (k := 4) (v := v4 + 1) (lv' := [(4, .int (v4 + 1)), (0, .ref (b 0)), (1, .int (u1)), (2, .int (u2)), (3, .int (u3)), (5, .int (v5))]) hx hb d_M_merge_145 hl rfl rfl (by decide) rfl (fun ls hl => ?_)
                  refine lv_goto (tgt := 3) hx hb d_M_merge_148 (by decide) ?_
                  exact ih _ _ _ _ ls h (lv_sub hl [1, 2, 3, 4, 0] rfl) V
        · replace h := q_ifn hc h
          refine lv_aload_n hx hb d_M_merge_16 rfl (lv_at hl 0 rfl) ?_
          refine lv_iload hx hb d_M_merge_17 (lv_at hl 4 rfl) ?_
          obtain ⟨r47, h46, h⟩ := q_bind h
          refine m_cV_i (As := [.int (v4)]) (rest := []) G V hml (c_M_isLive l D b cs N σ v4 r47 h46) 0 4 rfl m_w0 g_M_86 e_M_isLive ⟨Nat.le_of_ble_eq_true rfl, Nat.le_of_ble_eq_true rfl⟩ ⟨rfl, rfl⟩ ⟨Nat.zero_le _, Nat.zero_le _⟩ rfl hl.1 rfl (Nat.le_of_ble_eq_true rfl) d_M_merge_19 (fun H locs V => ?_)
          refine lv_goto (tgt := 49) hx hb d_M_merge_22 (by decide) ?_
          refine lv_istore (lv' := [(5, .int (r47)), (0, .ref (b 0)), (1, .int (u1)), (2, .int (u2)), (3, .int (u3)), (4, .int (v4))]) hx hb d_M_merge_49 hl (by decide) rfl (fun ls hl => ?_)
          refine lv_iload hx hb d_M_merge_51 (lv_at hl 5 rfl) ?_
          refine lv_iconst (v := 1) hx hb d_M_merge_53 (by decide) ?_
          refine lv_iadd hx hb d_M_merge_54 ?_
          refine lv_istore (lv' := [(6, .int (v4 + 1)), (5, .int (r47)), (0, .ref (b 0)), (1, .int (u1)), (2, .int (u2)), (3, .int (u3)), (4, .int (v4))]) hx hb d_M_merge_55 hl (by decide) rfl (fun ls hl => ?_)
          have lp57 : ∀ (σ : m_T) (u1 : Int32) (u2 : Int32) (u3 : Int32) (u4 : Int32) (K : Int32 → Option (Int32 × m_T)) (_ : ∀ (v5 : Int32) (H : Heap) (locs : List Loc) (ls : Array Slot), K v5 = some (r, σ') → lv_has ls 7 [(0, .ref (b 0)), (1, .int (u1)), (2, .int (u2)), (3, .int (u3)), (4, .int (u4)), (5, .int (v5))] → m_V D b cs σ A s.heap H locs → W p l e { frames := 2, cells := 0, slots := 0, locals := 44 } s m args below meth c H locs 0 0 (m_Qi below args s D b cs A r σ') (F0 m 110 ls [])) (n : Nat) (v5 : Int32) (v6 : Int32) (H : Heap) (locs : List Loc) (ls : Array Slot), f_M_merge_L57 N σ u1 u2 u3 u4 K n v5 v6 = some (r, σ') → lv_has ls 7 [(0, .ref (b 0)), (1, .int (u1)), (2, .int (u2)), (3, .int (u3)), (4, .int (u4)), (5, .int (v5)), (6, .int (v6))] → m_V D b cs σ A s.heap H locs → W p l e { frames := 2, cells := 0, slots := 0, locals := 44 } s m args below meth c H locs 0 0 (m_Qi below args s D b cs A r σ') (F0 m 57 ls []) := by
            intro σ u1 u2 u3 u4 K hK n
            induction n with
            | zero => intro v5 v6 H locs ls h hl V; cases h
            | succ n ih =>
              intro v5 v6 H locs ls h hl V
              rw [f_M_merge_L57] at h
              refine lv_iload hx hb d_M_merge_57 (lv_at hl 6 rfl) ?_
              refine lv_aload_n hx hb d_M_merge_59 rfl (lv_at hl 0 rfl) ?_
              refine m_get (v := .int (m_S σ 0)) G V 0 4 0 m_w0 rfl in_M (by decide) k_M_79 rfl d_M_merge_60 ?_
              refine lv_icmp_ge (tgt := 110) hx hb d_M_merge_63 (by decide) (fun hc => ?_) (fun hc => ?_)
              · replace h := q_ifp hc h
                exact hK _ _ _ ls h (lv_sub hl [0, 1, 2, 3, 4, 5] rfl) V
              · replace h := q_ifn hc h
                refine lv_iload_n hx hb d_M_merge_66 rfl (lv_at hl 3 rfl) ?_
                refine lv_if_ne (tgt := 110) hx hb d_M_merge_67 (by decide) (fun hc => ?_) (fun hc => ?_)
                · replace h := q_ifn hc h
                  exact hK _ _ _ ls h (lv_sub hl [0, 1, 2, 3, 4, 5] rfl) V
                · replace h := q_ifp hc h
                  refine lv_iload hx hb d_M_merge_70 (lv_at hl 5 rfl) ?_
                  refine lv_if_eq (tgt := 101) hx hb d_M_merge_72 (by decide) (fun hc => ?_) (fun hc => ?_)
                  · replace h := q_ifp hc h
                    refine lv_iconst (v := 0) hx hb d_M_merge_101 (by decide) ?_
                    refine lv_istore (lv' := [(5, .int (0)), (0, .ref (b 0)), (1, .int (u1)), (2, .int (u2)), (3, .int (u3)), (4, .int (u4)), (6, .int (v6))]) hx hb d_M_merge_102 hl (by decide) rfl (fun ls hl => ?_)
                    refine lv_iinc (k := 6) (v := v6 + 1) (lv' := [(6, .int (v6 + 1)), (5, .int (0)), (0, .ref (b 0)), (1, .int (u1)), (2, .int (u2)), (3, .int (u3)), (4, .int (u4))]) hx hb d_M_merge_104 hl rfl rfl (by decide) rfl (fun ls hl => ?_)
                    refine lv_goto (tgt := 57) hx hb d_M_merge_107 (by decide) ?_
                    exact ih _ _ _ _ ls h (lv_sub hl [2, 3, 4, 5, 6, 1, 0] rfl) V
                  · replace h := q_ifn hc h
                    refine lv_aload_n hx hb d_M_merge_75 rfl (lv_at hl 0 rfl) ?_
                    refine lv_iload hx hb d_M_merge_76 (lv_at hl 6 rfl) ?_
                    refine lv_iload_n hx hb d_M_merge_78 rfl (lv_at hl 1 rfl) ?_
                    refine lv_iload_n hx hb d_M_merge_79 rfl (lv_at hl 2 rfl) ?_
                    obtain ⟨r49, h48, h⟩ := q_bind h
                    refine m_cV_i (As := [.int (v6), .int (u1), .int (u2)]) (rest := []) G V hml (c_M_isIn l D b cs N σ v6 u1 u2 r49 h48) 0 4 rfl m_w0 g_M_192 e_M_isIn ⟨Nat.le_of_ble_eq_true rfl, Nat.le_of_ble_eq_true rfl⟩ ⟨rfl, rfl⟩ ⟨Nat.zero_le _, Nat.zero_le _⟩ rfl hl.1 rfl (Nat.le_of_ble_eq_true rfl) d_M_merge_80 (fun H locs V => ?_)
                    refine lv_if_eq (tgt := 97) hx hb d_M_merge_83 (by decide) (fun hc => ?_) (fun hc => ?_)
                    · replace h := q_ifp hc h
                      refine lv_iconst (v := 1) hx hb d_M_merge_97 (by decide) ?_
                      refine lv_goto (tgt := 102) hx hb d_M_merge_98 (by decide) ?_
                      refine lv_istore (lv' := [(5, .int (1)), (0, .ref (b 0)), (1, .int (u1)), (2, .int (u2)), (3, .int (u3)), (4, .int (u4)), (6, .int (v6))]) hx hb d_M_merge_102 hl (by decide) rfl (fun ls hl => ?_)
                      refine lv_iinc (k := 6) (v := v6 + 1) (lv' := [(6, .int (v6 + 1)), (5, .int (1)), (0, .ref (b 0)), (1, .int (u1)), (2, .int (u2)), (3, .int (u3)), (4, .int (u4))]) hx hb d_M_merge_104 hl rfl rfl (by decide) rfl (fun ls hl => ?_)
                      refine lv_goto (tgt := 57) hx hb d_M_merge_107 (by decide) ?_
                      exact ih _ _ _ _ ls h (lv_sub hl [2, 3, 4, 5, 6, 1, 0] rfl) V
                    · replace h := q_ifn hc h
                      refine lv_aload_n hx hb d_M_merge_86 rfl (lv_at hl 0 rfl) ?_
                      refine lv_iload hx hb d_M_merge_87 (lv_at hl 6 rfl) ?_
                      refine lv_iload hx hb d_M_merge_89 (lv_at hl 4 rfl) ?_
                      obtain ⟨r51, h50, h⟩ := q_bind h
                      refine m_cV_i (As := [.int (v6), .int (u4)]) (rest := []) G V hml (c_M_covers l D b cs N σ v6 u4 r51 h50) 0 4 rfl m_w0 g_M_82 e_M_covers ⟨Nat.le_of_ble_eq_true rfl, Nat.le_of_ble_eq_true rfl⟩ ⟨rfl, rfl⟩ ⟨Nat.zero_le _, Nat.zero_le _⟩ rfl hl.1 rfl (Nat.le_of_ble_eq_true rfl) d_M_merge_91 (fun H locs V => ?_)
                      refine lv_if_ne (tgt := 101) hx hb d_M_merge_94 (by decide) (fun hc => ?_) (fun hc => ?_)
                      · replace h := q_ifn hc h
                        refine lv_iconst (v := 0) hx hb d_M_merge_101 (by decide) ?_
                        refine lv_istore (lv' := [(5, .int (0)), (0, .ref (b 0)), (1, .int (u1)), (2, .int (u2)), (3, .int (u3)), (4, .int (u4)), (6, .int (v6))]) hx hb d_M_merge_102 hl (by decide) rfl (fun ls hl => ?_)
                        refine lv_iinc (k := 6) (v := v6 + 1) (lv' := [(6, .int (v6 + 1)), (5, .int (0)), (0, .ref (b 0)), (1, .int (u1)), (2, .int (u2)), (3, .int (u3)), (4, .int (u4))]) hx hb d_M_merge_104 hl rfl rfl (by decide) rfl (fun ls hl => ?_)
                        refine lv_goto (tgt := 57) hx hb d_M_merge_107 (by decide) ?_
                        exact ih _ _ _ _ ls h (lv_sub hl [2, 3, 4, 5, 6, 1, 0] rfl) V
                      · replace h := q_ifp hc h
                        refine lv_iconst (v := 1) hx hb d_M_merge_97 (by decide) ?_
                        refine lv_goto (tgt := 102) hx hb d_M_merge_98 (by decide) ?_
                        refine lv_istore (lv' := [(5, .int (1)), (0, .ref (b 0)), (1, .int (u1)), (2, .int (u2)), (3, .int (u3)), (4, .int (u4)), (6, .int (v6))]) hx hb d_M_merge_102 hl (by decide) rfl (fun ls hl => ?_)
                        refine lv_iinc (k := 6) (v := v6 + 1) (lv' := [(6, .int (v6 + 1)), (5, .int (1)), (0, .ref (b 0)), (1, .int (u1)), (2, .int (u2)), (3, .int (u3)), (4, .int (u4))]) hx hb d_M_merge_104 hl rfl rfl (by decide) rfl (fun ls hl => ?_)
                        refine lv_goto (tgt := 57) hx hb d_M_merge_107 (by decide) ?_
                        exact ih _ _ _ _ ls h (lv_sub hl [2, 3, 4, 5, 6, 1, 0] rfl) V
          replace hl := lv_sub (l' := [(0, .ref (b 0)), (1, .int (u1)), (2, .int (u2)), (3, .int (u3)), (4, .int (v4)), (5, .int (r47)), (6, .int (v4 + 1))]) hl [2, 3, 4, 5, 6, 1, 0] rfl
          refine lp57 _ _ _ _ _ _ ?_ _ _ _ _ _ ls h hl V
          intro v5 H locs ls h hl V
          refine lv_aload_n hx hb d_M_merge_110 rfl (lv_at hl 0 rfl) ?_
          refine m_get (v := .ref (b 6)) G V 0 4 6 m_w0 rfl in_M (by decide) k_M_25 rfl d_M_merge_111 ?_
          refine lv_iload hx hb d_M_merge_114 (lv_at hl 4 rfl) ?_
          refine lv_aload_n hx hb d_M_merge_116 rfl (lv_at hl 0 rfl) ?_
          refine lv_iload hx hb d_M_merge_117 (lv_at hl 4 rfl) ?_
          refine lv_iload_n hx hb d_M_merge_119 rfl (lv_at hl 1 rfl) ?_
          refine lv_iload_n hx hb d_M_merge_120 rfl (lv_at hl 2 rfl) ?_
          obtain ⟨r53, h52, h⟩ := q_bind h
          refine m_cV_i (As := [.int (v4), .int (u1), .int (u2)]) (rest := [.int (v4), .ref (b 6)]) G V hml (c_M_isIn l D b cs N σ v4 u1 u2 r53 h52) 0 4 rfl m_w0 g_M_192 e_M_isIn ⟨Nat.le_of_ble_eq_true rfl, Nat.le_of_ble_eq_true rfl⟩ ⟨rfl, rfl⟩ ⟨Nat.zero_le _, Nat.zero_le _⟩ rfl hl.1 rfl (Nat.le_of_ble_eq_true rfl) d_M_merge_121 (fun H locs V => ?_)
          refine lv_if_eq (tgt := 137) hx hb d_M_merge_124 (by decide) (fun hc => ?_) (fun hc => ?_)
          · replace h := q_ifp hc h
            refine lv_aload_n hx hb d_M_merge_137 rfl (lv_at hl 0 rfl) ?_
            refine m_get (v := .ref (b 6)) G V 0 4 6 m_w0 rfl in_M (by decide) k_M_25 rfl d_M_merge_138 ?_
            refine lv_iload hx hb d_M_merge_141 (lv_at hl 4 rfl) ?_
            obtain ⟨g54, h⟩ := q_gd_h h
            refine m_iald G V 6 m_w6 g54 d_M_merge_143 ?_
            obtain ⟨g55, h⟩ := q_gd_h h
            obtain ⟨s56, e56, h⟩ := q_let_h h
            refine m_iast (σ' := s56) G V 6 m_w6 (m_u6.trans (congrArg (m_W b cs) e56.symm)) g55 d_M_merge_144 (fun H locs V => ?_)
            refine lv_iinc (k := 4) (v := v4 + 1) (lv' := [(4, .int (v4 + 1)), (0, .ref (b 0)), (1, .int (u1)), (2, .int (u2)), (3, .int (u3)), (5, .int (v5))]) hx hb d_M_merge_145 hl rfl rfl (by decide) rfl (fun ls hl => ?_)
            refine lv_goto (tgt := 3) hx hb d_M_merge_148 (by decide) ?_
            exact ih _ _ _ _ ls h (lv_sub hl [1, 2, 3, 4, 0] rfl) V
          · replace h := q_ifn hc h
            refine lv_iload hx hb d_M_merge_127 (lv_at hl 5 rfl) ?_
            refine lv_if_ne (tgt := 137) hx hb d_M_merge_129 (by decide) (fun hc => ?_) (fun hc => ?_)
            · replace h := q_ifn hc h
              refine lv_aload_n hx hb d_M_merge_137 rfl (lv_at hl 0 rfl) ?_
              refine m_get (v := .ref (b 6)) G V 0 4 6 m_w0 rfl in_M (by decide) k_M_25 rfl d_M_merge_138 ?_
              refine lv_iload hx hb d_M_merge_141 (lv_at hl 4 rfl) ?_
              obtain ⟨g57, h⟩ := q_gd_h h
              refine m_iald G V 6 m_w6 g57 d_M_merge_143 ?_
              obtain ⟨g58, h⟩ := q_gd_h h
              obtain ⟨s59, e59, h⟩ := q_let_h h
              refine m_iast (σ' := s59) G V 6 m_w6 (m_u6.trans (congrArg (m_W b cs) e59.symm)) g58 d_M_merge_144 (fun H locs V => ?_)
              refine lv_iinc (k := 4) (v := v4 + 1) (lv' := [(4, .int (v4 + 1)), (0, .ref (b 0)), (1, .int (u1)), (2, .int (u2)), (3, .int (u3)), (5, .int (v5))]) hx hb d_M_merge_145 hl rfl rfl (by decide) rfl (fun ls hl => ?_)
              refine lv_goto (tgt := 3) hx hb d_M_merge_148 (by decide) ?_
              exact ih _ _ _ _ ls h (lv_sub hl [1, 2, 3, 4, 0] rfl) V
            · replace h := q_ifp hc h
              refine lv_bipush (v := (-2)) hx hb d_M_merge_132 (by decide) ?_
              refine lv_goto (tgt := 144) hx hb d_M_merge_134 (by decide) ?_
              obtain ⟨g60, h⟩ := q_gd_h h
              obtain ⟨s61, e61, h⟩ := q_let_h h
              refine m_iast (σ' := s61) G V 6 m_w6 (m_u6.trans (congrArg (m_W b cs) e61.symm)) g60 d_M_merge_144 (fun H locs V => ?_)
              refine lv_iinc (k := 4) (v := v4 + 1) (lv' := [(4, .int (v4 + 1)), (0, .ref (b 0)), (1, .int (u1)), (2, .int (u2)), (3, .int (u3)), (5, .int (v5))]) hx hb d_M_merge_145 hl rfl rfl (by decide) rfl (fun ls hl => ?_)
              refine lv_goto (tgt := 3) hx hb d_M_merge_148 (by decide) ?_
              exact ih _ _ _ _ ls h (lv_sub hl [1, 2, 3, 4, 0] rfl) V
  replace hl := lv_sub (l' := [(0, .ref (b 0)), (1, .int (a1)), (2, .int (a2)), (3, .int (a3)), (4, .int (0))]) hl [1, 2, 3, 4, 0] rfl
  refine lp3 _ _ _ _ ?_ _ _ _ _ _ ls h hl V
  intro t62 H locs ls h hl V
  refine lv_iconst (v := 0) hx hb d_M_merge_151 (by decide) ?_
  refine lv_istore (lv' := [(4, .int (0)), (0, .ref (b 0)), (1, .int (a1)), (2, .int (a2))]) hx hb d_M_merge_152 hl (by decide) rfl (fun ls hl => ?_)
  refine lv_iconst (v := 0) hx hb d_M_merge_154 (by decide) ?_
  refine lv_istore (lv' := [(5, .int (0)), (4, .int (0)), (0, .ref (b 0)), (1, .int (a1)), (2, .int (a2))]) hx hb d_M_merge_155 hl (by decide) rfl (fun ls hl => ?_)
  refine lv_iconst (v := 0) hx hb d_M_merge_157 (by decide) ?_
  refine lv_istore (lv' := [(6, .int (0)), (5, .int (0)), (4, .int (0)), (0, .ref (b 0)), (1, .int (a1)), (2, .int (a2))]) hx hb d_M_merge_158 hl (by decide) rfl (fun ls hl => ?_)
  have lp160 : ∀ (u1 : Int32) (u2 : Int32) (K : Int32 → Int32 → m_T → Option (Int32 × m_T)) (_ : ∀ (v4 : Int32) (v5 : Int32) (σ : m_T) (H : Heap) (locs : List Loc) (ls : Array Slot), K v4 v5 σ = some (r, σ') → lv_has ls 7 [(0, .ref (b 0)), (1, .int (u1)), (2, .int (u2)), (4, .int (v4)), (5, .int (v5))] → m_V D b cs σ A s.heap H locs → W p l e { frames := 2, cells := 0, slots := 0, locals := 44 } s m args below meth c H locs 0 0 (m_Qi below args s D b cs A r σ') (F0 m 220 ls [])) (n : Nat) (v4 : Int32) (v5 : Int32) (v6 : Int32) (σ : m_T) (H : Heap) (locs : List Loc) (ls : Array Slot), f_M_merge_L160 N u1 u2 K n v4 v5 v6 σ = some (r, σ') → lv_has ls 7 [(0, .ref (b 0)), (1, .int (u1)), (2, .int (u2)), (4, .int (v4)), (5, .int (v5)), (6, .int (v6))] → m_V D b cs σ A s.heap H locs → W p l e { frames := 2, cells := 0, slots := 0, locals := 44 } s m args below meth c H locs 0 0 (m_Qi below args s D b cs A r σ') (F0 m 160 ls []) := by
    intro u1 u2 K hK n
    induction n with
    | zero => intro v4 v5 v6 σ H locs ls h hl V; cases h
    | succ n ih =>
      intro v4 v5 v6 σ H locs ls h hl V
      rw [f_M_merge_L160] at h
      refine lv_iload hx hb d_M_merge_160 (lv_at hl 5 rfl) ?_
      refine lv_aload_n hx hb d_M_merge_162 rfl (lv_at hl 0 rfl) ?_
      refine m_get (v := .int (m_S σ 0)) G V 0 4 0 m_w0 rfl in_M (by decide) k_M_79 rfl d_M_merge_163 ?_
      refine lv_icmp_ge (tgt := 220) hx hb d_M_merge_166 (by decide) (fun hc => ?_) (fun hc => ?_)
      · replace h := q_ifp hc h
        exact hK _ _ _ _ _ ls h (lv_sub hl [0, 1, 2, 3, 4] rfl) V
      · replace h := q_ifn hc h
        refine lv_aload_n hx hb d_M_merge_169 rfl (lv_at hl 0 rfl) ?_
        refine m_get (v := .ref (b 6)) G V 0 4 6 m_w0 rfl in_M (by decide) k_M_25 rfl d_M_merge_170 ?_
        refine lv_iload hx hb d_M_merge_173 (lv_at hl 5 rfl) ?_
        obtain ⟨g63, h⟩ := q_gd_h h
        refine m_iald G V 6 m_w6 g63 d_M_merge_175 ?_
        refine lv_bipush (v := (-2)) hx hb d_M_merge_176 (by decide) ?_
        refine lv_icmp_eq (tgt := 214) hx hb d_M_merge_178 (by decide) (fun hc => ?_) (fun hc => ?_)
        · replace h := q_ifp hc h
          refine lv_iinc (k := 5) (v := v6 + 1) (lv' := [(6, .int (v6 + 1)), (0, .ref (b 0)), (1, .int (u1)), (2, .int (u2)), (4, .int (v4)), (5, .int (v5))]) hx hb d_M_merge_214 hl rfl rfl (by decide) rfl (fun ls hl => ?_)
          refine lv_goto (tgt := 160) hx hb d_M_merge_217 (by decide) ?_
          exact ih _ _ _ _ _ _ ls h (lv_sub hl [1, 2, 3, 4, 5, 0] rfl) V
        · replace h := q_ifn hc h
          refine lv_aload_n hx hb d_M_merge_181 rfl (lv_at hl 0 rfl) ?_
          refine lv_iload hx hb d_M_merge_182 (lv_at hl 5 rfl) ?_
          refine lv_iload hx hb d_M_merge_184 (lv_at hl 3 rfl) ?_
          obtain ⟨s65, h64, h⟩ := q_bind h
          refine m_cV_v (As := [.int (v6), .int (v4)]) (rest := []) G V hml (c_M_move l D b cs N σ v6 v4 s65 h64) 0 4 rfl m_w0 g_M_196 e_M_move ⟨Nat.le_of_ble_eq_true rfl, Nat.le_of_ble_eq_true rfl⟩ ⟨rfl, rfl⟩ ⟨Nat.zero_le _, Nat.zero_le _⟩ rfl hl.1 rfl (Nat.le_of_ble_eq_true rfl) d_M_merge_186 (fun H locs V => ?_)
          refine lv_aload_n hx hb d_M_merge_189 rfl (lv_at hl 0 rfl) ?_
          refine lv_iload hx hb d_M_merge_190 (lv_at hl 3 rfl) ?_
          refine lv_iload_n hx hb d_M_merge_192 rfl (lv_at hl 1 rfl) ?_
          refine lv_iload_n hx hb d_M_merge_193 rfl (lv_at hl 2 rfl) ?_
          obtain ⟨r67, h66, h⟩ := q_bind h
          refine m_cV_i (As := [.int (v4), .int (u1), .int (u2)]) (rest := []) G V hml (c_M_isIn l D b cs N s65 v4 u1 u2 r67 h66) 0 4 rfl m_w0 g_M_192 e_M_isIn ⟨Nat.le_of_ble_eq_true rfl, Nat.le_of_ble_eq_true rfl⟩ ⟨rfl, rfl⟩ ⟨Nat.zero_le _, Nat.zero_le _⟩ rfl hl.1 rfl (Nat.le_of_ble_eq_true rfl) d_M_merge_194 (fun H locs V => ?_)
          refine lv_if_eq (tgt := 211) hx hb d_M_merge_197 (by decide) (fun hc => ?_) (fun hc => ?_)
          · replace h := q_ifp hc h
            refine lv_iinc (k := 3) (v := v4 + 1) (lv' := [(4, .int (v4 + 1)), (0, .ref (b 0)), (1, .int (u1)), (2, .int (u2)), (5, .int (v5)), (6, .int (v6))]) hx hb d_M_merge_211 hl rfl rfl (by decide) rfl (fun ls hl => ?_)
            refine lv_iinc (k := 5) (v := v6 + 1) (lv' := [(6, .int (v6 + 1)), (4, .int (v4 + 1)), (0, .ref (b 0)), (1, .int (u1)), (2, .int (u2)), (5, .int (v5))]) hx hb d_M_merge_214 hl rfl rfl (by decide) rfl (fun ls hl => ?_)
            refine lv_goto (tgt := 160) hx hb d_M_merge_217 (by decide) ?_
            exact ih _ _ _ _ _ _ ls h (lv_sub hl [2, 3, 4, 1, 5, 0] rfl) V
          · replace h := q_ifn hc h
            refine lv_aload_n hx hb d_M_merge_200 rfl (lv_at hl 0 rfl) ?_
            refine m_get (v := .ref (b 8)) G V 0 4 8 m_w0 rfl in_M (by decide) k_M_31 rfl d_M_merge_201 ?_
            refine lv_iload hx hb d_M_merge_204 (lv_at hl 3 rfl) ?_
            refine lv_iload_n hx hb d_M_merge_206 rfl (lv_at hl 2 rfl) ?_
            obtain ⟨g68, h⟩ := q_gd_h h
            obtain ⟨s69, e69, h⟩ := q_let_h h
            refine m_iast (σ' := s69) G V 8 m_w8 (m_u8.trans (congrArg (m_W b cs) e69.symm)) g68 d_M_merge_207 (fun H locs V => ?_)
            refine lv_iinc (k := 4) (v := v5 + 1) (lv' := [(5, .int (v5 + 1)), (0, .ref (b 0)), (1, .int (u1)), (2, .int (u2)), (4, .int (v4)), (6, .int (v6))]) hx hb d_M_merge_208 hl rfl rfl (by decide) rfl (fun ls hl => ?_)
            refine lv_iinc (k := 4) (v := v4 + 1) (lv' := [(4, .int (v4 + 1)), (5, .int (v5 + 1)), (0, .ref (b 0)), (1, .int (u1)), (2, .int (u2)), (6, .int (v6))]) hx hb d_M_merge_211 hl rfl rfl (by decide) rfl (fun ls hl => ?_)
            refine lv_iinc (k := 5) (v := v6 + 1) (lv' := [(6, .int (v6 + 1)), (4, .int (v4 + 1)), (5, .int (v5 + 1)), (0, .ref (b 0)), (1, .int (u1)), (2, .int (u2))]) hx hb d_M_merge_214 hl rfl rfl (by decide) rfl (fun ls hl => ?_)
            refine lv_goto (tgt := 160) hx hb d_M_merge_217 (by decide) ?_
            exact ih _ _ _ _ _ _ ls h (lv_sub hl [3, 4, 5, 1, 2, 0] rfl) V
  replace hl := lv_sub (l' := [(0, .ref (b 0)), (1, .int (a1)), (2, .int (a2)), (4, .int (0)), (5, .int (0)), (6, .int (0))]) hl [3, 4, 5, 2, 1, 0] rfl
  refine lp160 _ _ _ ?_ _ _ _ _ _ _ _ ls h hl V
  intro v4 v5 t70 H locs ls h hl V
  refine lv_aload_n hx hb d_M_merge_220 rfl (lv_at hl 0 rfl) ?_
  refine lv_iload hx hb d_M_merge_221 (lv_at hl 3 rfl) ?_
  obtain ⟨s71, e71, h⟩ := q_let_h h
  refine m_put (σ' := s71) (ty := .int) G V 0 4 0 m_w0 rfl in_M tt_M_ok n_M (by decide) k_M_79 rfl rfl rfl rfl (Nat.le_of_ble_eq_true rfl) (m_uM0.trans (congrArg (m_W b cs) e71.symm)) d_M_merge_223 (fun H locs V => ?_)
  refine lv_aload_n hx hb d_M_merge_226 rfl (lv_at hl 0 rfl) ?_
  refine m_get (v := .ref (b 10)) G V 0 4 11 m_w0 rfl in_M (by decide) k_M_41 rfl d_M_merge_227 ?_
  refine lv_iload_n hx hb d_M_merge_230 rfl (lv_at hl 1 rfl) ?_
  refine lv_iload hx hb d_M_merge_231 (lv_at hl 4 rfl) ?_
  refine lv_if_le (tgt := 242) hx hb d_M_merge_233 (by decide) (fun hc => ?_) (fun hc => ?_)
  · replace h := q_ifp hc h
    refine lv_iload_n hx hb d_M_merge_242 rfl (lv_at hl 2 rfl) ?_
    obtain ⟨g72, h⟩ := q_gd_h h
    obtain ⟨s73, e73, h⟩ := q_let_h h
    refine m_iast (σ' := s73) G V 10 m_w10 (m_u10.trans (congrArg (m_W b cs) e73.symm)) g72 d_M_merge_243 (fun H locs V => ?_)
    refine lv_iload hx hb d_M_merge_244 (lv_at hl 4 rfl) ?_
    exact m_ret_i G hr hlk h V d_M_merge_246
  · replace h := q_ifn hc h
    refine lv_iload_n hx hb d_M_merge_236 rfl (lv_at hl 2 rfl) ?_
    refine lv_iconst (v := 1) hx hb d_M_merge_237 (by decide) ?_
    refine lv_iadd hx hb d_M_merge_238 ?_
    refine lv_goto (tgt := 243) hx hb d_M_merge_239 (by decide) ?_
    obtain ⟨g74, h⟩ := q_gd_h h
    obtain ⟨s75, e75, h⟩ := q_let_h h
    refine m_iast (σ' := s75) G V 10 m_w10 (m_u10.trans (congrArg (m_W b cs) e75.symm)) g74 d_M_merge_243 (fun H locs V => ?_)
    refine lv_iload hx hb d_M_merge_244 (lv_at hl 4 rfl) ?_
    exact m_ret_i G hr hlk h V d_M_merge_246
