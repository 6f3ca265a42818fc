set_option maxHeartbeats 40000000 in
set_option maxRecDepth 100000 in
theorem c_T_isCoveredInTables (l : Launch) (D : va_G) (b ad : Nat → Nat) (cs : Nat → ClassId) (N : Nat) (σ : x_T) (a1 : Int32) (a2 : Int32) (r : Int32) (h : f_T_isCoveredInTables N σ a1 a2 = some r) : x_Ci l y_T_isCoveredInTables b_T_isCoveredInTables 5 (some .boolean) { frames := 1, cells := 0, slots := 0, locals := 21 } D b ad cs σ [.ref (b 0), .int (a1), .int (a2)] r σ := by
  refine x_met_i (own := R_T) (by decide) rfl (Nat.le_of_ble_eq_true rfl) ?_
  intro p e s m args below meth c A G hr hlk hml ls hl V
  have hx := G.1
  have hb := G.2.1
  have hown := G.2.2.1
  have hts := G.2.2.2.1
  have hN := G.2.2.2.2.2
  have hl : lv_has ls 5 [(0, .ref (b 0)), (1, .int (a1)), (2, .int (a2))] := hl
  unfold f_T_isCoveredInTables at h
  refine lv_aload_n hx hb d_T_isCoveredInTables_0 rfl (lv_at hl 0 rfl) ?_
  refine x_get (v := .ref (b 3)) G V 0 0 3 x_w0 rfl in_T (by decide) k_T_22 rfl d_T_isCoveredInTables_1 ?_
  refine lv_iload_n hx hb d_T_isCoveredInTables_4 rfl (lv_at hl 1 rfl) ?_
  obtain ⟨g1, h⟩ := q_gd_h h
  refine x_aald G V g1 d_T_isCoveredInTables_5 (fun hE => ?_) (fun k2 hE => ?_)
  · replace h := q_omn hE h
    cases h
  · replace h := q_oms hE h
    refine lv_astore_n (lv' := [(3, .ref (ad k2)), (0, .ref (b 0)), (1, .int (a1)), (2, .int (a2))]) hx hb d_T_isCoveredInTables_6 rfl hl (by decide) rfl (fun ls hl => ?_)
    refine lv_iload_n hx hb d_T_isCoveredInTables_7 rfl (lv_at hl 2 rfl) ?_
    refine lv_iconst (v := 1) hx hb d_T_isCoveredInTables_8 (by decide) ?_
    refine lv_isub hx hb d_T_isCoveredInTables_9 ?_
    refine lv_istore (lv' := [(4, .int (a1 - 1)), (3, .ref (ad k2)), (0, .ref (b 0)), (1, .int (a1)), (2, .int (a2))]) hx hb d_T_isCoveredInTables_10 hl (by decide) rfl (fun ls hl => ?_)
    have lp12 : ∀ (u2 : Int32) (u3 : Nat) (K : Option Int32) (_ : ∀ (H : Heap) (locs : List Loc) (ls : Array Slot), K = some r → lv_has ls 5 [] → x_V D b ad cs σ A s.heap H locs → W p l e { frames := 1, cells := 0, slots := 0, locals := 21 } s m args below meth c H locs 0 0 (x_Qi below args s D b ad cs A r σ) (F0 m 70 ls [])) (n : Nat) (v4 : Int32) (H : Heap) (locs : List Loc) (ls : Array Slot), f_T_isCoveredInTables_L12 N σ u2 u3 K n v4 = some r → lv_has ls 5 [(0, .ref (b 0)), (2, .int (u2)), (3, .ref (ad u3)), (4, .int (v4))] → x_V D b ad cs σ A s.heap H locs → W p l e { frames := 1, cells := 0, slots := 0, locals := 21 } s m args below meth c H locs 0 0 (x_Qi below args s D b ad cs A r σ) (F0 m 12 ls []) := by
      intro u2 u3 K hK n
      induction n with
      | zero => intro v4 H locs ls h hl V; cases h
      | succ n ih =>
        intro v4 H locs ls h hl V
        rw [f_T_isCoveredInTables_L12] at h
        refine lv_iload hx hb d_T_isCoveredInTables_12 (lv_at hl 3 rfl) ?_
        refine lv_if_lt (tgt := 70) hx hb d_T_isCoveredInTables_14 (by decide) (fun hc => ?_) (fun hc => ?_)
        · replace h := q_ifp hc h
          exact hK _ _ ls h (lv_sub hl [] rfl) V
        · replace h := q_ifn hc h
          refine lv_aload_n hx hb d_T_isCoveredInTables_17 rfl (lv_at hl 0 rfl) ?_
          refine x_get (v := .ref (b 3)) G V 0 0 3 x_w0 rfl in_T (by decide) k_T_22 rfl d_T_isCoveredInTables_18 ?_
          refine lv_iload hx hb d_T_isCoveredInTables_21 (lv_at hl 3 rfl) ?_
          obtain ⟨g3, h⟩ := q_gd_h h
          refine x_aald G V g3 d_T_isCoveredInTables_23 (fun hE => ?_) (fun k4 hE => ?_)
          · replace h := q_omn hE h
            cases h
          · replace h := q_oms hE h
            obtain ⟨b5, h⟩ := q_gd_h h
            replace b5 := q_lt_h b5
            refine x_getN (v := .int (x_P σ k4 0)) G V (15 + k4) 1 0 (x_wE b5) rfl in_E (by decide) k_T_202 rfl d_T_isCoveredInTables_24 ?_
            refine lv_aload_n hx hb d_T_isCoveredInTables_27 rfl (lv_at hl 2 rfl) ?_
            obtain ⟨b6, h⟩ := q_gd_h h
            replace b6 := q_lt_h b6
            refine x_getN (v := .int (x_P σ u3 0)) G V (15 + u3) 1 0 (x_wE b6) rfl in_E (by decide) k_T_202 rfl d_T_isCoveredInTables_28 ?_
            refine lv_icmp_ne (tgt := 70) hx hb d_T_isCoveredInTables_31 (by decide) (fun hc => ?_) (fun hc => ?_)
            · replace h := q_ifn hc h
              exact hK _ _ ls h (lv_sub hl [] rfl) V
            · replace h := q_ifp hc h
              refine lv_aload_n hx hb d_T_isCoveredInTables_34 rfl (lv_at hl 0 rfl) ?_
              refine x_get (v := .ref (b 3)) G V 0 0 3 x_w0 rfl in_T (by decide) k_T_22 rfl d_T_isCoveredInTables_35 ?_
              refine lv_iload hx hb d_T_isCoveredInTables_38 (lv_at hl 3 rfl) ?_
              obtain ⟨g7, h⟩ := q_gd_h h
              refine x_aald G V g7 d_T_isCoveredInTables_40 (fun hE => ?_) (fun k8 hE => ?_)
              · replace h := q_omn hE h
                cases h
              · replace h := q_oms hE h
                obtain ⟨b9, h⟩ := q_gd_h h
                replace b9 := q_lt_h b9
                refine x_getN (v := .int (x_P σ k8 8)) G V (15 + k8) 1 8 (x_wE b9) rfl in_E (by decide) k_T_226 rfl d_T_isCoveredInTables_41 ?_
                refine lv_iload_n hx hb d_T_isCoveredInTables_44 rfl (lv_at hl 1 rfl) ?_
                refine lv_icmp_lt (tgt := 64) hx hb d_T_isCoveredInTables_45 (by decide) (fun hc => ?_) (fun hc => ?_)
                · replace h := q_ifp hc h
                  refine lv_iinc (k := 3) (v := v4 + (-1)) (lv' := [(4, .int (v4 + (-1))), (0, .ref (b 0)), (2, .int (u2)), (3, .ref (ad u3))]) hx hb d_T_isCoveredInTables_64 hl rfl rfl (by decide) rfl (fun ls hl => ?_)
                  refine lv_goto (tgt := 12) hx hb d_T_isCoveredInTables_67 (by decide) ?_
                  exact ih _ _ _ ls h (lv_sub hl [1, 2, 3, 0] rfl) V
                · replace h := q_ifn hc h
                  refine lv_aload_n hx hb d_T_isCoveredInTables_48 rfl (lv_at hl 0 rfl) ?_
                  refine x_get (v := .ref (b 3)) G V 0 0 3 x_w0 rfl in_T (by decide) k_T_22 rfl d_T_isCoveredInTables_49 ?_
                  refine lv_iload hx hb d_T_isCoveredInTables_52 (lv_at hl 3 rfl) ?_
                  obtain ⟨g10, h⟩ := q_gd_h h
                  refine x_aald G V g10 d_T_isCoveredInTables_54 (fun hE => ?_) (fun k11 hE => ?_)
                  · replace h := q_omn hE h
                    cases h
                  · replace h := q_oms hE h
                    refine lv_aload_n hx hb d_T_isCoveredInTables_55 rfl (lv_at hl 2 rfl) ?_
                    obtain ⟨b13, h⟩ := q_gd_h h
                    replace b13 := q_lt_h b13
                    obtain ⟨r14, h12, h⟩ := q_bind h
                    refine x_cN_i (As := [.ref (ad u3)]) (rest := []) G V hml (c_E_covers l D b ad cs N σ k11 u3 r14 h12) (15 + k11) 1 rfl (x_wE b13) k_co_E_covers k_T_259 k_in_E k_im_E_covers k_se_E_covers (e_E_covers).2 ⟨Nat.le_of_ble_eq_true rfl, Nat.le_of_ble_eq_true rfl⟩ ⟨rfl, rfl⟩ ⟨Nat.zero_le _, Nat.zero_le _⟩ rfl hl.1 rfl (Nat.le_of_ble_eq_true rfl) d_T_isCoveredInTables_56 (fun H locs V => ?_)
                    refine lv_if_eq (tgt := 64) hx hb d_T_isCoveredInTables_59 (by decide) (fun hc => ?_) (fun hc => ?_)
                    · replace h := q_ifp hc h
                      refine lv_iinc (k := 3) (v := v4 + (-1)) (lv' := [(4, .int (v4 + (-1))), (0, .ref (b 0)), (2, .int (u2)), (3, .ref (ad u3))]) hx hb d_T_isCoveredInTables_64 hl rfl rfl (by decide) rfl (fun ls hl => ?_)
                      refine lv_goto (tgt := 12) hx hb d_T_isCoveredInTables_67 (by decide) ?_
                      exact ih _ _ _ ls h (lv_sub hl [1, 2, 3, 0] rfl) V
                    · replace h := q_ifn hc h
                      refine lv_iconst (v := 1) hx hb d_T_isCoveredInTables_62 (by decide) ?_
                      exact x_zpret_i G hr hlk rfl h rfl V d_T_isCoveredInTables_63
    replace hl := lv_sub (l' := [(0, .ref (b 0)), (2, .int (a2)), (3, .ref (ad k2)), (4, .int (a1 - 1))]) hl [2, 4, 1, 0] rfl
    refine lp12 _ _ _ ?_ _ _ _ _ ls h hl V
    intro H locs ls h hl V
    refine lv_iconst (v := 0) hx hb d_T_isCoveredInTables_70 (by decide) ?_
    exact x_zpret_i G hr hlk rfl h rfl V d_T_isCoveredInTables_71

set_option maxHeartbeats 40000000 in
set_option maxRecDepth 100000 in
theorem c_T_removeLeaving (l : Launch) (D : va_G) (b ad : Nat → Nat) (cs : Nat → ClassId) (N : Nat) (σ : x_T) (σ' : x_T) (h : f_T_removeLeaving N σ = some σ') : x_Cv l y_T_removeLeaving b_T_removeLeaving 4 none { frames := 0, cells := 0, slots := 0, locals := 0 } D b ad cs σ [.ref (b 0)] σ' := by
  refine x_met_v (own := R_T) (by decide) rfl (Nat.le_of_ble_eq_true rfl) ?_
  intro p e s m args below meth c A G hr hlk hml ls hl V
  have hx := G.1
  have hb := G.2.1
  have hown := G.2.2.1
  have hts := G.2.2.2.1
  have hN := G.2.2.2.2.2
  have hl : lv_has ls 4 [(0, .ref (b 0))] := hl
  unfold f_T_removeLeaving at h
  refine lv_iconst (v := 0) hx hb d_T_removeLeaving_0 (by decide) ?_
  refine lv_istore_n (lv' := [(1, .int (0)), (0, .ref (b 0))]) hx hb d_T_removeLeaving_1 rfl hl (by decide) rfl (fun ls hl => ?_)
  refine lv_iconst (v := 0) hx hb d_T_removeLeaving_2 (by decide) ?_
  refine lv_istore_n (lv' := [(2, .int (0)), (1, .int (0)), (0, .ref (b 0))]) hx hb d_T_removeLeaving_3 rfl hl (by decide) rfl (fun ls hl => ?_)
  have lp4 : ∀ (K : Int32 → x_T → Option x_T) (_ : ∀ (v1 : Int32) (σ : x_T) (H : Heap) (locs : List Loc) (ls : Array Slot), K v1 σ = some σ' → lv_has ls 4 [(0, .ref (b 0)), (1, .int (v1))] → x_V D b ad cs σ A s.heap H locs → W p l e { frames := 0, cells := 0, slots := 0, locals := 0 } s m args below meth c H locs 0 0 (x_Qv below args s D b ad cs A σ') (F0 m 54 ls [])) (n : Nat) (v1 : Int32) (v2 : Int32) (σ : x_T) (H : Heap) (locs : List Loc) (ls : Array Slot), f_T_removeLeaving_L4 N K n v1 v2 σ = some σ' → lv_has ls 4 [(0, .ref (b 0)), (1, .int (v1)), (2, .int (v2))] → x_V D b ad cs σ A s.heap H locs → W p l e { frames := 0, cells := 0, slots := 0, locals := 0 } s m args below meth c H locs 0 0 (x_Qv below args s D b ad cs A σ') (F0 m 4 ls []) := by
    intro K hK n
    induction n with
    | zero => intro v1 v2 σ H locs ls h hl V; cases h
    | succ n ih =>
      intro v1 v2 σ H locs ls h hl V
      rw [f_T_removeLeaving_L4] at h
      refine lv_iload_n hx hb d_T_removeLeaving_4 rfl (lv_at hl 2 rfl) ?_
      refine lv_aload_n hx hb d_T_removeLeaving_5 rfl (lv_at hl 0 rfl) ?_
      refine x_get (v := .int (x_S σ 4)) G V 0 0 4 x_w0 rfl in_T (by decide) k_T_26 rfl d_T_removeLeaving_6 ?_
      refine lv_icmp_ge (tgt := 54) hx hb d_T_removeLeaving_9 (by decide) (fun hc => ?_) (fun hc => ?_)
      · replace h := q_ifp hc h
        exact hK _ _ _ _ ls h (lv_sub hl [0, 1] rfl) V
      · replace h := q_ifn hc h
        refine lv_aload_n hx hb d_T_removeLeaving_12 rfl (lv_at hl 0 rfl) ?_
        refine x_get (v := .ref (b 3)) G V 0 0 3 x_w0 rfl in_T (by decide) k_T_22 rfl d_T_removeLeaving_13 ?_
        refine lv_iload_n hx hb d_T_removeLeaving_16 rfl (lv_at hl 2 rfl) ?_
        obtain ⟨g1, h⟩ := q_gd_h h
        refine x_aald G V g1 d_T_removeLeaving_17 (fun hE => ?_) (fun k2 hE => ?_)
        · replace h := q_omn hE h
          cases h
        · replace h := q_oms hE h
          refine lv_astore_n (lv' := [(3, .ref (ad k2)), (0, .ref (b 0)), (1, .int (v1)), (2, .int (v2))]) hx hb d_T_removeLeaving_18 rfl hl (by decide) rfl (fun ls hl => ?_)
          refine lv_aload_n hx hb d_T_removeLeaving_19 rfl (lv_at hl 0 rfl) ?_
          obtain ⟨b3, h⟩ := q_gd_h h
          replace b3 := q_lt_h b3
          refine x_getN (v := .int (x_P σ k2 11)) G V (15 + k2) 1 11 (x_wE b3) rfl in_E (by decide) k_T_247 rfl d_T_removeLeaving_20 ?_
          refine lv_if_ne (tgt := 48) hx hb d_T_removeLeaving_23 (by decide) (fun hc => ?_) (fun hc => ?_)
          · replace h := q_ifn hc h
            refine lv_iinc (k := 3) (v := v2 + 1) (lv' := [(2, .int (v2 + 1)), (3, .ref (ad k2)), (0, .ref (b 0)), (1, .int (v1))]) hx hb d_T_removeLeaving_48 hl rfl rfl (by decide) rfl (fun ls hl => ?_)
            refine lv_goto (tgt := 4) hx hb d_T_removeLeaving_51 (by decide) ?_
            exact ih _ _ _ _ _ ls h (lv_sub hl [2, 3, 0] rfl) V
          · replace h := q_ifp hc h
            refine lv_aload_n hx hb d_T_removeLeaving_26 rfl (lv_at hl 1 rfl) ?_
            refine x_get (v := .ref (b 3)) G V 0 0 3 x_w0 rfl in_T (by decide) k_T_22 rfl d_T_removeLeaving_27 ?_
            refine lv_iload_n hx hb d_T_removeLeaving_30 rfl (lv_at hl 3 rfl) ?_
            refine lv_aload_n hx hb d_T_removeLeaving_31 rfl (lv_at hl 1 rfl) ?_
            refine x_get (v := .ref (b 3)) G V 0 0 3 x_w0 rfl in_T (by decide) k_T_22 rfl d_T_removeLeaving_32 ?_
            refine lv_iload_n hx hb d_T_removeLeaving_35 rfl (lv_at hl 2 rfl) ?_
            obtain ⟨g4, h⟩ := q_gd_h h
            refine x_aald G V g4 d_T_removeLeaving_36 (fun hE => ?_) (fun k5 hE => ?_)
            · replace h := q_omn hE h
              cases h
            · replace h := q_oms hE h
              obtain ⟨b7, h⟩ := q_gd_h h
              replace b7 := q_lt_h b7
              obtain ⟨g6, h⟩ := q_gd_h h
              obtain ⟨s8, e8, h⟩ := q_let_h h
              refine x_aast (σ' := s8) G V b7 (x_u3.trans (congrArg (x_W b ad cs) e8.symm)) g6 d_T_removeLeaving_37 (fun H locs V => ?_)
              have b9 : k2 < x_N s8 := by rw [e8]; exact b3
              have b10 : k5 < x_N s8 := by rw [e8]; exact b7
              refine lv_aload_n hx hb d_T_removeLeaving_38 rfl (lv_at hl 1 rfl) ?_
              refine x_get (v := .ref (b 3)) G V 0 0 3 x_w0 rfl in_T (by decide) k_T_22 rfl d_T_removeLeaving_39 ?_
              refine lv_iload_n hx hb d_T_removeLeaving_42 rfl (lv_at hl 2 rfl) ?_
              refine lv_aload_n hx hb d_T_removeLeaving_43 rfl (lv_at hl 0 rfl) ?_
              obtain ⟨g11, h⟩ := q_gd_h h
              obtain ⟨s12, e12, h⟩ := q_let_h h
              refine x_aast (σ' := s12) G V b9 (x_u3.trans (congrArg (x_W b ad cs) e12.symm)) g11 d_T_removeLeaving_44 (fun H locs V => ?_)
              have b13 : k2 < x_N s12 := by rw [e12]; exact b9
              have b14 : k5 < x_N s12 := by rw [e12]; exact b10
              refine lv_iinc (k := 2) (v := v1 + 1) (lv' := [(1, .int (v1 + 1)), (3, .ref (ad k2)), (0, .ref (b 0)), (2, .int (v2))]) hx hb d_T_removeLeaving_45 hl rfl rfl (by decide) rfl (fun ls hl => ?_)
              refine lv_iinc (k := 3) (v := v2 + 1) (lv' := [(2, .int (v2 + 1)), (1, .int (v1 + 1)), (3, .ref (ad k2)), (0, .ref (b 0))]) hx hb d_T_removeLeaving_48 hl rfl rfl (by decide) rfl (fun ls hl => ?_)
              refine lv_goto (tgt := 4) hx hb d_T_removeLeaving_51 (by decide) ?_
              exact ih _ _ _ _ _ ls h (lv_sub hl [3, 1, 0] rfl) V
  replace hl := lv_sub (l' := [(0, .ref (b 0)), (1, .int (0)), (2, .int (0))]) hl [2, 1, 0] rfl
  refine lp4 _ ?_ _ _ _ _ _ _ ls h hl V
  intro v1 t15 H locs ls h hl V
  refine lv_aload_n hx hb d_T_removeLeaving_54 rfl (lv_at hl 0 rfl) ?_
  refine lv_iload_n hx hb d_T_removeLeaving_55 rfl (lv_at hl 1 rfl) ?_
  obtain ⟨s16, e16, h⟩ := q_let_h h
  refine x_put (σ' := s16) (ty := .int) G V 0 0 4 x_w0 rfl in_T tt_T_ok n_T (by decide) k_T_26 rfl rfl rfl rfl (Nat.le_of_ble_eq_true rfl) (x_uT4.trans (congrArg (x_W b ad cs) e16.symm)) d_T_removeLeaving_56 (fun H locs V => ?_)
  exact x_ret_v G hr hlk h V d_T_removeLeaving_59

set_option maxHeartbeats 40000000 in
set_option maxRecDepth 100000 in
theorem c_T_mergeTables (l : Launch) (D : va_G) (b ad : Nat → Nat) (cs : Nat → ClassId) (N : Nat) (σ : x_T) (a1 : Int32) (a2 : Int32) (r : Int32) (σ' : x_T) (h : f_T_mergeTables N σ a1 a2 = some (r, σ')) : x_Ci l y_T_mergeTables b_T_mergeTables 7 (some .int) { frames := 2, cells := 0, slots := 0, locals := 43 } D b ad cs σ [.ref (b 0), .int (a1), .int (a2)] r σ' := by
  refine x_met_i (own := R_T) (by decide) rfl (Nat.le_of_ble_eq_true rfl) ?_
  intro p e s m args below meth c A G hr hlk hml ls hl V
  have hx := G.1
  have hb := G.2.1
  have hown := G.2.2.1
  have hts := G.2.2.2.1
  have hN := G.2.2.2.2.2
  have hl : lv_has ls 7 [(0, .ref (b 0)), (1, .int (a1)), (2, .int (a2))] := hl
  unfold f_T_mergeTables at h
  refine lv_iconst (v := 0) hx hb d_T_mergeTables_0 (by decide) ?_
  refine lv_istore_n (lv' := [(3, .int (0)), (0, .ref (b 0)), (1, .int (a1)), (2, .int (a2))]) hx hb d_T_mergeTables_1 rfl hl (by decide) rfl (fun ls hl => ?_)
  refine lv_aload_n hx hb d_T_mergeTables_2 rfl (lv_at hl 1 rfl) ?_
  refine lv_iload_n hx hb d_T_mergeTables_3 rfl (lv_at hl 2 rfl) ?_
  obtain ⟨r2, h1, h⟩ := q_bind h
  refine x_cV_i (As := [.int (a1)]) (rest := []) G V hml (c_T_endOf l D b ad cs N σ a1 r2 h1) 0 0 rfl x_w0 g_T_217 e_T_endOf ⟨Nat.le_of_ble_eq_true rfl, Nat.le_of_ble_eq_true rfl⟩ ⟨rfl, rfl⟩ ⟨Nat.zero_le _, Nat.zero_le _⟩ rfl hl.1 rfl (Nat.le_of_ble_eq_true rfl) d_T_mergeTables_4 (fun H locs V => ?_)
  refine lv_istore (lv' := [(4, .int (r2)), (3, .int (0)), (0, .ref (b 0)), (1, .int (a1)), (2, .int (a2))]) hx hb d_T_mergeTables_7 hl (by decide) rfl (fun ls hl => ?_)
  refine lv_aload_n hx hb d_T_mergeTables_9 rfl (lv_at hl 2 rfl) ?_
  refine lv_iload_n hx hb d_T_mergeTables_10 rfl (lv_at hl 3 rfl) ?_
  obtain ⟨r4, h3, h⟩ := q_bind h
  refine x_cV_i (As := [.int (a1)]) (rest := []) G V hml (c_T_startOf l D b ad cs N σ a1 r4 h3) 0 0 rfl x_w0 g_T_223 e_T_startOf ⟨Nat.le_of_ble_eq_true rfl, Nat.le_of_ble_eq_true rfl⟩ ⟨rfl, rfl⟩ ⟨Nat.zero_le _, Nat.zero_le _⟩ rfl hl.1 rfl (Nat.le_of_ble_eq_true rfl) d_T_mergeTables_11 (fun H locs V => ?_)
  refine lv_istore (lv' := [(5, .int (r4)), (4, .int (r2)), (3, .int (0)), (0, .ref (b 0)), (1, .int (a1)), (2, .int (a2))]) hx hb d_T_mergeTables_14 hl (by decide) rfl (fun ls hl => ?_)
  have lp16 : ∀ (u2 : Int32) (u4 : Int32) (K : Int32 → x_T → Option (Int32 × x_T)) (_ : ∀ (v3 : Int32) (σ : x_T) (H : Heap) (locs : List Loc) (ls : Array Slot), K v3 σ = some (r, σ') → lv_has ls 7 [(0, .ref (b 0)), (3, .int (v3))] → x_V D b ad cs σ A s.heap H locs → W p l e { frames := 2, cells := 0, slots := 0, locals := 43 } s m args below meth c H locs 0 0 (x_Qi below args s D b ad cs A r σ') (F0 m 64 ls [])) (n : Nat) (v3 : Int32) (v5 : Int32) (σ : x_T) (H : Heap) (locs : List Loc) (ls : Array Slot), f_T_mergeTables_L16 N u2 u4 K n v3 v5 σ = some (r, σ') → lv_has ls 7 [(0, .ref (b 0)), (2, .int (u2)), (3, .int (v3)), (4, .int (u4)), (5, .int (v5))] → x_V D b ad cs σ A s.heap H locs → W p l e { frames := 2, cells := 0, slots := 0, locals := 43 } s m args below meth c H locs 0 0 (x_Qi below args s D b ad cs A r σ') (F0 m 16 ls []) := by
    intro u2 u4 K hK n
    induction n with
    | zero => intro v3 v5 σ H locs ls h hl V; cases h
    | succ n ih =>
      intro v3 v5 σ H locs ls h hl V
      rw [f_T_mergeTables_L16] at h
      refine lv_iload hx hb d_T_mergeTables_16 (lv_at hl 4 rfl) ?_
      refine lv_iload hx hb d_T_mergeTables_18 (lv_at hl 3 rfl) ?_
      refine lv_icmp_ge (tgt := 64) hx hb d_T_mergeTables_20 (by decide) (fun hc => ?_) (fun hc => ?_)
      · replace h := q_ifp hc h
        exact hK _ _ _ _ ls h (lv_sub hl [0, 2] rfl) V
      · replace h := q_ifn hc h
        refine lv_aload_n hx hb d_T_mergeTables_23 rfl (lv_at hl 0 rfl) ?_
        refine x_get (v := .ref (b 3)) G V 0 0 3 x_w0 rfl in_T (by decide) k_T_22 rfl d_T_mergeTables_24 ?_
        refine lv_iload hx hb d_T_mergeTables_27 (lv_at hl 4 rfl) ?_
        obtain ⟨g5, h⟩ := q_gd_h h
        refine x_aald G V g5 d_T_mergeTables_29 (fun hE => ?_) (fun k6 hE => ?_)
        · replace h := q_omn hE h
          cases h
        · replace h := q_oms hE h
          refine lv_astore (lv' := [(6, .ref (ad k6)), (0, .ref (b 0)), (2, .int (u2)), (3, .int (v3)), (4, .int (u4)), (5, .int (v5))]) hx hb d_T_mergeTables_30 hl (by decide) rfl (fun ls hl => ?_)
          refine lv_aload hx hb d_T_mergeTables_32 (lv_at hl 0 rfl) ?_
          obtain ⟨b7, h⟩ := q_gd_h h
          replace b7 := q_lt_h b7
          refine x_getN (v := .int (x_P σ k6 8)) G V (15 + k6) 1 8 (x_wE b7) rfl in_E (by decide) k_T_226 rfl d_T_mergeTables_34 ?_
          refine lv_iload_n hx hb d_T_mergeTables_37 rfl (lv_at hl 2 rfl) ?_
          refine lv_icmp_lt (tgt := 58) hx hb d_T_mergeTables_38 (by decide) (fun hc => ?_) (fun hc => ?_)
          · replace h := q_ifp hc h
            refine lv_iinc (k := 5) (v := v5 + 1) (lv' := [(5, .int (v5 + 1)), (6, .ref (ad k6)), (0, .ref (b 0)), (2, .int (u2)), (3, .int (v3)), (4, .int (u4))]) hx hb d_T_mergeTables_58 hl rfl rfl (by decide) rfl (fun ls hl => ?_)
            refine lv_goto (tgt := 16) hx hb d_T_mergeTables_61 (by decide) ?_
            exact ih _ _ _ _ _ ls h (lv_sub hl [2, 3, 4, 5, 0] rfl) V
          · replace h := q_ifn hc h
            refine lv_aload hx hb d_T_mergeTables_41 (lv_at hl 0 rfl) ?_
            refine x_getN (v := .int (x_P σ k6 11)) G V (15 + k6) 1 11 (x_wE b7) rfl in_E (by decide) k_T_247 rfl d_T_mergeTables_43 ?_
            refine lv_if_ne (tgt := 58) hx hb d_T_mergeTables_46 (by decide) (fun hc => ?_) (fun hc => ?_)
            · replace h := q_ifn hc h
              refine lv_iinc (k := 5) (v := v5 + 1) (lv' := [(5, .int (v5 + 1)), (6, .ref (ad k6)), (0, .ref (b 0)), (2, .int (u2)), (3, .int (v3)), (4, .int (u4))]) hx hb d_T_mergeTables_58 hl rfl rfl (by decide) rfl (fun ls hl => ?_)
              refine lv_goto (tgt := 16) hx hb d_T_mergeTables_61 (by decide) ?_
              exact ih _ _ _ _ _ ls h (lv_sub hl [2, 3, 4, 5, 0] rfl) V
            · replace h := q_ifp hc h
              refine lv_aload hx hb d_T_mergeTables_49 (lv_at hl 0 rfl) ?_
              refine lv_iload_n hx hb d_T_mergeTables_51 rfl (lv_at hl 2 rfl) ?_
              obtain ⟨s8, e8, h⟩ := q_let_h h
              refine x_putN (σ' := s8) (ty := .int) G V (15 + k6) 1 8 (x_wE b7) rfl in_E tt_E_ok n_E (by decide) k_T_226 rfl rfl rfl rfl (Nat.le_of_ble_eq_true rfl) (x_uE8.trans (congrArg (x_W b ad cs) e8.symm)) d_T_mergeTables_52 (fun H locs V => ?_)
              have b9 : k6 < x_N s8 := by rw [e8]; exact b7
              refine lv_iinc (k := 3) (v := v3 + 1) (lv' := [(3, .int (v3 + 1)), (6, .ref (ad k6)), (0, .ref (b 0)), (2, .int (u2)), (4, .int (u4)), (5, .int (v5))]) hx hb d_T_mergeTables_55 hl rfl rfl (by decide) rfl (fun ls hl => ?_)
              refine lv_iinc (k := 5) (v := v5 + 1) (lv' := [(5, .int (v5 + 1)), (3, .int (v3 + 1)), (6, .ref (ad k6)), (0, .ref (b 0)), (2, .int (u2)), (4, .int (u4))]) hx hb d_T_mergeTables_58 hl rfl rfl (by decide) rfl (fun ls hl => ?_)
              refine lv_goto (tgt := 16) hx hb d_T_mergeTables_61 (by decide) ?_
              exact ih _ _ _ _ _ ls h (lv_sub hl [3, 4, 1, 5, 0] rfl) V
  replace hl := lv_sub (l' := [(0, .ref (b 0)), (2, .int (a2)), (3, .int (0)), (4, .int (r2)), (5, .int (r4))]) hl [3, 5, 2, 1, 0] rfl
  refine lp16 _ _ _ ?_ _ _ _ _ _ _ ls h hl V
  intro v3 t10 H locs ls h hl V
  refine lv_aload_n hx hb d_T_mergeTables_64 rfl (lv_at hl 0 rfl) ?_
  obtain ⟨s12, h11, h⟩ := q_bind h
  refine x_cV_v (As := []) (rest := []) G V hml (c_T_removeLeaving l D b ad cs N t10 s12 h11) 0 0 rfl x_w0 g_T_262 e_T_removeLeaving ⟨Nat.le_of_ble_eq_true rfl, Nat.le_of_ble_eq_true rfl⟩ ⟨rfl, rfl⟩ ⟨Nat.zero_le _, Nat.zero_le _⟩ rfl hl.1 rfl (Nat.le_of_ble_eq_true rfl) d_T_mergeTables_65 (fun H locs V => ?_)
  refine lv_iload_n hx hb d_T_mergeTables_68 rfl (lv_at hl 1 rfl) ?_
  exact x_ret_i G hr hlk h V d_T_mergeTables_69

set_option maxHeartbeats 40000000 in
set_option maxRecDepth 100000 in
theorem c_T_compact (l : Launch) (D : va_G) (b ad : Nat → Nat) (cs : Nat → ClassId) (N : Nat) (σ : x_T) (a1 : Int32) (a2 : Int32) (r : Int32) (σ' : x_T) (h : f_T_compact N σ a1 a2 = some (r, σ')) : x_Ci l y_T_compact b_T_compact 7 (some .int) { frames := 3, cells := 0, slots := 0, locals := 69 } D b ad cs σ [.ref (b 0), .int (a1), .int (a2)] r σ' := by
  refine x_met_i (own := R_T) (by decide) rfl (Nat.le_of_ble_eq_true rfl) ?_
  intro p e s m args below meth c A G hr hlk hml ls hl V
  have hx := G.1
  have hb := G.2.1
  have hown := G.2.2.1
  have hts := G.2.2.2.1
  have hN := G.2.2.2.2.2
  have hl : lv_has ls 7 [(0, .ref (b 0)), (1, .int (a1)), (2, .int (a2))] := hl
  unfold f_T_compact at h
  refine lv_aload_n hx hb d_T_compact_0 rfl (lv_at hl 0 rfl) ?_
  refine lv_iload_n hx hb d_T_compact_1 rfl (lv_at hl 1 rfl) ?_
  obtain ⟨r2, h1, h⟩ := q_bind h
  refine x_cV_i (As := [.int (a1)]) (rest := []) G V hml (c_T_isTablet l D b ad cs N σ a1 r2 h1) 0 0 rfl x_w0 g_T_235 e_T_isTablet ⟨Nat.le_of_ble_eq_true rfl, Nat.le_of_ble_eq_true rfl⟩ ⟨rfl, rfl⟩ ⟨Nat.zero_le _, Nat.zero_le _⟩ rfl hl.1 rfl (Nat.le_of_ble_eq_true rfl) d_T_compact_2 (fun H locs V => ?_)
  refine lv_if_eq (tgt := 22) hx hb d_T_compact_5 (by decide) (fun hc => ?_) (fun hc => ?_)
  · replace h := q_ifp hc h
    refine lv_iconst (v := (-1)) hx hb d_T_compact_22 (by decide) ?_
    exact x_ret_i G hr hlk h V d_T_compact_23
  · replace h := q_ifn hc h
    refine lv_iload_n hx hb d_T_compact_8 rfl (lv_at hl 2 rfl) ?_
    refine lv_iconst (v := 2) hx hb d_T_compact_9 (by decide) ?_
    refine lv_icmp_lt (tgt := 22) hx hb d_T_compact_10 (by decide) (fun hc => ?_) (fun hc => ?_)
    · replace h := q_ifp hc h
      refine lv_iconst (v := (-1)) hx hb d_T_compact_22 (by decide) ?_
      exact x_ret_i G hr hlk h V d_T_compact_23
    · replace h := q_ifn hc h
      refine lv_iload_n hx hb d_T_compact_13 rfl (lv_at hl 2 rfl) ?_
      refine lv_aload_n hx hb d_T_compact_14 rfl (lv_at hl 0 rfl) ?_
      refine lv_iload_n hx hb d_T_compact_15 rfl (lv_at hl 1 rfl) ?_
      obtain ⟨r4, h3, h⟩ := q_bind h
      refine x_cV_i (As := [.int (a1)]) (rest := [.int (a2)]) G V hml (c_T_tableCount l D b ad cs N σ a1 r4 h3) 0 0 rfl x_w0 g_T_238 e_T_tableCount ⟨Nat.le_of_ble_eq_true rfl, Nat.le_of_ble_eq_true rfl⟩ ⟨rfl, rfl⟩ ⟨Nat.zero_le _, Nat.zero_le _⟩ rfl hl.1 rfl (Nat.le_of_ble_eq_true rfl) d_T_compact_16 (fun H locs V => ?_)
      refine lv_icmp_le (tgt := 24) hx hb d_T_compact_19 (by decide) (fun hc => ?_) (fun hc => ?_)
      · replace h := q_ifp hc h
        refine lv_aload_n hx hb d_T_compact_24 rfl (lv_at hl 0 rfl) ?_
        refine lv_iload_n hx hb d_T_compact_25 rfl (lv_at hl 1 rfl) ?_
        obtain ⟨r6, h5, h⟩ := q_bind h
        refine x_cV_i (As := [.int (a1)]) (rest := []) G V hml (c_T_tableCount l D b ad cs N σ a1 r6 h5) 0 0 rfl x_w0 g_T_238 e_T_tableCount ⟨Nat.le_of_ble_eq_true rfl, Nat.le_of_ble_eq_true rfl⟩ ⟨rfl, rfl⟩ ⟨Nat.zero_le _, Nat.zero_le _⟩ rfl hl.1 rfl (Nat.le_of_ble_eq_true rfl) d_T_compact_26 (fun H locs V => ?_)
        refine lv_iload_n hx hb d_T_compact_29 rfl (lv_at hl 2 rfl) ?_
        refine lv_isub hx hb d_T_compact_30 ?_
        refine lv_istore_n (lv' := [(3, .int (r6 - a2)), (0, .ref (b 0)), (1, .int (a1)), (2, .int (a2))]) hx hb d_T_compact_31 rfl hl (by decide) rfl (fun ls hl => ?_)
        refine lv_aload_n hx hb d_T_compact_32 rfl (lv_at hl 1 rfl) ?_
        refine lv_iload_n hx hb d_T_compact_33 rfl (lv_at hl 2 rfl) ?_
        obtain ⟨r8, h7, h⟩ := q_bind h
        refine x_cV_i (As := [.int (a1)]) (rest := []) G V hml (c_T_endOf l D b ad cs N σ a1 r8 h7) 0 0 rfl x_w0 g_T_217 e_T_endOf ⟨Nat.le_of_ble_eq_true rfl, Nat.le_of_ble_eq_true rfl⟩ ⟨rfl, rfl⟩ ⟨Nat.zero_le _, Nat.zero_le _⟩ rfl hl.1 rfl (Nat.le_of_ble_eq_true rfl) d_T_compact_34 (fun H locs V => ?_)
        refine lv_istore (lv' := [(4, .int (r8)), (3, .int (r6 - a2)), (0, .ref (b 0)), (1, .int (a1)), (2, .int (a2))]) hx hb d_T_compact_37 hl (by decide) rfl (fun ls hl => ?_)
        refine lv_aload_n hx hb d_T_compact_39 rfl (lv_at hl 2 rfl) ?_
        refine lv_iload_n hx hb d_T_compact_40 rfl (lv_at hl 3 rfl) ?_
        obtain ⟨r10, h9, h⟩ := q_bind h
        refine x_cV_i (As := [.int (a1)]) (rest := []) G V hml (c_T_startOf l D b ad cs N σ a1 r10 h9) 0 0 rfl x_w0 g_T_223 e_T_startOf ⟨Nat.le_of_ble_eq_true rfl, Nat.le_of_ble_eq_true rfl⟩ ⟨rfl, rfl⟩ ⟨Nat.zero_le _, Nat.zero_le _⟩ rfl hl.1 rfl (Nat.le_of_ble_eq_true rfl) d_T_compact_41 (fun H locs V => ?_)
        refine lv_istore (lv' := [(5, .int (r10)), (4, .int (r8)), (3, .int (r6 - a2)), (0, .ref (b 0)), (1, .int (a1)), (2, .int (a2))]) hx hb d_T_compact_44 hl (by decide) rfl (fun ls hl => ?_)
        have lp46 : ∀ (u1 : Int32) (u3 : Int32) (u4 : Int32) (K : x_T → Option (Int32 × x_T)) (_ : ∀ (σ : x_T) (H : Heap) (locs : List Loc) (ls : Array Slot), K σ = some (r, σ') → lv_has ls 7 [(0, .ref (b 0)), (1, .int (u1)), (3, .int (u3))] → x_V D b ad cs σ A s.heap H locs → W p l e { frames := 3, cells := 0, slots := 0, locals := 69 } s m args below meth c H locs 0 0 (x_Qi below args s D b ad cs A r σ') (F0 m 106 ls [])) (n : Nat) (v5 : Int32) (σ : x_T) (H : Heap) (locs : List Loc) (ls : Array Slot), f_T_compact_L46 N u1 u3 u4 K n v5 σ = some (r, σ') → lv_has ls 7 [(0, .ref (b 0)), (1, .int (u1)), (3, .int (u3)), (4, .int (u4)), (5, .int (v5))] → x_V D b ad cs σ A s.heap H locs → W p l e { frames := 3, cells := 0, slots := 0, locals := 69 } s m args below meth c H locs 0 0 (x_Qi below args s D b ad cs A r σ') (F0 m 46 ls []) := by
          intro u1 u3 u4 K hK n
          induction n with
          | zero => intro v5 σ H locs ls h hl V; cases h
          | succ n ih =>
            intro v5 σ H locs ls h hl V
            rw [f_T_compact_L46] at h
            refine lv_iload hx hb d_T_compact_46 (lv_at hl 4 rfl) ?_
            refine lv_iload hx hb d_T_compact_48 (lv_at hl 3 rfl) ?_
            refine lv_icmp_ge (tgt := 106) hx hb d_T_compact_50 (by decide) (fun hc => ?_) (fun hc => ?_)
            · replace h := q_ifp hc h
              exact hK _ _ _ ls h (lv_sub hl [0, 1, 2] rfl) V
            · replace h := q_ifn hc h
              refine lv_aload_n hx hb d_T_compact_53 rfl (lv_at hl 0 rfl) ?_
              refine x_get (v := .ref (b 3)) G V 0 0 3 x_w0 rfl in_T (by decide) k_T_22 rfl d_T_compact_54 ?_
              refine lv_iload hx hb d_T_compact_57 (lv_at hl 4 rfl) ?_
              obtain ⟨g11, h⟩ := q_gd_h h
              refine x_aald G V g11 d_T_compact_59 (fun hE => ?_) (fun k12 hE => ?_)
              · replace h := q_omn hE h
                cases h
              · replace h := q_oms hE h
                refine lv_astore (lv' := [(6, .ref (ad k12)), (0, .ref (b 0)), (1, .int (u1)), (3, .int (u3)), (4, .int (u4)), (5, .int (v5))]) hx hb d_T_compact_60 hl (by decide) rfl (fun ls hl => ?_)
                refine lv_aload hx hb d_T_compact_62 (lv_at hl 0 rfl) ?_
                refine lv_aload hx hb d_T_compact_64 (lv_at hl 0 rfl) ?_
                obtain ⟨b13, h⟩ := q_gd_h h
                replace b13 := q_lt_h b13
                refine x_getN (v := .int (x_P σ k12 8)) G V (15 + k12) 1 8 (x_wE b13) rfl in_E (by decide) k_T_226 rfl d_T_compact_66 ?_
                refine lv_iload_n hx hb d_T_compact_69 rfl (lv_at hl 3 rfl) ?_
                refine lv_icmp_lt (tgt := 96) hx hb d_T_compact_70 (by decide) (fun hc => ?_) (fun hc => ?_)
                · replace h := q_ifp hc h
                  refine lv_iconst (v := 0) hx hb d_T_compact_96 (by decide) ?_
                  obtain ⟨s14, e14, h⟩ := q_let_h h
                  refine x_putN (σ' := s14) (ty := .boolean) G V (15 + k12) 1 11 (x_wE b13) rfl in_E tt_E_ok n_E (by decide) k_T_247 rfl rfl rfl rfl (Nat.le_of_ble_eq_true rfl) (x_uE11.trans (congrArg (x_W b ad cs) e14.symm)) d_T_compact_97 (fun H locs V => ?_)
                  have b15 : k12 < x_N s14 := by rw [e14]; exact b13
                  refine lv_iinc (k := 5) (v := v5 + 1) (lv' := [(5, .int (v5 + 1)), (6, .ref (ad k12)), (0, .ref (b 0)), (1, .int (u1)), (3, .int (u3)), (4, .int (u4))]) hx hb d_T_compact_100 hl rfl rfl (by decide) rfl (fun ls hl => ?_)
                  refine lv_goto (tgt := 46) hx hb d_T_compact_103 (by decide) ?_
                  exact ih _ _ _ _ ls h (lv_sub hl [2, 3, 4, 5, 0] rfl) V
                · replace h := q_ifn hc h
                  refine lv_aload_n hx hb d_T_compact_73 rfl (lv_at hl 1 rfl) ?_
                  refine lv_aload hx hb d_T_compact_74 (lv_at hl 0 rfl) ?_
                  obtain ⟨r17, h16, h⟩ := q_bind h
                  refine x_cV_i (As := [.ref (ad k12)]) (rest := [.ref (ad k12)]) G V hml (c_T_isOldCell l D b ad cs N σ k12 r17 h16) 0 0 rfl x_w0 g_T_241 e_T_isOldCell ⟨Nat.le_of_ble_eq_true rfl, Nat.le_of_ble_eq_true rfl⟩ ⟨rfl, rfl⟩ ⟨Nat.zero_le _, Nat.zero_le _⟩ rfl hl.1 rfl (Nat.le_of_ble_eq_true rfl) d_T_compact_76 (fun H locs V => ?_)
                  refine lv_if_ne (tgt := 92) hx hb d_T_compact_79 (by decide) (fun hc => ?_) (fun hc => ?_)
                  · replace h := q_ifn hc h
                    refine lv_iconst (v := 1) hx hb d_T_compact_92 (by decide) ?_
                    refine lv_goto (tgt := 97) hx hb d_T_compact_93 (by decide) ?_
                    obtain ⟨s18, e18, h⟩ := q_let_h h
                    refine x_putN (σ' := s18) (ty := .boolean) G V (15 + k12) 1 11 (x_wE b13) rfl in_E tt_E_ok n_E (by decide) k_T_247 rfl rfl rfl rfl (Nat.le_of_ble_eq_true rfl) (x_uE11.trans (congrArg (x_W b ad cs) e18.symm)) d_T_compact_97 (fun H locs V => ?_)
                    have b19 : k12 < x_N s18 := by rw [e18]; exact b13
                    refine lv_iinc (k := 5) (v := v5 + 1) (lv' := [(5, .int (v5 + 1)), (6, .ref (ad k12)), (0, .ref (b 0)), (1, .int (u1)), (3, .int (u3)), (4, .int (u4))]) hx hb d_T_compact_100 hl rfl rfl (by decide) rfl (fun ls hl => ?_)
                    refine lv_goto (tgt := 46) hx hb d_T_compact_103 (by decide) ?_
                    exact ih _ _ _ _ ls h (lv_sub hl [2, 3, 4, 5, 0] rfl) V
                  · replace h := q_ifp hc h
                    refine lv_aload_n hx hb d_T_compact_82 rfl (lv_at hl 1 rfl) ?_
                    refine lv_iload hx hb d_T_compact_83 (lv_at hl 5 rfl) ?_
                    refine lv_iload_n hx hb d_T_compact_85 rfl (lv_at hl 3 rfl) ?_
                    obtain ⟨r21, h20, h⟩ := q_bind h
                    refine x_cV_i (As := [.int (v5), .int (u3)]) (rest := [.ref (ad k12)]) G V hml (c_T_isCoveredInTables l D b ad cs N σ v5 u3 r21 h20) 0 0 rfl x_w0 g_T_244 e_T_isCoveredInTables ⟨Nat.le_of_ble_eq_true rfl, Nat.le_of_ble_eq_true rfl⟩ ⟨rfl, rfl⟩ ⟨Nat.zero_le _, Nat.zero_le _⟩ rfl hl.1 rfl (Nat.le_of_ble_eq_true rfl) d_T_compact_86 (fun H locs V => ?_)
                    refine lv_if_eq (tgt := 96) hx hb d_T_compact_89 (by decide) (fun hc => ?_) (fun hc => ?_)
                    · replace h := q_ifp hc h
                      refine lv_iconst (v := 0) hx hb d_T_compact_96 (by decide) ?_
                      obtain ⟨s22, e22, h⟩ := q_let_h h
                      refine x_putN (σ' := s22) (ty := .boolean) G V (15 + k12) 1 11 (x_wE b13) rfl in_E tt_E_ok n_E (by decide) k_T_247 rfl rfl rfl rfl (Nat.le_of_ble_eq_true rfl) (x_uE11.trans (congrArg (x_W b ad cs) e22.symm)) d_T_compact_97 (fun H locs V => ?_)
                      have b23 : k12 < x_N s22 := by rw [e22]; exact b13
                      refine lv_iinc (k := 5) (v := v5 + 1) (lv' := [(5, .int (v5 + 1)), (6, .ref (ad k12)), (0, .ref (b 0)), (1, .int (u1)), (3, .int (u3)), (4, .int (u4))]) hx hb d_T_compact_100 hl rfl rfl (by decide) rfl (fun ls hl => ?_)
                      refine lv_goto (tgt := 46) hx hb d_T_compact_103 (by decide) ?_
                      exact ih _ _ _ _ ls h (lv_sub hl [2, 3, 4, 5, 0] rfl) V
                    · replace h := q_ifn hc h
                      refine lv_iconst (v := 1) hx hb d_T_compact_92 (by decide) ?_
                      refine lv_goto (tgt := 97) hx hb d_T_compact_93 (by decide) ?_
                      obtain ⟨s24, e24, h⟩ := q_let_h h
                      refine x_putN (σ' := s24) (ty := .boolean) G V (15 + k12) 1 11 (x_wE b13) rfl in_E tt_E_ok n_E (by decide) k_T_247 rfl rfl rfl rfl (Nat.le_of_ble_eq_true rfl) (x_uE11.trans (congrArg (x_W b ad cs) e24.symm)) d_T_compact_97 (fun H locs V => ?_)
                      have b25 : k12 < x_N s24 := by rw [e24]; exact b13
                      refine lv_iinc (k := 5) (v := v5 + 1) (lv' := [(5, .int (v5 + 1)), (6, .ref (ad k12)), (0, .ref (b 0)), (1, .int (u1)), (3, .int (u3)), (4, .int (u4))]) hx hb d_T_compact_100 hl rfl rfl (by decide) rfl (fun ls hl => ?_)
                      refine lv_goto (tgt := 46) hx hb d_T_compact_103 (by decide) ?_
                      exact ih _ _ _ _ ls h (lv_sub hl [2, 3, 4, 5, 0] rfl) V
        replace hl := lv_sub (l' := [(0, .ref (b 0)), (1, .int (a1)), (3, .int (r6 - a2)), (4, .int (r8)), (5, .int (r10))]) hl [3, 4, 2, 1, 0] rfl
        refine lp46 _ _ _ _ ?_ _ _ _ _ _ ls h hl V
        intro t26 H locs ls h hl V
        refine lv_aload_n hx hb d_T_compact_106 rfl (lv_at hl 0 rfl) ?_
        refine lv_iload_n hx hb d_T_compact_107 rfl (lv_at hl 1 rfl) ?_
        refine lv_iload_n hx hb d_T_compact_108 rfl (lv_at hl 2 rfl) ?_
        obtain ⟨q28, h27, h⟩ := q_bind h
        refine x_cV_i (As := [.int (a1), .int (r6 - a2)]) (rest := []) G V hml (c_T_mergeTables l D b ad cs N t26 a1 (r6 - a2) q28.1 q28.2 h27) 0 0 rfl x_w0 g_T_250 e_T_mergeTables ⟨Nat.le_of_ble_eq_true rfl, Nat.le_of_ble_eq_true rfl⟩ ⟨rfl, rfl⟩ ⟨Nat.zero_le _, Nat.zero_le _⟩ rfl hl.1 rfl (Nat.le_of_ble_eq_true rfl) d_T_compact_109 (fun H locs V => ?_)
        exact x_ret_i G hr hlk h V d_T_compact_112
      · replace h := q_ifn hc h
        refine lv_iconst (v := (-1)) hx hb d_T_compact_22 (by decide) ?_
        exact x_ret_i G hr hlk h V d_T_compact_23

set_option maxHeartbeats 40000000 in
set_option maxRecDepth 100000 in
theorem c_T_major (l : Launch) (D : va_G) (b ad : Nat → Nat) (cs : Nat → ClassId) (N : Nat) (σ : x_T) (a1 : Int32) (r : Int32) (σ' : x_T) (h : f_T_major N σ a1 = some (r, σ')) : x_Ci l y_T_major b_T_major 4 (some .int) { frames := 4, cells := 0, slots := 0, locals := 93 } D b ad cs σ [.ref (b 0), .int (a1)] r σ' := by
  refine x_met_i (own := R_T) (by decide) rfl (Nat.le_of_ble_eq_true rfl) ?_
  intro p e s m args below meth c A G hr hlk hml ls hl V
  have hx := G.1
  have hb := G.2.1
  have hown := G.2.2.1
  have hts := G.2.2.2.1
  have hN := G.2.2.2.2.2
  have hl : lv_has ls 4 [(0, .ref (b 0)), (1, .int (a1))] := hl
  unfold f_T_major at h
  refine lv_aload_n hx hb d_T_major_0 rfl (lv_at hl 0 rfl) ?_
  refine lv_iload_n hx hb d_T_major_1 rfl (lv_at hl 1 rfl) ?_
  obtain ⟨r2, h1, h⟩ := q_bind h
  refine x_cV_i (As := [.int (a1)]) (rest := []) G V hml (c_T_isTablet l D b ad cs N σ a1 r2 h1) 0 0 rfl x_w0 g_T_235 e_T_isTablet ⟨Nat.le_of_ble_eq_true rfl, Nat.le_of_ble_eq_true rfl⟩ ⟨rfl, rfl⟩ ⟨Nat.zero_le _, Nat.zero_le _⟩ rfl hl.1 rfl (Nat.le_of_ble_eq_true rfl) d_T_major_2 (fun H locs V => ?_)
  refine lv_if_ne (tgt := 10) hx hb d_T_major_5 (by decide) (fun hc => ?_) (fun hc => ?_)
  · replace h := q_ifn hc h
    refine lv_aload_n hx hb d_T_major_10 rfl (lv_at hl 0 rfl) ?_
    refine lv_iload_n hx hb d_T_major_11 rfl (lv_at hl 1 rfl) ?_
    obtain ⟨q4, h3, h⟩ := q_bind h
    refine x_cV_i (As := [.int (a1)]) (rest := []) G V hml (c_T_flushTablet l D b ad cs N σ a1 q4.1 q4.2 h3) 0 0 rfl x_w0 g_T_152 e_T_flushTablet ⟨Nat.le_of_ble_eq_true rfl, Nat.le_of_ble_eq_true rfl⟩ ⟨rfl, rfl⟩ ⟨Nat.zero_le _, Nat.zero_le _⟩ rfl hl.1 rfl (Nat.le_of_ble_eq_true rfl) d_T_major_12 (fun H locs V => ?_)
    refine lv_pop hx hb d_T_major_15 rfl ?_
    refine lv_aload_n hx hb d_T_major_16 rfl (lv_at hl 0 rfl) ?_
    refine lv_iload_n hx hb d_T_major_17 rfl (lv_at hl 1 rfl) ?_
    obtain ⟨r6, h5, h⟩ := q_bind h
    refine x_cV_i (As := [.int (a1)]) (rest := []) G V hml (c_T_endOf l D b ad cs N q4.2 a1 r6 h5) 0 0 rfl x_w0 g_T_217 e_T_endOf ⟨Nat.le_of_ble_eq_true rfl, Nat.le_of_ble_eq_true rfl⟩ ⟨rfl, rfl⟩ ⟨Nat.zero_le _, Nat.zero_le _⟩ rfl hl.1 rfl (Nat.le_of_ble_eq_true rfl) d_T_major_18 (fun H locs V => ?_)
    refine lv_istore_n (lv' := [(2, .int (r6)), (0, .ref (b 0)), (1, .int (a1))]) hx hb d_T_major_21 rfl hl (by decide) rfl (fun ls hl => ?_)
    refine lv_aload_n hx hb d_T_major_22 rfl (lv_at hl 1 rfl) ?_
    refine lv_iload_n hx hb d_T_major_23 rfl (lv_at hl 2 rfl) ?_
    obtain ⟨r8, h7, h⟩ := q_bind h
    refine x_cV_i (As := [.int (a1)]) (rest := []) G V hml (c_T_startOf l D b ad cs N q4.2 a1 r8 h7) 0 0 rfl x_w0 g_T_223 e_T_startOf ⟨Nat.le_of_ble_eq_true rfl, Nat.le_of_ble_eq_true rfl⟩ ⟨rfl, rfl⟩ ⟨Nat.zero_le _, Nat.zero_le _⟩ rfl hl.1 rfl (Nat.le_of_ble_eq_true rfl) d_T_major_24 (fun H locs V => ?_)
    refine lv_istore_n (lv' := [(3, .int (r8)), (2, .int (r6)), (0, .ref (b 0)), (1, .int (a1))]) hx hb d_T_major_27 rfl hl (by decide) rfl (fun ls hl => ?_)
    have lp28 : ∀ (u1 : Int32) (u2 : Int32) (K : x_T → Option (Int32 × x_T)) (_ : ∀ (σ : x_T) (H : Heap) (locs : List Loc) (ls : Array Slot), K σ = some (r, σ') → lv_has ls 4 [(0, .ref (b 0)), (1, .int (u1))] → x_V D b ad cs σ A s.heap H locs → W p l e { frames := 4, cells := 0, slots := 0, locals := 93 } s m args below meth c H locs 0 0 (x_Qi below args s D b ad cs A r σ') (F0 m 66 ls [])) (n : Nat) (v3 : Int32) (σ : x_T) (H : Heap) (locs : List Loc) (ls : Array Slot), f_T_major_L28 N u1 u2 K n v3 σ = some (r, σ') → lv_has ls 4 [(0, .ref (b 0)), (1, .int (u1)), (2, .int (u2)), (3, .int (v3))] → x_V D b ad cs σ A s.heap H locs → W p l e { frames := 4, cells := 0, slots := 0, locals := 93 } s m args below meth c H locs 0 0 (x_Qi below args s D b ad cs A r σ') (F0 m 28 ls []) := by
      intro u1 u2 K hK n
      induction n with
      | zero => intro v3 σ H locs ls h hl V; cases h
      | succ n ih =>
        intro v3 σ H locs ls h hl V
        rw [f_T_major_L28] at h
        refine lv_iload_n hx hb d_T_major_28 rfl (lv_at hl 3 rfl) ?_
        refine lv_iload_n hx hb d_T_major_29 rfl (lv_at hl 2 rfl) ?_
        refine lv_icmp_ge (tgt := 66) hx hb d_T_major_30 (by decide) (fun hc => ?_) (fun hc => ?_)
        · replace h := q_ifp hc h
          exact hK _ _ _ ls h (lv_sub hl [0, 1] rfl) V
        · replace h := q_ifn hc h
          refine lv_aload_n hx hb d_T_major_33 rfl (lv_at hl 0 rfl) ?_
          refine x_get (v := .ref (b 3)) G V 0 0 3 x_w0 rfl in_T (by decide) k_T_22 rfl d_T_major_34 ?_
          refine lv_iload_n hx hb d_T_major_37 rfl (lv_at hl 3 rfl) ?_
          obtain ⟨g9, h⟩ := q_gd_h h
          refine x_aald G V g9 d_T_major_38 (fun hE => ?_) (fun k10 hE => ?_)
          · replace h := q_omn hE h
            cases h
          · replace h := q_oms hE h
            refine lv_aload_n hx hb d_T_major_39 rfl (lv_at hl 0 rfl) ?_
            refine lv_aload_n hx hb d_T_major_40 rfl (lv_at hl 0 rfl) ?_
            refine x_get (v := .ref (b 3)) G V 0 0 3 x_w0 rfl in_T (by decide) k_T_22 rfl d_T_major_41 ?_
            refine lv_iload_n hx hb d_T_major_44 rfl (lv_at hl 3 rfl) ?_
            obtain ⟨g11, h⟩ := q_gd_h h
            refine x_aald G V g11 d_T_major_45 (fun hE => ?_) (fun k12 hE => ?_)
            · replace h := q_omn hE h
              cases h
            · replace h := q_oms hE h
              obtain ⟨r14, h13, h⟩ := q_bind h
              refine x_cV_i (As := [.ref (ad k12)]) (rest := [.ref (ad k10)]) G V hml (c_T_isLive l D b ad cs N σ k12 r14 h13) 0 0 rfl x_w0 g_T_206 e_T_isLive ⟨Nat.le_of_ble_eq_true rfl, Nat.le_of_ble_eq_true rfl⟩ ⟨rfl, rfl⟩ ⟨Nat.zero_le _, Nat.zero_le _⟩ rfl hl.1 rfl (Nat.le_of_ble_eq_true rfl) d_T_major_46 (fun H locs V => ?_)
              refine lv_if_ne (tgt := 56) hx hb d_T_major_49 (by decide) (fun hc => ?_) (fun hc => ?_)
              · replace h := q_ifn hc h
                refine lv_iconst (v := 0) hx hb d_T_major_56 (by decide) ?_
                obtain ⟨b15, h⟩ := q_gd_h h
                replace b15 := q_lt_h b15
                obtain ⟨s16, e16, h⟩ := q_let_h h
                refine x_putN (σ' := s16) (ty := .boolean) G V (15 + k10) 1 11 (x_wE b15) rfl in_E tt_E_ok n_E (by decide) k_T_247 rfl rfl rfl rfl (Nat.le_of_ble_eq_true rfl) (x_uE11.trans (congrArg (x_W b ad cs) e16.symm)) d_T_major_57 (fun H locs V => ?_)
                have b17 : k10 < x_N s16 := by rw [e16]; exact b15
                refine lv_iinc (k := 3) (v := v3 + 1) (lv' := [(3, .int (v3 + 1)), (0, .ref (b 0)), (1, .int (u1)), (2, .int (u2))]) hx hb d_T_major_60 hl rfl rfl (by decide) rfl (fun ls hl => ?_)
                refine lv_goto (tgt := 28) hx hb d_T_major_63 (by decide) ?_
                exact ih _ _ _ _ ls h (lv_sub hl [1, 2, 3, 0] rfl) V
              · replace h := q_ifp hc h
                refine lv_iconst (v := 1) hx hb d_T_major_52 (by decide) ?_
                refine lv_goto (tgt := 57) hx hb d_T_major_53 (by decide) ?_
                obtain ⟨b18, h⟩ := q_gd_h h
                replace b18 := q_lt_h b18
                obtain ⟨s19, e19, h⟩ := q_let_h h
                refine x_putN (σ' := s19) (ty := .boolean) G V (15 + k10) 1 11 (x_wE b18) rfl in_E tt_E_ok n_E (by decide) k_T_247 rfl rfl rfl rfl (Nat.le_of_ble_eq_true rfl) (x_uE11.trans (congrArg (x_W b ad cs) e19.symm)) d_T_major_57 (fun H locs V => ?_)
                have b20 : k10 < x_N s19 := by rw [e19]; exact b18
                refine lv_iinc (k := 3) (v := v3 + 1) (lv' := [(3, .int (v3 + 1)), (0, .ref (b 0)), (1, .int (u1)), (2, .int (u2))]) hx hb d_T_major_60 hl rfl rfl (by decide) rfl (fun ls hl => ?_)
                refine lv_goto (tgt := 28) hx hb d_T_major_63 (by decide) ?_
                exact ih _ _ _ _ ls h (lv_sub hl [1, 2, 3, 0] rfl) V
    replace hl := lv_sub (l' := [(0, .ref (b 0)), (1, .int (a1)), (2, .int (r6)), (3, .int (r8))]) hl [2, 3, 1, 0] rfl
    refine lp28 _ _ _ ?_ _ _ _ _ _ ls h hl V
    intro t21 H locs ls h hl V
    refine lv_aload_n hx hb d_T_major_66 rfl (lv_at hl 0 rfl) ?_
    refine lv_iload_n hx hb d_T_major_67 rfl (lv_at hl 1 rfl) ?_
    refine lv_iconst (v := 0) hx hb d_T_major_68 (by decide) ?_
    obtain ⟨q23, h22, h⟩ := q_bind h
    refine x_cV_i (As := [.int (a1), .int (0)]) (rest := []) G V hml (c_T_mergeTables l D b ad cs N t21 a1 0 q23.1 q23.2 h22) 0 0 rfl x_w0 g_T_250 e_T_mergeTables ⟨Nat.le_of_ble_eq_true rfl, Nat.le_of_ble_eq_true rfl⟩ ⟨rfl, rfl⟩ ⟨Nat.zero_le _, Nat.zero_le _⟩ rfl hl.1 rfl (Nat.le_of_ble_eq_true rfl) d_T_major_69 (fun H locs V => ?_)
    exact x_ret_i G hr hlk h V d_T_major_72
  · replace h := q_ifp hc h
    refine lv_iconst (v := (-1)) hx hb d_T_major_8 (by decide) ?_
    exact x_ret_i G hr hlk h V d_T_major_9

set_option maxHeartbeats 40000000 in
set_option maxRecDepth 100000 in
theorem c_T_erasuresIn (l : Launch) (D : va_G) (b ad : Nat → Nat) (cs : Nat → ClassId) (N : Nat) (σ : x_T) (a1 : Int32) (a2 : Int32) (r : Int32) (h : f_T_erasuresIn N σ a1 a2 = some r) : x_Ci l y_T_erasuresIn b_T_erasuresIn 6 (some .int) { frames := 2, cells := 0, slots := 0, locals := 43 } D b ad cs σ [.ref (b 0), .int (a1), .int (a2)] r σ := by
  refine x_met_i (own := R_T) (by decide) rfl (Nat.le_of_ble_eq_true rfl) ?_
  intro p e s m args below meth c A G hr hlk hml ls hl V
  have hx := G.1
  have hb := G.2.1
  have hown := G.2.2.1
  have hts := G.2.2.2.1
  have hN := G.2.2.2.2.2
  have hl : lv_has ls 6 [(0, .ref (b 0)), (1, .int (a1)), (2, .int (a2))] := hl
  unfold f_T_erasuresIn at h
  refine lv_iconst (v := 0) hx hb d_T_erasuresIn_0 (by decide) ?_
  refine lv_istore_n (lv' := [(3, .int (0)), (0, .ref (b 0)), (1, .int (a1)), (2, .int (a2))]) hx hb d_T_erasuresIn_1 rfl hl (by decide) rfl (fun ls hl => ?_)
  refine lv_aload_n hx hb d_T_erasuresIn_2 rfl (lv_at hl 1 rfl) ?_
  refine lv_iload_n hx hb d_T_erasuresIn_3 rfl (lv_at hl 2 rfl) ?_
  obtain ⟨r2, h1, h⟩ := q_bind h
  refine x_cV_i (As := [.int (a1)]) (rest := []) G V hml (c_T_endOf l D b ad cs N σ a1 r2 h1) 0 0 rfl x_w0 g_T_217 e_T_endOf ⟨Nat.le_of_ble_eq_true rfl, Nat.le_of_ble_eq_true rfl⟩ ⟨rfl, rfl⟩ ⟨Nat.zero_le _, Nat.zero_le _⟩ rfl hl.1 rfl (Nat.le_of_ble_eq_true rfl) d_T_erasuresIn_4 (fun H locs V => ?_)
  refine lv_istore (lv' := [(4, .int (r2)), (3, .int (0)), (0, .ref (b 0)), (1, .int (a1)), (2, .int (a2))]) hx hb d_T_erasuresIn_7 hl (by decide) rfl (fun ls hl => ?_)
  refine lv_aload_n hx hb d_T_erasuresIn_9 rfl (lv_at hl 2 rfl) ?_
  refine lv_iload_n hx hb d_T_erasuresIn_10 rfl (lv_at hl 3 rfl) ?_
  obtain ⟨r4, h3, h⟩ := q_bind h
  refine x_cV_i (As := [.int (a1)]) (rest := []) G V hml (c_T_startOf l D b ad cs N σ a1 r4 h3) 0 0 rfl x_w0 g_T_223 e_T_startOf ⟨Nat.le_of_ble_eq_true rfl, Nat.le_of_ble_eq_true rfl⟩ ⟨rfl, rfl⟩ ⟨Nat.zero_le _, Nat.zero_le _⟩ rfl hl.1 rfl (Nat.le_of_ble_eq_true rfl) d_T_erasuresIn_11 (fun H locs V => ?_)
  refine lv_istore (lv' := [(5, .int (r4)), (4, .int (r2)), (3, .int (0)), (0, .ref (b 0)), (1, .int (a1)), (2, .int (a2))]) hx hb d_T_erasuresIn_14 hl (by decide) rfl (fun ls hl => ?_)
  have lp16 : ∀ (u2 : Int32) (u4 : Int32) (K : Int32 → Option Int32) (_ : ∀ (v3 : Int32) (H : Heap) (locs : List Loc) (ls : Array Slot), K v3 = some r → lv_has ls 6 [(3, .int (v3))] → x_V D b ad cs σ A s.heap H locs → W p l e { frames := 2, cells := 0, slots := 0, locals := 43 } s m args below meth c H locs 0 0 (x_Qi below args s D b ad cs A r σ) (F0 m 59 ls [])) (n : Nat) (v3 : Int32) (v5 : Int32) (H : Heap) (locs : List Loc) (ls : Array Slot), f_T_erasuresIn_L16 N σ u2 u4 K n v3 v5 = some r → lv_has ls 6 [(0, .ref (b 0)), (2, .int (u2)), (3, .int (v3)), (4, .int (u4)), (5, .int (v5))] → x_V D b ad cs σ A s.heap H locs → W p l e { frames := 2, cells := 0, slots := 0, locals := 43 } s m args below meth c H locs 0 0 (x_Qi below args s D b ad cs A r σ) (F0 m 16 ls []) := by
    intro u2 u4 K hK n
    induction n with
    | zero => intro v3 v5 H locs ls h hl V; cases h
    | succ n ih =>
      intro v3 v5 H locs ls h hl V
      rw [f_T_erasuresIn_L16] at h
      refine lv_iload hx hb d_T_erasuresIn_16 (lv_at hl 4 rfl) ?_
      refine lv_iload hx hb d_T_erasuresIn_18 (lv_at hl 3 rfl) ?_
      refine lv_icmp_ge (tgt := 59) hx hb d_T_erasuresIn_20 (by decide) (fun hc => ?_) (fun hc => ?_)
      · replace h := q_ifp hc h
        exact hK _ _ _ ls h (lv_sub hl [2] rfl) V
      · replace h := q_ifn hc h
        refine lv_aload_n hx hb d_T_erasuresIn_23 rfl (lv_at hl 0 rfl) ?_
        refine x_get (v := .ref (b 3)) G V 0 0 3 x_w0 rfl in_T (by decide) k_T_22 rfl d_T_erasuresIn_24 ?_
        refine lv_iload hx hb d_T_erasuresIn_27 (lv_at hl 4 rfl) ?_
        obtain ⟨g5, h⟩ := q_gd_h h
        refine x_aald G V g5 d_T_erasuresIn_29 (fun hE => ?_) (fun k6 hE => ?_)
        · replace h := q_omn hE h
          cases h
        · replace h := q_oms hE h
          obtain ⟨b7, h⟩ := q_gd_h h
          replace b7 := q_lt_h b7
          refine x_getN (v := .int (x_P σ k6 8)) G V (15 + k6) 1 8 (x_wE b7) rfl in_E (by decide) k_T_226 rfl d_T_erasuresIn_30 ?_
          refine lv_iload_n hx hb d_T_erasuresIn_33 rfl (lv_at hl 1 rfl) ?_
          refine lv_icmp_ne (tgt := 53) hx hb d_T_erasuresIn_34 (by decide) (fun hc => ?_) (fun hc => ?_)
          · replace h := q_ifn hc h
            refine lv_iinc (k := 4) (v := v5 + 1) (lv' := [(5, .int (v5 + 1)), (0, .ref (b 0)), (2, .int (u2)), (3, .int (v3)), (4, .int (u4))]) hx hb d_T_erasuresIn_53 hl rfl rfl (by decide) rfl (fun ls hl => ?_)
            refine lv_goto (tgt := 16) hx hb d_T_erasuresIn_56 (by decide) ?_
            exact ih _ _ _ _ ls h (lv_sub hl [1, 2, 3, 4, 0] rfl) V
          · replace h := q_ifp hc h
            refine lv_aload_n hx hb d_T_erasuresIn_37 rfl (lv_at hl 0 rfl) ?_
            refine x_get (v := .ref (b 3)) G V 0 0 3 x_w0 rfl in_T (by decide) k_T_22 rfl d_T_erasuresIn_38 ?_
            refine lv_iload hx hb d_T_erasuresIn_41 (lv_at hl 4 rfl) ?_
            obtain ⟨g8, h⟩ := q_gd_h h
            refine x_aald G V g8 d_T_erasuresIn_43 (fun hE => ?_) (fun k9 hE => ?_)
            · replace h := q_omn hE h
              cases h
            · replace h := q_oms hE h
              obtain ⟨b10, h⟩ := q_gd_h h
              replace b10 := q_lt_h b10
              refine x_getN (v := .int (x_P σ k9 4)) G V (15 + k9) 1 4 (x_wE b10) rfl in_E (by decide) k_T_265 rfl d_T_erasuresIn_44 ?_
              refine lv_if_eq (tgt := 53) hx hb d_T_erasuresIn_47 (by decide) (fun hc => ?_) (fun hc => ?_)
              · replace h := q_ifp hc h
                refine lv_iinc (k := 4) (v := v5 + 1) (lv' := [(5, .int (v5 + 1)), (0, .ref (b 0)), (2, .int (u2)), (3, .int (v3)), (4, .int (u4))]) hx hb d_T_erasuresIn_53 hl rfl rfl (by decide) rfl (fun ls hl => ?_)
                refine lv_goto (tgt := 16) hx hb d_T_erasuresIn_56 (by decide) ?_
                exact ih _ _ _ _ ls h (lv_sub hl [1, 2, 3, 4, 0] rfl) V
              · replace h := q_ifn hc h
                refine lv_iinc (k := 2) (v := v3 + 1) (lv' := [(3, .int (v3 + 1)), (0, .ref (b 0)), (2, .int (u2)), (4, .int (u4)), (5, .int (v5))]) hx hb d_T_erasuresIn_50 hl rfl rfl (by decide) rfl (fun ls hl => ?_)
                refine lv_iinc (k := 4) (v := v5 + 1) (lv' := [(5, .int (v5 + 1)), (3, .int (v3 + 1)), (0, .ref (b 0)), (2, .int (u2)), (4, .int (u4))]) hx hb d_T_erasuresIn_53 hl rfl rfl (by decide) rfl (fun ls hl => ?_)
                refine lv_goto (tgt := 16) hx hb d_T_erasuresIn_56 (by decide) ?_
                exact ih _ _ _ _ ls h (lv_sub hl [2, 3, 1, 4, 0] rfl) V
  replace hl := lv_sub (l' := [(0, .ref (b 0)), (2, .int (a2)), (3, .int (0)), (4, .int (r2)), (5, .int (r4))]) hl [3, 5, 2, 1, 0] rfl
  refine lp16 _ _ _ ?_ _ _ _ _ _ ls h hl V
  intro v3 H locs ls h hl V
  refine lv_iload_n hx hb d_T_erasuresIn_59 rfl (lv_at hl 0 rfl) ?_
  exact x_pret_i G hr hlk h rfl V d_T_erasuresIn_60

set_option maxHeartbeats 40000000 in
set_option maxRecDepth 100000 in
theorem c_T_firstRowIn (l : Launch) (D : va_G) (b ad : Nat → Nat) (cs : Nat → ClassId) (N : Nat) (σ : x_T) (a1 : Int32) (a2 : Int32) (r : Int32) (h : f_T_firstRowIn N σ a1 a2 = some r) : x_Ci l y_T_firstRowIn b_T_firstRowIn 5 (some .int) { frames := 2, cells := 0, slots := 0, locals := 43 } D b ad cs σ [.ref (b 0), .int (a1), .int (a2)] r σ := by
  refine x_met_i (own := R_T) (by decide) rfl (Nat.le_of_ble_eq_true rfl) ?_
  intro p e s m args below meth c A G hr hlk hml ls hl V
  have hx := G.1
  have hb := G.2.1
  have hown := G.2.2.1
  have hts := G.2.2.2.1
  have hN := G.2.2.2.2.2
  have hl : lv_has ls 5 [(0, .ref (b 0)), (1, .int (a1)), (2, .int (a2))] := hl
  unfold f_T_firstRowIn at h
  refine lv_aload_n hx hb d_T_firstRowIn_0 rfl (lv_at hl 0 rfl) ?_
  refine lv_iload_n hx hb d_T_firstRowIn_1 rfl (lv_at hl 1 rfl) ?_
  obtain ⟨r2, h1, h⟩ := q_bind h
  refine x_cV_i (As := [.int (a1)]) (rest := []) G V hml (c_T_endOf l D b ad cs N σ a1 r2 h1) 0 0 rfl x_w0 g_T_217 e_T_endOf ⟨Nat.le_of_ble_eq_true rfl, Nat.le_of_ble_eq_true rfl⟩ ⟨rfl, rfl⟩ ⟨Nat.zero_le _, Nat.zero_le _⟩ rfl hl.1 rfl (Nat.le_of_ble_eq_true rfl) d_T_firstRowIn_2 (fun H locs V => ?_)
  refine lv_istore_n (lv' := [(3, .int (r2)), (0, .ref (b 0)), (1, .int (a1)), (2, .int (a2))]) hx hb d_T_firstRowIn_5 rfl hl (by decide) rfl (fun ls hl => ?_)
  refine lv_aload_n hx hb d_T_firstRowIn_6 rfl (lv_at hl 1 rfl) ?_
  refine lv_iload_n hx hb d_T_firstRowIn_7 rfl (lv_at hl 2 rfl) ?_
  obtain ⟨r4, h3, h⟩ := q_bind h
  refine x_cV_i (As := [.int (a1)]) (rest := []) G V hml (c_T_startOf l D b ad cs N σ a1 r4 h3) 0 0 rfl x_w0 g_T_223 e_T_startOf ⟨Nat.le_of_ble_eq_true rfl, Nat.le_of_ble_eq_true rfl⟩ ⟨rfl, rfl⟩ ⟨Nat.zero_le _, Nat.zero_le _⟩ rfl hl.1 rfl (Nat.le_of_ble_eq_true rfl) d_T_firstRowIn_8 (fun H locs V => ?_)
  refine lv_istore (lv' := [(4, .int (r4)), (3, .int (r2)), (0, .ref (b 0)), (1, .int (a1)), (2, .int (a2))]) hx hb d_T_firstRowIn_11 hl (by decide) rfl (fun ls hl => ?_)
  have lp13 : ∀ (u2 : Int32) (u3 : Int32) (K : Option Int32) (_ : ∀ (H : Heap) (locs : List Loc) (ls : Array Slot), K = some r → lv_has ls 5 [] → x_V D b ad cs σ A s.heap H locs → W p l e { frames := 2, cells := 0, slots := 0, locals := 43 } s m args below meth c H locs 0 0 (x_Qi below args s D b ad cs A r σ) (F0 m 50 ls [])) (n : Nat) (v4 : Int32) (H : Heap) (locs : List Loc) (ls : Array Slot), f_T_firstRowIn_L13 N σ u2 u3 K n v4 = some r → lv_has ls 5 [(0, .ref (b 0)), (2, .int (u2)), (3, .int (u3)), (4, .int (v4))] → x_V D b ad cs σ A s.heap H locs → W p l e { frames := 2, cells := 0, slots := 0, locals := 43 } s m args below meth c H locs 0 0 (x_Qi below args s D b ad cs A r σ) (F0 m 13 ls []) := by
    intro u2 u3 K hK n
    induction n with
    | zero => intro v4 H locs ls h hl V; cases h
    | succ n ih =>
      intro v4 H locs ls h hl V
      rw [f_T_firstRowIn_L13] at h
      refine lv_iload hx hb d_T_firstRowIn_13 (lv_at hl 3 rfl) ?_
      refine lv_iload_n hx hb d_T_firstRowIn_15 rfl (lv_at hl 2 rfl) ?_
      refine lv_icmp_ge (tgt := 50) hx hb d_T_firstRowIn_16 (by decide) (fun hc => ?_) (fun hc => ?_)
      · replace h := q_ifp hc h
        exact hK _ _ ls h (lv_sub hl [] rfl) V
      · replace h := q_ifn hc h
        refine lv_aload_n hx hb d_T_firstRowIn_19 rfl (lv_at hl 0 rfl) ?_
        refine x_get (v := .ref (b 3)) G V 0 0 3 x_w0 rfl in_T (by decide) k_T_22 rfl d_T_firstRowIn_20 ?_
        refine lv_iload hx hb d_T_firstRowIn_23 (lv_at hl 3 rfl) ?_
        obtain ⟨g5, h⟩ := q_gd_h h
        refine x_aald G V g5 d_T_firstRowIn_25 (fun hE => ?_) (fun k6 hE => ?_)
        · replace h := q_omn hE h
          cases h
        · replace h := q_oms hE h
          obtain ⟨b7, h⟩ := q_gd_h h
          replace b7 := q_lt_h b7
          refine x_getN (v := .int (x_P σ k6 8)) G V (15 + k6) 1 8 (x_wE b7) rfl in_E (by decide) k_T_226 rfl d_T_firstRowIn_26 ?_
          refine lv_iload_n hx hb d_T_firstRowIn_29 rfl (lv_at hl 1 rfl) ?_
          refine lv_icmp_ne (tgt := 44) hx hb d_T_firstRowIn_30 (by decide) (fun hc => ?_) (fun hc => ?_)
          · replace h := q_ifn hc h
            refine lv_iinc (k := 3) (v := v4 + 1) (lv' := [(4, .int (v4 + 1)), (0, .ref (b 0)), (2, .int (u2)), (3, .int (u3))]) hx hb d_T_firstRowIn_44 hl rfl rfl (by decide) rfl (fun ls hl => ?_)
            refine lv_goto (tgt := 13) hx hb d_T_firstRowIn_47 (by decide) ?_
            exact ih _ _ _ ls h (lv_sub hl [1, 2, 3, 0] rfl) V
          · replace h := q_ifp hc h
            refine lv_aload_n hx hb d_T_firstRowIn_33 rfl (lv_at hl 0 rfl) ?_
            refine x_get (v := .ref (b 3)) G V 0 0 3 x_w0 rfl in_T (by decide) k_T_22 rfl d_T_firstRowIn_34 ?_
            refine lv_iload hx hb d_T_firstRowIn_37 (lv_at hl 3 rfl) ?_
            obtain ⟨g8, h⟩ := q_gd_h h
            refine x_aald G V g8 d_T_firstRowIn_39 (fun hE => ?_) (fun k9 hE => ?_)
            · replace h := q_omn hE h
              cases h
            · replace h := q_oms hE h
              obtain ⟨b10, h⟩ := q_gd_h h
              replace b10 := q_lt_h b10
              refine x_getN (v := .int (x_P σ k9 0)) G V (15 + k9) 1 0 (x_wE b10) rfl in_E (by decide) k_T_202 rfl d_T_firstRowIn_40 ?_
              exact x_pret_i G hr hlk h rfl V d_T_firstRowIn_43
  replace hl := lv_sub (l' := [(0, .ref (b 0)), (2, .int (a2)), (3, .int (r2)), (4, .int (r4))]) hl [2, 4, 1, 0] rfl
  refine lp13 _ _ _ ?_ _ _ _ _ ls h hl V
  intro H locs ls h hl V
  refine lv_iconst (v := (-1)) hx hb d_T_firstRowIn_50 (by decide) ?_
  exact x_pret_i G hr hlk h rfl V d_T_firstRowIn_51

set_option maxHeartbeats 40000000 in
set_option maxRecDepth 100000 in
theorem c_T_table (l : Launch) (D : va_G) (b ad : Nat → Nat) (cs : Nat → ClassId) (N : Nat) (σ : x_T) (a1 : Int32) (a2 : Int32) (a3 : Int32) (r : Int32) (h : f_T_table N σ a1 a2 a3 = some r) : x_Ci l y_T_table b_T_table 4 (some .int) { frames := 3, cells := 0, slots := 0, locals := 68 } D b ad cs σ [.ref (b 0), .int (a1), .int (a2), .int (a3)] r σ := by
  refine x_met_i (own := R_T) (by decide) rfl (Nat.le_of_ble_eq_true rfl) ?_
  intro p e s m args below meth c A G hr hlk hml ls hl V
  have hx := G.1
  have hb := G.2.1
  have hown := G.2.2.1
  have hts := G.2.2.2.1
  have hN := G.2.2.2.2.2
  have hl : lv_has ls 4 [(0, .ref (b 0)), (1, .int (a1)), (2, .int (a2)), (3, .int (a3))] := hl
  unfold f_T_table at h
  refine lv_aload_n hx hb d_T_table_0 rfl (lv_at hl 0 rfl) ?_
  refine lv_iload_n hx hb d_T_table_1 rfl (lv_at hl 1 rfl) ?_
  obtain ⟨r2, h1, h⟩ := q_bind h
  refine x_cV_i (As := [.int (a1)]) (rest := []) G V hml (c_T_isTablet l D b ad cs N σ a1 r2 h1) 0 0 rfl x_w0 g_T_235 e_T_isTablet ⟨Nat.le_of_ble_eq_true rfl, Nat.le_of_ble_eq_true rfl⟩ ⟨rfl, rfl⟩ ⟨Nat.zero_le _, Nat.zero_le _⟩ rfl hl.1 rfl (Nat.le_of_ble_eq_true rfl) d_T_table_2 (fun H locs V => ?_)
  refine lv_if_eq (tgt := 21) hx hb d_T_table_5 (by decide) (fun hc => ?_) (fun hc => ?_)
  · replace h := q_ifp hc h
    refine lv_iconst (v := (-1)) hx hb d_T_table_21 (by decide) ?_
    exact x_pret_i G hr hlk h rfl V d_T_table_22
  · replace h := q_ifn hc h
    refine lv_iload_n hx hb d_T_table_8 rfl (lv_at hl 2 rfl) ?_
    refine lv_if_lt (tgt := 21) hx hb d_T_table_9 (by decide) (fun hc => ?_) (fun hc => ?_)
    · replace h := q_ifp hc h
      refine lv_iconst (v := (-1)) hx hb d_T_table_21 (by decide) ?_
      exact x_pret_i G hr hlk h rfl V d_T_table_22
    · replace h := q_ifn hc h
      refine lv_iload_n hx hb d_T_table_12 rfl (lv_at hl 2 rfl) ?_
      refine lv_aload_n hx hb d_T_table_13 rfl (lv_at hl 0 rfl) ?_
      refine lv_iload_n hx hb d_T_table_14 rfl (lv_at hl 1 rfl) ?_
      obtain ⟨r4, h3, h⟩ := q_bind h
      refine x_cV_i (As := [.int (a1)]) (rest := [.int (a2)]) G V hml (c_T_tableCount l D b ad cs N σ a1 r4 h3) 0 0 rfl x_w0 g_T_238 e_T_tableCount ⟨Nat.le_of_ble_eq_true rfl, Nat.le_of_ble_eq_true rfl⟩ ⟨rfl, rfl⟩ ⟨Nat.zero_le _, Nat.zero_le _⟩ rfl hl.1 rfl (Nat.le_of_ble_eq_true rfl) d_T_table_15 (fun H locs V => ?_)
      refine lv_icmp_lt (tgt := 23) hx hb d_T_table_18 (by decide) (fun hc => ?_) (fun hc => ?_)
      · replace h := q_ifp hc h
        refine lv_iload_n hx hb d_T_table_23 rfl (lv_at hl 3 rfl) ?_
        by_cases hc0 : (a3 : Int32) = 0
        · replace h := q_ifp hc0 h
          refine lv_tableIn (tgt := 56) hx hb d_T_table_24 (by rw [hc0]; decide) (by rw [hc0]; decide) (by rw [hc0]; rfl) (by decide) ?_
          refine lv_aload_n hx hb d_T_table_56 rfl (lv_at hl 0 rfl) ?_
          refine lv_iload_n hx hb d_T_table_57 rfl (lv_at hl 1 rfl) ?_
          refine lv_iload_n hx hb d_T_table_58 rfl (lv_at hl 2 rfl) ?_
          obtain ⟨r6, h5, h⟩ := q_bind h
          refine x_cV_i (As := [.int (a1), .int (a2)]) (rest := []) G V hml (c_T_entriesIn l D b ad cs N σ a1 a2 r6 h5) 0 0 rfl x_w0 g_T_149 e_T_entriesIn ⟨Nat.le_of_ble_eq_true rfl, Nat.le_of_ble_eq_true rfl⟩ ⟨rfl, rfl⟩ ⟨Nat.zero_le _, Nat.zero_le _⟩ rfl hl.1 rfl (Nat.le_of_ble_eq_true rfl) d_T_table_59 (fun H locs V => ?_)
          exact x_pret_i G hr hlk h rfl V d_T_table_62
        replace h := q_ifn hc0 h
        by_cases hc1 : (a3 : Int32) = 1
        · replace h := q_ifp hc1 h
          refine lv_tableIn (tgt := 63) hx hb d_T_table_24 (by rw [hc1]; decide) (by rw [hc1]; decide) (by rw [hc1]; rfl) (by decide) ?_
          refine lv_aload_n hx hb d_T_table_63 rfl (lv_at hl 0 rfl) ?_
          refine lv_iload_n hx hb d_T_table_64 rfl (lv_at hl 1 rfl) ?_
          refine lv_iload_n hx hb d_T_table_65 rfl (lv_at hl 2 rfl) ?_
          obtain ⟨r8, h7, h⟩ := q_bind h
          refine x_cV_i (As := [.int (a1), .int (a2)]) (rest := []) G V hml (c_T_erasuresIn l D b ad cs N σ a1 a2 r8 h7) 0 0 rfl x_w0 g_T_253 e_T_erasuresIn ⟨Nat.le_of_ble_eq_true rfl, Nat.le_of_ble_eq_true rfl⟩ ⟨rfl, rfl⟩ ⟨Nat.zero_le _, Nat.zero_le _⟩ rfl hl.1 rfl (Nat.le_of_ble_eq_true rfl) d_T_table_66 (fun H locs V => ?_)
          exact x_pret_i G hr hlk h rfl V d_T_table_69
        replace h := q_ifn hc1 h
        by_cases hc2 : (a3 : Int32) = 2
        · replace h := q_ifp hc2 h
          refine lv_tableIn (tgt := 70) hx hb d_T_table_24 (by rw [hc2]; decide) (by rw [hc2]; decide) (by rw [hc2]; rfl) (by decide) ?_
          refine lv_aload_n hx hb d_T_table_70 rfl (lv_at hl 0 rfl) ?_
          refine lv_iload_n hx hb d_T_table_71 rfl (lv_at hl 1 rfl) ?_
          refine lv_iload_n hx hb d_T_table_72 rfl (lv_at hl 2 rfl) ?_
          obtain ⟨r10, h9, h⟩ := q_bind h
          refine x_cV_i (As := [.int (a1), .int (a2)]) (rest := []) G V hml (c_T_entriesIn l D b ad cs N σ a1 a2 r10 h9) 0 0 rfl x_w0 g_T_149 e_T_entriesIn ⟨Nat.le_of_ble_eq_true rfl, Nat.le_of_ble_eq_true rfl⟩ ⟨rfl, rfl⟩ ⟨Nat.zero_le _, Nat.zero_le _⟩ rfl hl.1 rfl (Nat.le_of_ble_eq_true rfl) d_T_table_73 (fun H locs V => ?_)
          refine lv_iconst (v := 4) hx hb d_T_table_76 (by decide) ?_
          refine lv_iadd hx hb d_T_table_77 ?_
          refine lv_iconst (v := 1) hx hb d_T_table_78 (by decide) ?_
          refine lv_isub hx hb d_T_table_79 ?_
          refine lv_iconst (v := 4) hx hb d_T_table_80 (by decide) ?_
          refine lv_idiv hx hb d_T_table_81 (by decide) ?_
          exact x_pret_i G hr hlk h rfl V d_T_table_82
        replace h := q_ifn hc2 h
        by_cases hc3 : (a3 : Int32) = 3
        · replace h := q_ifp hc3 h
          refine lv_tableIn (tgt := 83) hx hb d_T_table_24 (by rw [hc3]; decide) (by rw [hc3]; decide) (by rw [hc3]; rfl) (by decide) ?_
          refine lv_aload_n hx hb d_T_table_83 rfl (lv_at hl 0 rfl) ?_
          refine lv_iload_n hx hb d_T_table_84 rfl (lv_at hl 1 rfl) ?_
          refine lv_iload_n hx hb d_T_table_85 rfl (lv_at hl 2 rfl) ?_
          obtain ⟨r12, h11, h⟩ := q_bind h
          refine x_cV_i (As := [.int (a1), .int (a2)]) (rest := []) G V hml (c_T_firstRowIn l D b ad cs N σ a1 a2 r12 h11) 0 0 rfl x_w0 g_T_256 e_T_firstRowIn ⟨Nat.le_of_ble_eq_true rfl, Nat.le_of_ble_eq_true rfl⟩ ⟨rfl, rfl⟩ ⟨Nat.zero_le _, Nat.zero_le _⟩ rfl hl.1 rfl (Nat.le_of_ble_eq_true rfl) d_T_table_86 (fun H locs V => ?_)
          exact x_pret_i G hr hlk h rfl V d_T_table_89
        replace h := q_ifn hc3 h
        have hsw : (a3 : Int32).toInt < 0 ∨ 3 < (a3 : Int32).toInt := by
          have e0 := lv_neT hc0 (show (0 : Int32).toInt = 0 from rfl)
          have e1 := lv_neT hc1 (show (1 : Int32).toInt = 1 from rfl)
          have e2 := lv_neT hc2 (show (2 : Int32).toInt = 2 from rfl)
          have e3 := lv_neT hc3 (show (3 : Int32).toInt = 3 from rfl)
          omega
        refine lv_tableOut (tgt := 90) hx hb d_T_table_24 hsw (by decide) ?_
        refine lv_iconst (v := (-1)) hx hb d_T_table_90 (by decide) ?_
        exact x_pret_i G hr hlk h rfl V d_T_table_91
      · replace h := q_ifn hc h
        refine lv_iconst (v := (-1)) hx hb d_T_table_21 (by decide) ?_
        exact x_pret_i G hr hlk h rfl V d_T_table_22

set_option maxHeartbeats 40000000 in
set_option maxRecDepth 100000 in
theorem c_T_log (l : Launch) (D : va_G) (b ad : Nat → Nat) (cs : Nat → ClassId) (N : Nat) (σ : x_T) (r : Int32) (h : f_T_log N σ = some r) : x_Ci l y_T_log b_T_log 3 (some .int) { frames := 0, cells := 0, slots := 0, locals := 0 } D b ad cs σ [.ref (b 0)] r σ := by
  refine x_met_i (own := R_T) (by decide) rfl (Nat.le_of_ble_eq_true rfl) ?_
  intro p e s m args below meth c A G hr hlk hml ls hl V
  have hx := G.1
  have hb := G.2.1
  have hown := G.2.2.1
  have hts := G.2.2.2.1
  have hN := G.2.2.2.2.2
  have hl : lv_has ls 3 [(0, .ref (b 0))] := hl
  unfold f_T_log at h
  refine lv_iconst (v := 0) hx hb d_T_log_0 (by decide) ?_
  refine lv_istore_n (lv' := [(1, .int (0)), (0, .ref (b 0))]) hx hb d_T_log_1 rfl hl (by decide) rfl (fun ls hl => ?_)
  refine lv_iconst (v := 0) hx hb d_T_log_2 (by decide) ?_
  refine lv_istore_n (lv' := [(2, .int (0)), (1, .int (0)), (0, .ref (b 0))]) hx hb d_T_log_3 rfl hl (by decide) rfl (fun ls hl => ?_)
  have lp4 : ∀ (K : Int32 → Option Int32) (_ : ∀ (v1 : Int32) (H : Heap) (locs : List Loc) (ls : Array Slot), K v1 = some r → lv_has ls 3 [(1, .int (v1))] → x_V D b ad cs σ A s.heap H locs → W p l e { frames := 0, cells := 0, slots := 0, locals := 0 } s m args below meth c H locs 0 0 (x_Qi below args s D b ad cs A r σ) (F0 m 46 ls [])) (n : Nat) (v1 : Int32) (v2 : Int32) (H : Heap) (locs : List Loc) (ls : Array Slot), f_T_log_L4 N σ K n v1 v2 = some r → lv_has ls 3 [(0, .ref (b 0)), (1, .int (v1)), (2, .int (v2))] → x_V D b ad cs σ A s.heap H locs → W p l e { frames := 0, cells := 0, slots := 0, locals := 0 } s m args below meth c H locs 0 0 (x_Qi below args s D b ad cs A r σ) (F0 m 4 ls []) := by
    intro K hK n
    induction n with
    | zero => intro v1 v2 H locs ls h hl V; cases h
    | succ n ih =>
      intro v1 v2 H locs ls h hl V
      rw [f_T_log_L4] at h
      refine lv_iload_n hx hb d_T_log_4 rfl (lv_at hl 2 rfl) ?_
      refine lv_aload_n hx hb d_T_log_5 rfl (lv_at hl 0 rfl) ?_
      refine x_get (v := .int (x_S σ 4)) G V 0 0 4 x_w0 rfl in_T (by decide) k_T_26 rfl d_T_log_6 ?_
      refine lv_icmp_ge (tgt := 46) hx hb d_T_log_9 (by decide) (fun hc => ?_) (fun hc => ?_)
      · replace h := q_ifp hc h
        exact hK _ _ _ ls h (lv_sub hl [1] rfl) V
      · replace h := q_ifn hc h
        refine lv_aload_n hx hb d_T_log_12 rfl (lv_at hl 0 rfl) ?_
        refine x_get (v := .ref (b 3)) G V 0 0 3 x_w0 rfl in_T (by decide) k_T_22 rfl d_T_log_13 ?_
        refine lv_iload_n hx hb d_T_log_16 rfl (lv_at hl 2 rfl) ?_
        obtain ⟨g1, h⟩ := q_gd_h h
        refine x_aald G V g1 d_T_log_17 (fun hE => ?_) (fun k2 hE => ?_)
        · replace h := q_omn hE h
          cases h
        · replace h := q_oms hE h
          obtain ⟨b3, h⟩ := q_gd_h h
          replace b3 := q_lt_h b3
          refine x_getN (v := .int (x_P σ k2 8)) G V (15 + k2) 1 8 (x_wE b3) rfl in_E (by decide) k_T_226 rfl d_T_log_18 ?_
          refine lv_iconst (v := (-1)) hx hb d_T_log_21 (by decide) ?_
          refine lv_icmp_ne (tgt := 40) hx hb d_T_log_22 (by decide) (fun hc => ?_) (fun hc => ?_)
          · replace h := q_ifn hc h
            refine lv_iinc (k := 2) (v := v2 + 1) (lv' := [(2, .int (v2 + 1)), (0, .ref (b 0)), (1, .int (v1))]) hx hb d_T_log_40 hl rfl rfl (by decide) rfl (fun ls hl => ?_)
            refine lv_goto (tgt := 4) hx hb d_T_log_43 (by decide) ?_
            exact ih _ _ _ _ ls h (lv_sub hl [1, 2, 0] rfl) V
          · replace h := q_ifp hc h
            refine lv_aload_n hx hb d_T_log_25 rfl (lv_at hl 0 rfl) ?_
            refine x_get (v := .ref (b 3)) G V 0 0 3 x_w0 rfl in_T (by decide) k_T_22 rfl d_T_log_26 ?_
            refine lv_iload_n hx hb d_T_log_29 rfl (lv_at hl 2 rfl) ?_
            obtain ⟨g4, h⟩ := q_gd_h h
            refine x_aald G V g4 d_T_log_30 (fun hE => ?_) (fun k5 hE => ?_)
            · replace h := q_omn hE h
              cases h
            · replace h := q_oms hE h
              obtain ⟨b6, h⟩ := q_gd_h h
              replace b6 := q_lt_h b6
              refine x_getN (v := .int (x_P σ k5 9)) G V (15 + k5) 1 9 (x_wE b6) rfl in_E (by decide) k_T_172 rfl d_T_log_31 ?_
              refine lv_if_eq (tgt := 40) hx hb d_T_log_34 (by decide) (fun hc => ?_) (fun hc => ?_)
              · replace h := q_ifp hc h
                refine lv_iinc (k := 2) (v := v2 + 1) (lv' := [(2, .int (v2 + 1)), (0, .ref (b 0)), (1, .int (v1))]) hx hb d_T_log_40 hl rfl rfl (by decide) rfl (fun ls hl => ?_)
                refine lv_goto (tgt := 4) hx hb d_T_log_43 (by decide) ?_
                exact ih _ _ _ _ ls h (lv_sub hl [1, 2, 0] rfl) V
              · replace h := q_ifn hc h
                refine lv_iinc (k := 1) (v := v1 + 1) (lv' := [(1, .int (v1 + 1)), (0, .ref (b 0)), (2, .int (v2))]) hx hb d_T_log_37 hl rfl rfl (by decide) rfl (fun ls hl => ?_)
                refine lv_iinc (k := 2) (v := v2 + 1) (lv' := [(2, .int (v2 + 1)), (1, .int (v1 + 1)), (0, .ref (b 0))]) hx hb d_T_log_40 hl rfl rfl (by decide) rfl (fun ls hl => ?_)
                refine lv_goto (tgt := 4) hx hb d_T_log_43 (by decide) ?_
                exact ih _ _ _ _ ls h (lv_sub hl [2, 1, 0] rfl) V
  replace hl := lv_sub (l' := [(0, .ref (b 0)), (1, .int (0)), (2, .int (0))]) hl [2, 1, 0] rfl
  refine lp4 _ ?_ _ _ _ _ _ ls h hl V
  intro v1 H locs ls h hl V
  refine lv_iload_n hx hb d_T_log_46 rfl (lv_at hl 0 rfl) ?_
  exact x_pret_i G hr hlk h rfl V d_T_log_47
