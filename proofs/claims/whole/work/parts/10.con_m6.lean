set_option maxHeartbeats 40000000 in
set_option maxRecDepth 100000 in
theorem c_M_table (l : Launch) (D : va_G) (b : Nat → Nat) (cs : Nat → ClassId) (N : Nat) (σ : m_T) (a1 : Int32) (a2 : Int32) (a3 : Int32) (r : Int32) (h : f_M_table N σ a1 a2 a3 = some r) : m_Ci l y_M_table b_M_table 7 (some .int) { frames := 1, cells := 0, slots := 0, locals := 24 } D b cs σ [.ref (b 0), .int (a1), .int (a2), .int (a3)] r σ := by
  refine m_met_i (own := R_M) (by decide) rfl (Nat.le_of_ble_eq_true rfl) ?_
  intro p e s m args below meth c A G hr hlk hml ls hl V
  have hx := G.1
  have hb := G.2.1
  have hown := G.2.2.1
  have hts := G.2.2.2.1
  have hN := G.2.2.2.2.2
  have hl : lv_has ls 7 [(0, .ref (b 0)), (1, .int (a1)), (2, .int (a2)), (3, .int (a3))] := hl
  unfold f_M_table at h
  refine lv_aload_n hx hb d_M_table_0 rfl (lv_at hl 0 rfl) ?_
  refine lv_iload_n hx hb d_M_table_1 rfl (lv_at hl 1 rfl) ?_
  obtain ⟨r2, h1, h⟩ := q_bind h
  refine m_cV_i (As := [.int (a1)]) (rest := []) G V hml (c_M_isTablet l D b cs N σ a1 r2 h1) 0 4 rfl m_w0 g_M_189 e_M_isTablet ⟨Nat.le_of_ble_eq_true rfl, Nat.le_of_ble_eq_true rfl⟩ ⟨rfl, rfl⟩ ⟨Nat.zero_le _, Nat.zero_le _⟩ rfl hl.1 rfl (Nat.le_of_ble_eq_true rfl) d_M_table_2 (fun H locs V => ?_)
  refine lv_if_eq (tgt := 31) hx hb d_M_table_5 (by decide) (fun hc => ?_) (fun hc => ?_)
  · replace h := q_ifp hc h
    refine lv_iconst (v := (-1)) hx hb d_M_table_31 (by decide) ?_
    exact m_pret_i G hr hlk h rfl V d_M_table_32
  · replace h := q_ifn hc h
    refine lv_iload_n hx hb d_M_table_8 rfl (lv_at hl 2 rfl) ?_
    refine lv_if_lt (tgt := 31) hx hb d_M_table_9 (by decide) (fun hc => ?_) (fun hc => ?_)
    · replace h := q_ifp hc h
      refine lv_iconst (v := (-1)) hx hb d_M_table_31 (by decide) ?_
      exact m_pret_i G hr hlk h rfl V d_M_table_32
    · replace h := q_ifn hc h
      refine lv_iload_n hx hb d_M_table_12 rfl (lv_at hl 2 rfl) ?_
      refine lv_aload_n hx hb d_M_table_13 rfl (lv_at hl 0 rfl) ?_
      refine m_get (v := .ref (b 10)) G V 0 4 11 m_w0 rfl in_M (by decide) k_M_41 rfl d_M_table_14 ?_
      refine lv_iload_n hx hb d_M_table_17 rfl (lv_at hl 1 rfl) ?_
      obtain ⟨g3, h⟩ := q_gd_h h
      refine m_iald G V 10 m_w10 g3 d_M_table_18 ?_
      refine lv_icmp_ge (tgt := 31) hx hb d_M_table_19 (by decide) (fun hc => ?_) (fun hc => ?_)
      · replace h := q_ifp hc h
        refine lv_iconst (v := (-1)) hx hb d_M_table_31 (by decide) ?_
        exact m_pret_i G hr hlk h rfl V d_M_table_32
      · replace h := q_ifn hc h
        refine lv_iload_n hx hb d_M_table_22 rfl (lv_at hl 3 rfl) ?_
        refine lv_if_lt (tgt := 31) hx hb d_M_table_23 (by decide) (fun hc => ?_) (fun hc => ?_)
        · replace h := q_ifp hc h
          refine lv_iconst (v := (-1)) hx hb d_M_table_31 (by decide) ?_
          exact m_pret_i G hr hlk h rfl V d_M_table_32
        · replace h := q_ifn hc h
          refine lv_iload_n hx hb d_M_table_26 rfl (lv_at hl 3 rfl) ?_
          refine lv_iconst (v := 3) hx hb d_M_table_27 (by decide) ?_
          refine lv_icmp_le (tgt := 33) hx hb d_M_table_28 (by decide) (fun hc => ?_) (fun hc => ?_)
          · replace h := q_ifp hc h
            refine lv_iconst (v := 0) hx hb d_M_table_33 (by decide) ?_
            refine lv_istore (lv' := [(4, .int (0)), (0, .ref (b 0)), (1, .int (a1)), (2, .int (a2)), (3, .int (a3))]) hx hb d_M_table_34 hl (by decide) rfl (fun ls hl => ?_)
            refine lv_bipush (v := 64) hx hb d_M_table_36 (by decide) ?_
            refine lv_istore (lv' := [(5, .int (64)), (4, .int (0)), (0, .ref (b 0)), (1, .int (a1)), (2, .int (a2)), (3, .int (a3))]) hx hb d_M_table_38 hl (by decide) rfl (fun ls hl => ?_)
            refine lv_iconst (v := 0) hx hb d_M_table_40 (by decide) ?_
            refine lv_istore (lv' := [(6, .int (0)), (5, .int (64)), (4, .int (0)), (0, .ref (b 0)), (1, .int (a1)), (2, .int (a2)), (3, .int (a3))]) hx hb d_M_table_41 hl (by decide) rfl (fun ls hl => ?_)
            have lp43 : ∀ (u1 : Int32) (u2 : Int32) (u3 : Int32) (K : Int32 → Int32 → Option Int32) (_ : ∀ (v4 : Int32) (v5 : Int32) (H : Heap) (locs : List Loc) (ls : Array Slot), K v4 v5 = some r → lv_has ls 7 [(0, .ref (b 0)), (1, .int (u1)), (2, .int (u2)), (3, .int (u3)), (4, .int (v4)), (5, .int (v5))] → m_V D b cs σ A s.heap H locs → W p l e { frames := 1, cells := 0, slots := 0, locals := 24 } s m args below meth c H locs 0 0 (m_Qi below args s D b cs A r σ) (F0 m 126 ls [])) (n : Nat) (v4 : Int32) (v5 : Int32) (v6 : Int32) (H : Heap) (locs : List Loc) (ls : Array Slot), f_M_table_L43 N σ u1 u2 u3 K n v4 v5 v6 = some r → lv_has ls 7 [(0, .ref (b 0)), (1, .int (u1)), (2, .int (u2)), (3, .int (u3)), (4, .int (v4)), (5, .int (v5)), (6, .int (v6))] → m_V D b cs σ A s.heap H locs → W p l e { frames := 1, cells := 0, slots := 0, locals := 24 } s m args below meth c H locs 0 0 (m_Qi below args s D b cs A r σ) (F0 m 43 ls []) := by
              intro u1 u2 u3 K hK n
              induction n with
              | zero => intro v4 v5 v6 H locs ls h hl V; cases h
              | succ n ih =>
                intro v4 v5 v6 H locs ls h hl V
                rw [f_M_table_L43] at h
                refine lv_iload hx hb d_M_table_43 (lv_at hl 6 rfl) ?_
                refine lv_aload_n hx hb d_M_table_45 rfl (lv_at hl 0 rfl) ?_
                refine m_get (v := .int (m_S σ 0)) G V 0 4 0 m_w0 rfl in_M (by decide) k_M_79 rfl d_M_table_46 ?_
                refine lv_icmp_ge (tgt := 126) hx hb d_M_table_49 (by decide) (fun hc => ?_) (fun hc => ?_)
                · replace h := q_ifp hc h
                  exact hK _ _ _ _ ls h (lv_sub hl [0, 1, 2, 3, 4, 5] rfl) V
                · replace h := q_ifn hc h
                  refine lv_aload_n hx hb d_M_table_52 rfl (lv_at hl 0 rfl) ?_
                  refine m_get (v := .ref (b 7)) G V 0 4 7 m_w0 rfl in_M (by decide) k_M_28 rfl d_M_table_53 ?_
                  refine lv_iload hx hb d_M_table_56 (lv_at hl 6 rfl) ?_
                  obtain ⟨g4, h⟩ := q_gd_h h
                  refine m_iald G V 7 m_w7 g4 d_M_table_58 ?_
                  refine lv_iload_n hx hb d_M_table_59 rfl (lv_at hl 1 rfl) ?_
                  refine lv_icmp_ne (tgt := 120) hx hb d_M_table_60 (by decide) (fun hc => ?_) (fun hc => ?_)
                  · replace h := q_ifn hc h
                    refine lv_iinc (k := 6) (v := v6 + 1) (lv' := [(6, .int (v6 + 1)), (0, .ref (b 0)), (1, .int (u1)), (2, .int (u2)), (3, .int (u3)), (4, .int (v4)), (5, .int (v5))]) hx hb d_M_table_120 hl rfl rfl (by decide) rfl (fun ls hl => ?_)
                    refine lv_goto (tgt := 43) hx hb d_M_table_123 (by decide) ?_
                    exact ih _ _ _ _ _ ls h (lv_sub hl [1, 2, 3, 4, 5, 6, 0] rfl) V
                  · replace h := q_ifp hc h
                    refine lv_aload_n hx hb d_M_table_63 rfl (lv_at hl 0 rfl) ?_
                    refine m_get (v := .ref (b 8)) G V 0 4 8 m_w0 rfl in_M (by decide) k_M_31 rfl d_M_table_64 ?_
                    refine lv_iload hx hb d_M_table_67 (lv_at hl 6 rfl) ?_
                    obtain ⟨g5, h⟩ := q_gd_h h
                    refine m_iald G V 8 m_w8 g5 d_M_table_69 ?_
                    refine lv_iload_n hx hb d_M_table_70 rfl (lv_at hl 2 rfl) ?_
                    refine lv_icmp_ne (tgt := 120) hx hb d_M_table_71 (by decide) (fun hc => ?_) (fun hc => ?_)
                    · replace h := q_ifn hc h
                      refine lv_iinc (k := 6) (v := v6 + 1) (lv' := [(6, .int (v6 + 1)), (0, .ref (b 0)), (1, .int (u1)), (2, .int (u2)), (3, .int (u3)), (4, .int (v4)), (5, .int (v5))]) hx hb d_M_table_120 hl rfl rfl (by decide) rfl (fun ls hl => ?_)
                      refine lv_goto (tgt := 43) hx hb d_M_table_123 (by decide) ?_
                      exact ih _ _ _ _ _ ls h (lv_sub hl [1, 2, 3, 4, 5, 6, 0] rfl) V
                    · replace h := q_ifp hc h
                      refine lv_iload hx hb d_M_table_74 (lv_at hl 4 rfl) ?_
                      refine lv_aload_n hx hb d_M_table_76 rfl (lv_at hl 0 rfl) ?_
                      refine m_get (v := .ref (b 1)) G V 0 4 1 m_w0 rfl in_M (by decide) k_M_7 rfl d_M_table_77 ?_
                      refine lv_iload hx hb d_M_table_80 (lv_at hl 6 rfl) ?_
                      obtain ⟨g6, h⟩ := q_gd_h h
                      refine m_iald G V 1 m_w1 g6 d_M_table_82 ?_
                      refine lv_if_ne (tgt := 90) hx hb d_M_table_83 (by decide) (fun hc => ?_) (fun hc => ?_)
                      · replace h := q_ifn hc h
                        refine lv_iconst (v := 1) hx hb d_M_table_90 (by decide) ?_
                        refine lv_iadd hx hb d_M_table_91 ?_
                        refine lv_istore (lv' := [(4, .int (v4 + 1)), (0, .ref (b 0)), (1, .int (u1)), (2, .int (u2)), (3, .int (u3)), (5, .int (v5)), (6, .int (v6))]) hx hb d_M_table_92 hl (by decide) rfl (fun ls hl => ?_)
                        refine lv_aload_n hx hb d_M_table_94 rfl (lv_at hl 1 rfl) ?_
                        refine m_get (v := .ref (b 2)) G V 0 4 2 m_w0 rfl in_M (by decide) k_M_13 rfl d_M_table_95 ?_
                        refine lv_iload hx hb d_M_table_98 (lv_at hl 6 rfl) ?_
                        obtain ⟨g7, h⟩ := q_gd_h h
                        refine m_iald G V 2 m_w2 g7 d_M_table_100 ?_
                        refine lv_iload hx hb d_M_table_101 (lv_at hl 5 rfl) ?_
                        refine lv_icmp_ge (tgt := 116) hx hb d_M_table_103 (by decide) (fun hc => ?_) (fun hc => ?_)
                        · replace h := q_ifp hc h
                          refine lv_iload hx hb d_M_table_116 (lv_at hl 5 rfl) ?_
                          refine lv_istore (lv' := [(5, .int (v5)), (4, .int (v4 + 1)), (0, .ref (b 0)), (1, .int (u1)), (2, .int (u2)), (3, .int (u3)), (6, .int (v6))]) hx hb d_M_table_118 hl (by decide) rfl (fun ls hl => ?_)
                          refine lv_iinc (k := 6) (v := v6 + 1) (lv' := [(6, .int (v6 + 1)), (5, .int (v5)), (4, .int (v4 + 1)), (0, .ref (b 0)), (1, .int (u1)), (2, .int (u2)), (3, .int (u3))]) hx hb d_M_table_120 hl rfl rfl (by decide) rfl (fun ls hl => ?_)
                          refine lv_goto (tgt := 43) hx hb d_M_table_123 (by decide) ?_
                          exact ih _ _ _ _ _ ls h (lv_sub hl [3, 4, 5, 6, 2, 1, 0] rfl) V
                        · replace h := q_ifn hc h
                          refine lv_aload_n hx hb d_M_table_106 rfl (lv_at hl 1 rfl) ?_
                          refine m_get (v := .ref (b 2)) G V 0 4 2 m_w0 rfl in_M (by decide) k_M_13 rfl d_M_table_107 ?_
                          refine lv_iload hx hb d_M_table_110 (lv_at hl 6 rfl) ?_
                          obtain ⟨g8, h⟩ := q_gd_h h
                          refine m_iald G V 2 m_w2 g8 d_M_table_112 ?_
                          refine lv_goto (tgt := 118) hx hb d_M_table_113 (by decide) ?_
                          refine lv_istore (lv' := [(5, .int (m_I σ 2 ((v6 : Int32).toNatClampNeg))), (4, .int (v4 + 1)), (0, .ref (b 0)), (1, .int (u1)), (2, .int (u2)), (3, .int (u3)), (6, .int (v6))]) hx hb d_M_table_118 hl (by decide) rfl (fun ls hl => ?_)
                          refine lv_iinc (k := 6) (v := v6 + 1) (lv' := [(6, .int (v6 + 1)), (5, .int (m_I σ 2 ((v6 : Int32).toNatClampNeg))), (4, .int (v4 + 1)), (0, .ref (b 0)), (1, .int (u1)), (2, .int (u2)), (3, .int (u3))]) hx hb d_M_table_120 hl rfl rfl (by decide) rfl (fun ls hl => ?_)
                          refine lv_goto (tgt := 43) hx hb d_M_table_123 (by decide) ?_
                          exact ih _ _ _ _ _ ls h (lv_sub hl [3, 4, 5, 6, 2, 1, 0] rfl) V
                      · replace h := q_ifp hc h
                        refine lv_iconst (v := 0) hx hb d_M_table_86 (by decide) ?_
                        refine lv_goto (tgt := 91) hx hb d_M_table_87 (by decide) ?_
                        refine lv_iadd hx hb d_M_table_91 ?_
                        refine lv_istore (lv' := [(4, .int (v4 + 0)), (0, .ref (b 0)), (1, .int (u1)), (2, .int (u2)), (3, .int (u3)), (5, .int (v5)), (6, .int (v6))]) hx hb d_M_table_92 hl (by decide) rfl (fun ls hl => ?_)
                        refine lv_aload_n hx hb d_M_table_94 rfl (lv_at hl 1 rfl) ?_
                        refine m_get (v := .ref (b 2)) G V 0 4 2 m_w0 rfl in_M (by decide) k_M_13 rfl d_M_table_95 ?_
                        refine lv_iload hx hb d_M_table_98 (lv_at hl 6 rfl) ?_
                        obtain ⟨g9, h⟩ := q_gd_h h
                        refine m_iald G V 2 m_w2 g9 d_M_table_100 ?_
                        refine lv_iload hx hb d_M_table_101 (lv_at hl 5 rfl) ?_
                        refine lv_icmp_ge (tgt := 116) hx hb d_M_table_103 (by decide) (fun hc => ?_) (fun hc => ?_)
                        · replace h := q_ifp hc h
                          refine lv_iload hx hb d_M_table_116 (lv_at hl 5 rfl) ?_
                          refine lv_istore (lv' := [(5, .int (v5)), (4, .int (v4 + 0)), (0, .ref (b 0)), (1, .int (u1)), (2, .int (u2)), (3, .int (u3)), (6, .int (v6))]) hx hb d_M_table_118 hl (by decide) rfl (fun ls hl => ?_)
                          refine lv_iinc (k := 6) (v := v6 + 1) (lv' := [(6, .int (v6 + 1)), (5, .int (v5)), (4, .int (v4 + 0)), (0, .ref (b 0)), (1, .int (u1)), (2, .int (u2)), (3, .int (u3))]) hx hb d_M_table_120 hl rfl rfl (by decide) rfl (fun ls hl => ?_)
                          refine lv_goto (tgt := 43) hx hb d_M_table_123 (by decide) ?_
                          exact ih _ _ _ _ _ ls h (lv_sub hl [3, 4, 5, 6, 2, 1, 0] rfl) V
                        · replace h := q_ifn hc h
                          refine lv_aload_n hx hb d_M_table_106 rfl (lv_at hl 1 rfl) ?_
                          refine m_get (v := .ref (b 2)) G V 0 4 2 m_w0 rfl in_M (by decide) k_M_13 rfl d_M_table_107 ?_
                          refine lv_iload hx hb d_M_table_110 (lv_at hl 6 rfl) ?_
                          obtain ⟨g10, h⟩ := q_gd_h h
                          refine m_iald G V 2 m_w2 g10 d_M_table_112 ?_
                          refine lv_goto (tgt := 118) hx hb d_M_table_113 (by decide) ?_
                          refine lv_istore (lv' := [(5, .int (m_I σ 2 ((v6 : Int32).toNatClampNeg))), (4, .int (v4 + 0)), (0, .ref (b 0)), (1, .int (u1)), (2, .int (u2)), (3, .int (u3)), (6, .int (v6))]) hx hb d_M_table_118 hl (by decide) rfl (fun ls hl => ?_)
                          refine lv_iinc (k := 6) (v := v6 + 1) (lv' := [(6, .int (v6 + 1)), (5, .int (m_I σ 2 ((v6 : Int32).toNatClampNeg))), (4, .int (v4 + 0)), (0, .ref (b 0)), (1, .int (u1)), (2, .int (u2)), (3, .int (u3))]) hx hb d_M_table_120 hl rfl rfl (by decide) rfl (fun ls hl => ?_)
                          refine lv_goto (tgt := 43) hx hb d_M_table_123 (by decide) ?_
                          exact ih _ _ _ _ _ ls h (lv_sub hl [3, 4, 5, 6, 2, 1, 0] rfl) V
            replace hl := lv_sub (l' := [(0, .ref (b 0)), (1, .int (a1)), (2, .int (a2)), (3, .int (a3)), (4, .int (0)), (5, .int (64)), (6, .int (0))]) hl [3, 4, 5, 6, 2, 1, 0] rfl
            refine lp43 _ _ _ _ ?_ _ _ _ _ _ _ ls h hl V
            intro v4 v5 H locs ls h hl V
            refine lv_aload_n hx hb d_M_table_126 rfl (lv_at hl 0 rfl) ?_
            refine lv_iload_n hx hb d_M_table_127 rfl (lv_at hl 1 rfl) ?_
            refine lv_iload_n hx hb d_M_table_128 rfl (lv_at hl 2 rfl) ?_
            obtain ⟨r12, h11, h⟩ := q_bind h
            refine m_cV_i (As := [.int (a1), .int (a2)]) (rest := []) G V hml (c_M_inTable l D b cs N σ a1 a2 r12 h11) 0 4 rfl m_w0 g_M_155 e_M_inTable ⟨Nat.le_of_ble_eq_true rfl, Nat.le_of_ble_eq_true rfl⟩ ⟨rfl, rfl⟩ ⟨Nat.zero_le _, Nat.zero_le _⟩ rfl hl.1 rfl (Nat.le_of_ble_eq_true rfl) d_M_table_129 (fun H locs V => ?_)
            refine lv_istore (lv' := [(6, .int (r12)), (0, .ref (b 0)), (1, .int (a1)), (2, .int (a2)), (3, .int (a3)), (4, .int (v4)), (5, .int (v5))]) hx hb d_M_table_132 hl (by decide) rfl (fun ls hl => ?_)
            refine lv_iload_n hx hb d_M_table_134 rfl (lv_at hl 4 rfl) ?_
            refine lv_if_ne (tgt := 143) hx hb d_M_table_135 (by decide) (fun hc => ?_) (fun hc => ?_)
            · replace h := q_ifn hc h
              refine lv_iload_n hx hb d_M_table_143 rfl (lv_at hl 4 rfl) ?_
              refine lv_iconst (v := 1) hx hb d_M_table_144 (by decide) ?_
              refine lv_icmp_ne (tgt := 153) hx hb d_M_table_145 (by decide) (fun hc => ?_) (fun hc => ?_)
              · replace h := q_ifn hc h
                refine lv_iload_n hx hb d_M_table_153 rfl (lv_at hl 4 rfl) ?_
                refine lv_iconst (v := 2) hx hb d_M_table_154 (by decide) ?_
                refine lv_icmp_ne (tgt := 167) hx hb d_M_table_155 (by decide) (fun hc => ?_) (fun hc => ?_)
                · replace h := q_ifn hc h
                  refine lv_iload hx hb d_M_table_167 (lv_at hl 6 rfl) ?_
                  exact m_pret_i G hr hlk h rfl V d_M_table_169
                · replace h := q_ifp hc h
                  refine lv_iload hx hb d_M_table_158 (lv_at hl 0 rfl) ?_
                  refine lv_iconst (v := 3) hx hb d_M_table_160 (by decide) ?_
                  refine lv_iadd hx hb d_M_table_161 ?_
                  refine lv_iconst (v := 4) hx hb d_M_table_162 (by decide) ?_
                  refine lv_idiv hx hb d_M_table_163 (by decide) ?_
                  refine lv_goto (tgt := 169) hx hb d_M_table_164 (by decide) ?_
                  exact m_pret_i G hr hlk h rfl V d_M_table_169
              · replace h := q_ifp hc h
                refine lv_iload hx hb d_M_table_148 (lv_at hl 5 rfl) ?_
                refine lv_goto (tgt := 169) hx hb d_M_table_150 (by decide) ?_
                exact m_pret_i G hr hlk h rfl V d_M_table_169
            · replace h := q_ifp hc h
              refine lv_iload hx hb d_M_table_138 (lv_at hl 0 rfl) ?_
              refine lv_goto (tgt := 169) hx hb d_M_table_140 (by decide) ?_
              exact m_pret_i G hr hlk h rfl V d_M_table_169
          · replace h := q_ifn hc h
            refine lv_iconst (v := (-1)) hx hb d_M_table_31 (by decide) ?_
            exact m_pret_i G hr hlk h rfl V d_M_table_32

set_option maxHeartbeats 40000000 in
set_option maxRecDepth 100000 in
theorem c_M_log (l : Launch) (D : va_G) (b : Nat → Nat) (cs : Nat → ClassId) (N : Nat) (σ : m_T) (r : Int32) (h : f_M_log N σ = some r) : m_Ci l y_M_log b_M_log 5 (some .int) { frames := 0, cells := 0, slots := 0, locals := 0 } D b cs σ [.ref (b 0)] r σ := by
  refine m_met_i (own := R_M) (by decide) rfl (Nat.le_of_ble_eq_true rfl) ?_
  intro p e s m args below meth c A G hr hlk hml ls hl V
  have hx := G.1
  have hb := G.2.1
  have hown := G.2.2.1
  have hts := G.2.2.2.1
  have hN := G.2.2.2.2.2
  have hl : lv_has ls 5 [(0, .ref (b 0))] := hl
  unfold f_M_log at h
  refine lv_iconst (v := 0) hx hb d_M_log_0 (by decide) ?_
  refine lv_istore_n (lv' := [(1, .int (0)), (0, .ref (b 0))]) hx hb d_M_log_1 rfl hl (by decide) rfl (fun ls hl => ?_)
  refine lv_iconst (v := 0) hx hb d_M_log_2 (by decide) ?_
  refine lv_istore_n (lv' := [(2, .int (0)), (1, .int (0)), (0, .ref (b 0))]) hx hb d_M_log_3 rfl hl (by decide) rfl (fun ls hl => ?_)
  have lp4 : ∀ (K : Int32 → Option Int32) (_ : ∀ (v1 : Int32) (H : Heap) (locs : List Loc) (ls : Array Slot), K v1 = some r → lv_has ls 5 [(1, .int (v1))] → m_V D b cs σ A s.heap H locs → W p l e { frames := 0, cells := 0, slots := 0, locals := 0 } s m args below meth c H locs 0 0 (m_Qi below args s D b cs A r σ) (F0 m 98 ls [])) (n : Nat) (v1 : Int32) (v2 : Int32) (H : Heap) (locs : List Loc) (ls : Array Slot), f_M_log_L4 N σ K n v1 v2 = some r → lv_has ls 5 [(0, .ref (b 0)), (1, .int (v1)), (2, .int (v2))] → m_V D b cs σ A s.heap H locs → W p l e { frames := 0, cells := 0, slots := 0, locals := 0 } s m args below meth c H locs 0 0 (m_Qi below args s D b cs A r σ) (F0 m 4 ls []) := by
    intro K hK n
    induction n with
    | zero => intro v1 v2 H locs ls h hl V; cases h
    | succ n ih =>
      intro v1 v2 H locs ls h hl V
      rw [f_M_log_L4] at h
      refine lv_iload_n hx hb d_M_log_4 rfl (lv_at hl 2 rfl) ?_
      refine lv_aload_n hx hb d_M_log_5 rfl (lv_at hl 0 rfl) ?_
      refine m_get (v := .int (m_S σ 0)) G V 0 4 0 m_w0 rfl in_M (by decide) k_M_79 rfl d_M_log_6 ?_
      refine lv_icmp_ge (tgt := 98) hx hb d_M_log_9 (by decide) (fun hc => ?_) (fun hc => ?_)
      · replace h := q_ifp hc h
        exact hK _ _ _ ls h (lv_sub hl [1] rfl) V
      · replace h := q_ifn hc h
        refine lv_aload_n hx hb d_M_log_12 rfl (lv_at hl 0 rfl) ?_
        refine m_get (v := .ref (b 8)) G V 0 4 8 m_w0 rfl in_M (by decide) k_M_31 rfl d_M_log_13 ?_
        refine lv_iload_n hx hb d_M_log_16 rfl (lv_at hl 2 rfl) ?_
        obtain ⟨g1, h⟩ := q_gd_h h
        refine m_iald G V 8 m_w8 g1 d_M_log_17 ?_
        refine lv_iconst (v := (-1)) hx hb d_M_log_18 (by decide) ?_
        refine lv_icmp_ne (tgt := 26) hx hb d_M_log_19 (by decide) (fun hc => ?_) (fun hc => ?_)
        · replace h := q_ifn hc h
          refine lv_iconst (v := 0) hx hb d_M_log_26 (by decide) ?_
          refine lv_istore_n (lv' := [(3, .int (0)), (0, .ref (b 0)), (1, .int (v1)), (2, .int (v2))]) hx hb d_M_log_27 rfl hl (by decide) rfl (fun ls hl => ?_)
          refine lv_iconst (v := 0) hx hb d_M_log_28 (by decide) ?_
          refine lv_istore (lv' := [(4, .int (0)), (3, .int (0)), (0, .ref (b 0)), (1, .int (v1)), (2, .int (v2))]) hx hb d_M_log_29 hl (by decide) rfl (fun ls hl => ?_)
          have lp31 : ∀ (u1 : Int32) (u2 : Int32) (K : Int32 → Option Int32) (_ : ∀ (v3 : Int32) (H : Heap) (locs : List Loc) (ls : Array Slot), K v3 = some r → lv_has ls 5 [(0, .ref (b 0)), (1, .int (u1)), (2, .int (u2)), (3, .int (v3))] → m_V D b cs σ A s.heap H locs → W p l e { frames := 0, cells := 0, slots := 0, locals := 0 } s m args below meth c H locs 0 0 (m_Qi below args s D b cs A r σ) (F0 m 80 ls [])) (n : Nat) (v3 : Int32) (v4 : Int32) (H : Heap) (locs : List Loc) (ls : Array Slot), f_M_log_L31 N σ u1 u2 K n v3 v4 = some r → lv_has ls 5 [(0, .ref (b 0)), (1, .int (u1)), (2, .int (u2)), (3, .int (v3)), (4, .int (v4))] → m_V D b cs σ A s.heap H locs → W p l e { frames := 0, cells := 0, slots := 0, locals := 0 } s m args below meth c H locs 0 0 (m_Qi below args s D b cs A r σ) (F0 m 31 ls []) := by
            intro u1 u2 K hK n
            induction n with
            | zero => intro v3 v4 H locs ls h hl V; cases h
            | succ n ih =>
              intro v3 v4 H locs ls h hl V
              rw [f_M_log_L31] at h
              refine lv_iload hx hb d_M_log_31 (lv_at hl 4 rfl) ?_
              refine lv_iload_n hx hb d_M_log_33 rfl (lv_at hl 2 rfl) ?_
              refine lv_icmp_ge (tgt := 80) hx hb d_M_log_34 (by decide) (fun hc => ?_) (fun hc => ?_)
              · replace h := q_ifp hc h
                exact hK _ _ _ ls h (lv_sub hl [0, 1, 2, 3] rfl) V
              · replace h := q_ifn hc h
                refine lv_iload_n hx hb d_M_log_37 rfl (lv_at hl 3 rfl) ?_
                refine lv_if_eq (tgt := 72) hx hb d_M_log_38 (by decide) (fun hc => ?_) (fun hc => ?_)
                · replace h := q_ifp hc h
                  refine lv_iconst (v := 0) hx hb d_M_log_72 (by decide) ?_
                  refine lv_istore_n (lv' := [(3, .int (0)), (0, .ref (b 0)), (1, .int (u1)), (2, .int (u2)), (4, .int (v4))]) hx hb d_M_log_73 rfl hl (by decide) rfl (fun ls hl => ?_)
                  refine lv_iinc (k := 4) (v := v4 + 1) (lv' := [(4, .int (v4 + 1)), (3, .int (0)), (0, .ref (b 0)), (1, .int (u1)), (2, .int (u2))]) hx hb d_M_log_74 hl rfl rfl (by decide) rfl (fun ls hl => ?_)
                  refine lv_goto (tgt := 31) hx hb d_M_log_77 (by decide) ?_
                  exact ih _ _ _ _ ls h (lv_sub hl [2, 3, 4, 1, 0] rfl) V
                · replace h := q_ifn hc h
                  refine lv_aload_n hx hb d_M_log_41 rfl (lv_at hl 0 rfl) ?_
                  refine m_get (v := .ref (b 8)) G V 0 4 8 m_w0 rfl in_M (by decide) k_M_31 rfl d_M_log_42 ?_
                  refine lv_iload hx hb d_M_log_45 (lv_at hl 4 rfl) ?_
                  obtain ⟨g2, h⟩ := q_gd_h h
                  refine m_iald G V 8 m_w8 g2 d_M_log_47 ?_
                  refine lv_iconst (v := (-1)) hx hb d_M_log_48 (by decide) ?_
                  refine lv_icmp_ne (tgt := 68) hx hb d_M_log_49 (by decide) (fun hc => ?_) (fun hc => ?_)
                  · replace h := q_ifn hc h
                    refine lv_iconst (v := 1) hx hb d_M_log_68 (by decide) ?_
                    refine lv_goto (tgt := 73) hx hb d_M_log_69 (by decide) ?_
                    refine lv_istore_n (lv' := [(3, .int (1)), (0, .ref (b 0)), (1, .int (u1)), (2, .int (u2)), (4, .int (v4))]) hx hb d_M_log_73 rfl hl (by decide) rfl (fun ls hl => ?_)
                    refine lv_iinc (k := 4) (v := v4 + 1) (lv' := [(4, .int (v4 + 1)), (3, .int (1)), (0, .ref (b 0)), (1, .int (u1)), (2, .int (u2))]) hx hb d_M_log_74 hl rfl rfl (by decide) rfl (fun ls hl => ?_)
                    refine lv_goto (tgt := 31) hx hb d_M_log_77 (by decide) ?_
                    exact ih _ _ _ _ ls h (lv_sub hl [2, 3, 4, 1, 0] rfl) V
                  · replace h := q_ifp hc h
                    refine lv_aload_n hx hb d_M_log_52 rfl (lv_at hl 0 rfl) ?_
                    refine m_get (v := .ref (b 6)) G V 0 4 6 m_w0 rfl in_M (by decide) k_M_25 rfl d_M_log_53 ?_
                    refine lv_iload hx hb d_M_log_56 (lv_at hl 4 rfl) ?_
                    obtain ⟨g3, h⟩ := q_gd_h h
                    refine m_iald G V 6 m_w6 g3 d_M_log_58 ?_
                    refine lv_aload_n hx hb d_M_log_59 rfl (lv_at hl 0 rfl) ?_
                    refine m_get (v := .ref (b 6)) G V 0 4 6 m_w0 rfl in_M (by decide) k_M_25 rfl d_M_log_60 ?_
                    refine lv_iload_n hx hb d_M_log_63 rfl (lv_at hl 2 rfl) ?_
                    obtain ⟨g4, h⟩ := q_gd_h h
                    refine m_iald G V 6 m_w6 g4 d_M_log_64 ?_
                    refine lv_icmp_eq (tgt := 72) hx hb d_M_log_65 (by decide) (fun hc => ?_) (fun hc => ?_)
                    · replace h := q_ifp hc h
                      refine lv_iconst (v := 0) hx hb d_M_log_72 (by decide) ?_
                      refine lv_istore_n (lv' := [(3, .int (0)), (0, .ref (b 0)), (1, .int (u1)), (2, .int (u2)), (4, .int (v4))]) hx hb d_M_log_73 rfl hl (by decide) rfl (fun ls hl => ?_)
                      refine lv_iinc (k := 4) (v := v4 + 1) (lv' := [(4, .int (v4 + 1)), (3, .int (0)), (0, .ref (b 0)), (1, .int (u1)), (2, .int (u2))]) hx hb d_M_log_74 hl rfl rfl (by decide) rfl (fun ls hl => ?_)
                      refine lv_goto (tgt := 31) hx hb d_M_log_77 (by decide) ?_
                      exact ih _ _ _ _ ls h (lv_sub hl [2, 3, 4, 1, 0] rfl) V
                    · replace h := q_ifn hc h
                      refine lv_iconst (v := 1) hx hb d_M_log_68 (by decide) ?_
                      refine lv_goto (tgt := 73) hx hb d_M_log_69 (by decide) ?_
                      refine lv_istore_n (lv' := [(3, .int (1)), (0, .ref (b 0)), (1, .int (u1)), (2, .int (u2)), (4, .int (v4))]) hx hb d_M_log_73 rfl hl (by decide) rfl (fun ls hl => ?_)
                      refine lv_iinc (k := 4) (v := v4 + 1) (lv' := [(4, .int (v4 + 1)), (3, .int (1)), (0, .ref (b 0)), (1, .int (u1)), (2, .int (u2))]) hx hb d_M_log_74 hl rfl rfl (by decide) rfl (fun ls hl => ?_)
                      refine lv_goto (tgt := 31) hx hb d_M_log_77 (by decide) ?_
                      exact ih _ _ _ _ ls h (lv_sub hl [2, 3, 4, 1, 0] rfl) V
          replace hl := lv_sub (l' := [(0, .ref (b 0)), (1, .int (v1)), (2, .int (v2)), (3, .int (0)), (4, .int (0))]) hl [2, 3, 4, 1, 0] rfl
          refine lp31 _ _ _ ?_ _ _ _ _ _ ls h hl V
          intro v3 H locs ls h hl V
          refine lv_iload_n hx hb d_M_log_80 rfl (lv_at hl 1 rfl) ?_
          refine lv_iload_n hx hb d_M_log_81 rfl (lv_at hl 3 rfl) ?_
          refine lv_if_eq (tgt := 89) hx hb d_M_log_82 (by decide) (fun hc => ?_) (fun hc => ?_)
          · replace h := q_ifp hc h
            refine lv_iconst (v := 0) hx hb d_M_log_89 (by decide) ?_
            refine lv_iadd hx hb d_M_log_90 ?_
            refine lv_istore_n (lv' := [(1, .int (v1 + 0)), (0, .ref (b 0)), (2, .int (v2)), (3, .int (v3))]) hx hb d_M_log_91 rfl hl (by decide) rfl (fun ls hl => ?_)
            refine lv_iinc (k := 2) (v := v2 + 1) (lv' := [(2, .int (v2 + 1)), (1, .int (v1 + 0)), (0, .ref (b 0)), (3, .int (v3))]) hx hb d_M_log_92 hl rfl rfl (by decide) rfl (fun ls hl => ?_)
            refine lv_goto (tgt := 4) hx hb d_M_log_95 (by decide) ?_
            exact ih _ _ _ _ ls h (lv_sub hl [2, 1, 0] rfl) V
          · replace h := q_ifn hc h
            refine lv_iconst (v := 1) hx hb d_M_log_85 (by decide) ?_
            refine lv_goto (tgt := 90) hx hb d_M_log_86 (by decide) ?_
            refine lv_iadd hx hb d_M_log_90 ?_
            refine lv_istore_n (lv' := [(1, .int (v1 + 1)), (0, .ref (b 0)), (2, .int (v2)), (3, .int (v3))]) hx hb d_M_log_91 rfl hl (by decide) rfl (fun ls hl => ?_)
            refine lv_iinc (k := 2) (v := v2 + 1) (lv' := [(2, .int (v2 + 1)), (1, .int (v1 + 1)), (0, .ref (b 0)), (3, .int (v3))]) hx hb d_M_log_92 hl rfl rfl (by decide) rfl (fun ls hl => ?_)
            refine lv_goto (tgt := 4) hx hb d_M_log_95 (by decide) ?_
            exact ih _ _ _ _ ls h (lv_sub hl [2, 1, 0] rfl) V
        · replace h := q_ifp hc h
          refine lv_iconst (v := 1) hx hb d_M_log_22 (by decide) ?_
          refine lv_goto (tgt := 27) hx hb d_M_log_23 (by decide) ?_
          refine lv_istore_n (lv' := [(3, .int (1)), (0, .ref (b 0)), (1, .int (v1)), (2, .int (v2))]) hx hb d_M_log_27 rfl hl (by decide) rfl (fun ls hl => ?_)
          refine lv_iconst (v := 0) hx hb d_M_log_28 (by decide) ?_
          refine lv_istore (lv' := [(4, .int (0)), (3, .int (1)), (0, .ref (b 0)), (1, .int (v1)), (2, .int (v2))]) hx hb d_M_log_29 hl (by decide) rfl (fun ls hl => ?_)
          have lp31 : ∀ (u1 : Int32) (u2 : Int32) (K : Int32 → Option Int32) (_ : ∀ (v3 : Int32) (H : Heap) (locs : List Loc) (ls : Array Slot), K v3 = some r → lv_has ls 5 [(0, .ref (b 0)), (1, .int (u1)), (2, .int (u2)), (3, .int (v3))] → m_V D b cs σ A s.heap H locs → W p l e { frames := 0, cells := 0, slots := 0, locals := 0 } s m args below meth c H locs 0 0 (m_Qi below args s D b cs A r σ) (F0 m 80 ls [])) (n : Nat) (v3 : Int32) (v4 : Int32) (H : Heap) (locs : List Loc) (ls : Array Slot), f_M_log_L31 N σ u1 u2 K n v3 v4 = some r → lv_has ls 5 [(0, .ref (b 0)), (1, .int (u1)), (2, .int (u2)), (3, .int (v3)), (4, .int (v4))] → m_V D b cs σ A s.heap H locs → W p l e { frames := 0, cells := 0, slots := 0, locals := 0 } s m args below meth c H locs 0 0 (m_Qi below args s D b cs A r σ) (F0 m 31 ls []) := by
            intro u1 u2 K hK n
            induction n with
            | zero => intro v3 v4 H locs ls h hl V; cases h
            | succ n ih =>
              intro v3 v4 H locs ls h hl V
              rw [f_M_log_L31] at h
              refine lv_iload hx hb d_M_log_31 (lv_at hl 4 rfl) ?_
              refine lv_iload_n hx hb d_M_log_33 rfl (lv_at hl 2 rfl) ?_
              refine lv_icmp_ge (tgt := 80) hx hb d_M_log_34 (by decide) (fun hc => ?_) (fun hc => ?_)
              · replace h := q_ifp hc h
                exact hK _ _ _ ls h (lv_sub hl [0, 1, 2, 3] rfl) V
              · replace h := q_ifn hc h
                refine lv_iload_n hx hb d_M_log_37 rfl (lv_at hl 3 rfl) ?_
                refine lv_if_eq (tgt := 72) hx hb d_M_log_38 (by decide) (fun hc => ?_) (fun hc => ?_)
                · replace h := q_ifp hc h
                  refine lv_iconst (v := 0) hx hb d_M_log_72 (by decide) ?_
                  refine lv_istore_n (lv' := [(3, .int (0)), (0, .ref (b 0)), (1, .int (u1)), (2, .int (u2)), (4, .int (v4))]) hx hb d_M_log_73 rfl hl (by decide) rfl (fun ls hl => ?_)
                  refine lv_iinc (k := 4) (v := v4 + 1) (lv' := [(4, .int (v4 + 1)), (3, .int (0)), (0, .ref (b 0)), (1, .int (u1)), (2, .int (u2))]) hx hb d_M_log_74 hl rfl rfl (by decide) rfl (fun ls hl => ?_)
                  refine lv_goto (tgt := 31) hx hb d_M_log_77 (by decide) ?_
                  exact ih _ _ _ _ ls h (lv_sub hl [2, 3, 4, 1, 0] rfl) V
                · replace h := q_ifn hc h
                  refine lv_aload_n hx hb d_M_log_41 rfl (lv_at hl 0 rfl) ?_
                  refine m_get (v := .ref (b 8)) G V 0 4 8 m_w0 rfl in_M (by decide) k_M_31 rfl d_M_log_42 ?_
                  refine lv_iload hx hb d_M_log_45 (lv_at hl 4 rfl) ?_
                  obtain ⟨g5, h⟩ := q_gd_h h
                  refine m_iald G V 8 m_w8 g5 d_M_log_47 ?_
                  refine lv_iconst (v := (-1)) hx hb d_M_log_48 (by decide) ?_
                  refine lv_icmp_ne (tgt := 68) hx hb d_M_log_49 (by decide) (fun hc => ?_) (fun hc => ?_)
                  · replace h := q_ifn hc h
                    refine lv_iconst (v := 1) hx hb d_M_log_68 (by decide) ?_
                    refine lv_goto (tgt := 73) hx hb d_M_log_69 (by decide) ?_
                    refine lv_istore_n (lv' := [(3, .int (1)), (0, .ref (b 0)), (1, .int (u1)), (2, .int (u2)), (4, .int (v4))]) hx hb d_M_log_73 rfl hl (by decide) rfl (fun ls hl => ?_)
                    refine lv_iinc (k := 4) (v := v4 + 1) (lv' := [(4, .int (v4 + 1)), (3, .int (1)), (0, .ref (b 0)), (1, .int (u1)), (2, .int (u2))]) hx hb d_M_log_74 hl rfl rfl (by decide) rfl (fun ls hl => ?_)
                    refine lv_goto (tgt := 31) hx hb d_M_log_77 (by decide) ?_
                    exact ih _ _ _ _ ls h (lv_sub hl [2, 3, 4, 1, 0] rfl) V
                  · replace h := q_ifp hc h
                    refine lv_aload_n hx hb d_M_log_52 rfl (lv_at hl 0 rfl) ?_
                    refine m_get (v := .ref (b 6)) G V 0 4 6 m_w0 rfl in_M (by decide) k_M_25 rfl d_M_log_53 ?_
                    refine lv_iload hx hb d_M_log_56 (lv_at hl 4 rfl) ?_
                    obtain ⟨g6, h⟩ := q_gd_h h
                    refine m_iald G V 6 m_w6 g6 d_M_log_58 ?_
                    refine lv_aload_n hx hb d_M_log_59 rfl (lv_at hl 0 rfl) ?_
                    refine m_get (v := .ref (b 6)) G V 0 4 6 m_w0 rfl in_M (by decide) k_M_25 rfl d_M_log_60 ?_
                    refine lv_iload_n hx hb d_M_log_63 rfl (lv_at hl 2 rfl) ?_
                    obtain ⟨g7, h⟩ := q_gd_h h
                    refine m_iald G V 6 m_w6 g7 d_M_log_64 ?_
                    refine lv_icmp_eq (tgt := 72) hx hb d_M_log_65 (by decide) (fun hc => ?_) (fun hc => ?_)
                    · replace h := q_ifp hc h
                      refine lv_iconst (v := 0) hx hb d_M_log_72 (by decide) ?_
                      refine lv_istore_n (lv' := [(3, .int (0)), (0, .ref (b 0)), (1, .int (u1)), (2, .int (u2)), (4, .int (v4))]) hx hb d_M_log_73 rfl hl (by decide) rfl (fun ls hl => ?_)
                      refine lv_iinc (k := 4) (v := v4 + 1) (lv' := [(4, .int (v4 + 1)), (3, .int (0)), (0, .ref (b 0)), (1, .int (u1)), (2, .int (u2))]) hx hb d_M_log_74 hl rfl rfl (by decide) rfl (fun ls hl => ?_)
                      refine lv_goto (tgt := 31) hx hb d_M_log_77 (by decide) ?_
                      exact ih _ _ _ _ ls h (lv_sub hl [2, 3, 4, 1, 0] rfl) V
                    · replace h := q_ifn hc h
                      refine lv_iconst (v := 1) hx hb d_M_log_68 (by decide) ?_
                      refine lv_goto (tgt := 73) hx hb d_M_log_69 (by decide) ?_
                      refine lv_istore_n (lv' := [(3, .int (1)), (0, .ref (b 0)), (1, .int (u1)), (2, .int (u2)), (4, .int (v4))]) hx hb d_M_log_73 rfl hl (by decide) rfl (fun ls hl => ?_)
                      refine lv_iinc (k := 4) (v := v4 + 1) (lv' := [(4, .int (v4 + 1)), (3, .int (1)), (0, .ref (b 0)), (1, .int (u1)), (2, .int (u2))]) hx hb d_M_log_74 hl rfl rfl (by decide) rfl (fun ls hl => ?_)
                      refine lv_goto (tgt := 31) hx hb d_M_log_77 (by decide) ?_
                      exact ih _ _ _ _ ls h (lv_sub hl [2, 3, 4, 1, 0] rfl) V
          replace hl := lv_sub (l' := [(0, .ref (b 0)), (1, .int (v1)), (2, .int (v2)), (3, .int (1)), (4, .int (0))]) hl [2, 3, 4, 1, 0] rfl
          refine lp31 _ _ _ ?_ _ _ _ _ _ ls h hl V
          intro v3 H locs ls h hl V
          refine lv_iload_n hx hb d_M_log_80 rfl (lv_at hl 1 rfl) ?_
          refine lv_iload_n hx hb d_M_log_81 rfl (lv_at hl 3 rfl) ?_
          refine lv_if_eq (tgt := 89) hx hb d_M_log_82 (by decide) (fun hc => ?_) (fun hc => ?_)
          · replace h := q_ifp hc h
            refine lv_iconst (v := 0) hx hb d_M_log_89 (by decide) ?_
            refine lv_iadd hx hb d_M_log_90 ?_
            refine lv_istore_n (lv' := [(1, .int (v1 + 0)), (0, .ref (b 0)), (2, .int (v2)), (3, .int (v3))]) hx hb d_M_log_91 rfl hl (by decide) rfl (fun ls hl => ?_)
            refine lv_iinc (k := 2) (v := v2 + 1) (lv' := [(2, .int (v2 + 1)), (1, .int (v1 + 0)), (0, .ref (b 0)), (3, .int (v3))]) hx hb d_M_log_92 hl rfl rfl (by decide) rfl (fun ls hl => ?_)
            refine lv_goto (tgt := 4) hx hb d_M_log_95 (by decide) ?_
            exact ih _ _ _ _ ls h (lv_sub hl [2, 1, 0] rfl) V
          · replace h := q_ifn hc h
            refine lv_iconst (v := 1) hx hb d_M_log_85 (by decide) ?_
            refine lv_goto (tgt := 90) hx hb d_M_log_86 (by decide) ?_
            refine lv_iadd hx hb d_M_log_90 ?_
            refine lv_istore_n (lv' := [(1, .int (v1 + 1)), (0, .ref (b 0)), (2, .int (v2)), (3, .int (v3))]) hx hb d_M_log_91 rfl hl (by decide) rfl (fun ls hl => ?_)
            refine lv_iinc (k := 2) (v := v2 + 1) (lv' := [(2, .int (v2 + 1)), (1, .int (v1 + 1)), (0, .ref (b 0)), (3, .int (v3))]) hx hb d_M_log_92 hl rfl rfl (by decide) rfl (fun ls hl => ?_)
            refine lv_goto (tgt := 4) hx hb d_M_log_95 (by decide) ?_
            exact ih _ _ _ _ ls h (lv_sub hl [2, 1, 0] rfl) V
  replace hl := lv_sub (l' := [(0, .ref (b 0)), (1, .int (0)), (2, .int (0))]) hl [2, 1, 0] rfl
  refine lp4 _ ?_ _ _ _ _ _ ls h hl V
  intro v1 H locs ls h hl V
  refine lv_iload_n hx hb d_M_log_98 rfl (lv_at hl 0 rfl) ?_
  exact m_pret_i G hr hlk h rfl V d_M_log_99

set_option maxHeartbeats 40000000 in
set_option maxRecDepth 100000 in
theorem c_M_looked (l : Launch) (D : va_G) (b : Nat → Nat) (cs : Nat → ClassId) (N : Nat) (σ : m_T) (r : Int32) (h : f_M_looked N σ = some r) : m_Ci l y_M_looked b_M_looked 1 (some .int) { frames := 0, cells := 0, slots := 0, locals := 0 } D b cs σ [.ref (b 0)] r σ := by
  refine m_met_i (own := R_M) (by decide) rfl (Nat.le_of_ble_eq_true rfl) ?_
  intro p e s m args below meth c A G hr hlk hml ls hl V
  have hx := G.1
  have hb := G.2.1
  have hown := G.2.2.1
  have hts := G.2.2.2.1
  have hN := G.2.2.2.2.2
  have hl : lv_has ls 1 [(0, .ref (b 0))] := hl
  unfold f_M_looked at h
  refine lv_aload_n hx hb d_M_looked_0 rfl (lv_at hl 0 rfl) ?_
  refine m_get (v := .int (m_S σ 31)) G V 0 4 31 m_w0 rfl in_M (by decide) k_M_165 rfl d_M_looked_1 ?_
  exact m_pret_i G hr hlk h rfl V d_M_looked_4
