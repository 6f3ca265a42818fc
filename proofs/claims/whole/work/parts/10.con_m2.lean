set_option maxHeartbeats 40000000 in
set_option maxRecDepth 100000 in
theorem c_M_put (l : Launch) (D : va_G) (b : Nat → Nat) (cs : Nat → ClassId) (N : Nat) (σ : m_T) (a1 : Int32) (a2 : Int32) (a3 : Int32) (a4 : Int32) (r : Int32) (σ' : m_T) (h : f_M_put N σ a1 a2 a3 a4 = some (r, σ')) : m_Ci l y_M_put b_M_put 5 (some .boolean) { frames := 2, cells := 0, slots := 0, locals := 41 } D b cs σ [.ref (b 0), .int (a1), .int (a2), .int (a3), .int (a4)] r σ' := by
  refine m_met_i (own := R_M) (by decide) rfl (Nat.le_of_ble_eq_true rfl) ?_
  intro p e s m args below meth c A G hr hlk hml ls hl V
  have hx := G.1
  have hb := G.2.1
  have hown := G.2.2.1
  have hts := G.2.2.2.1
  have hN := G.2.2.2.2.2
  have hl : lv_has ls 5 [(0, .ref (b 0)), (1, .int (a1)), (2, .int (a2)), (3, .int (a3)), (4, .int (a4))] := hl
  unfold f_M_put at h
  refine lv_iload_n hx hb d_M_put_0 rfl (lv_at hl 2 rfl) ?_
  obtain ⟨r2, h1, h⟩ := q_bind h
  refine q_cS_i (As := [.int (a2)]) (rest := []) hx hb hown hts hN hml (c_M_isColumn l a2 r2 h1) g_M_105 e_M_isColumn ⟨Nat.le_of_ble_eq_true rfl, Nat.le_of_ble_eq_true rfl⟩ ⟨rfl, rfl⟩ ⟨Nat.zero_le _, Nat.zero_le _⟩ rfl hl.1 rfl (Nat.le_of_ble_eq_true rfl) d_M_put_1 ?_
  refine lv_if_eq (tgt := 22) hx hb d_M_put_4 (by decide) (fun hc => ?_) (fun hc => ?_)
  · replace h := q_ifp hc h
    refine lv_iconst (v := 0) hx hb d_M_put_22 (by decide) ?_
    exact m_zret_i G hr hlk rfl h V d_M_put_23
  · replace h := q_ifn hc h
    refine lv_iload_n hx hb d_M_put_7 rfl (lv_at hl 3 rfl) ?_
    obtain ⟨r4, h3, h⟩ := q_bind h
    refine q_cS_i (As := [.int (a3)]) (rest := []) hx hb hown hts hN hml (c_M_isTime l a3 r4 h3) g_M_108 e_M_isTime ⟨Nat.le_of_ble_eq_true rfl, Nat.le_of_ble_eq_true rfl⟩ ⟨rfl, rfl⟩ ⟨Nat.zero_le _, Nat.zero_le _⟩ rfl hl.1 rfl (Nat.le_of_ble_eq_true rfl) d_M_put_8 ?_
    refine lv_if_eq (tgt := 22) hx hb d_M_put_11 (by decide) (fun hc => ?_) (fun hc => ?_)
    · replace h := q_ifp hc h
      refine lv_iconst (v := 0) hx hb d_M_put_22 (by decide) ?_
      exact m_zret_i G hr hlk rfl h V d_M_put_23
    · replace h := q_ifn hc h
      refine lv_aload_n hx hb d_M_put_14 rfl (lv_at hl 0 rfl) ?_
      refine lv_iload_n hx hb d_M_put_15 rfl (lv_at hl 1 rfl) ?_
      obtain ⟨r6, h5, h⟩ := q_bind h
      refine m_cV_i (As := [.int (a1)]) (rest := []) G V hml (c_M_takes l D b cs N σ a1 r6 h5) 0 4 rfl m_w0 g_M_111 e_M_takes ⟨Nat.le_of_ble_eq_true rfl, Nat.le_of_ble_eq_true rfl⟩ ⟨rfl, rfl⟩ ⟨Nat.zero_le _, Nat.zero_le _⟩ rfl hl.1 rfl (Nat.le_of_ble_eq_true rfl) d_M_put_16 (fun H locs V => ?_)
      refine lv_if_ne (tgt := 24) hx hb d_M_put_19 (by decide) (fun hc => ?_) (fun hc => ?_)
      · replace h := q_ifn hc h
        refine lv_aload_n hx hb d_M_put_24 rfl (lv_at hl 0 rfl) ?_
        refine lv_iconst (v := 0) hx hb d_M_put_25 (by decide) ?_
        refine lv_iload_n hx hb d_M_put_26 rfl (lv_at hl 1 rfl) ?_
        refine lv_iload_n hx hb d_M_put_27 rfl (lv_at hl 2 rfl) ?_
        refine lv_iload_n hx hb d_M_put_28 rfl (lv_at hl 3 rfl) ?_
        refine lv_iload hx hb d_M_put_29 (lv_at hl 4 rfl) ?_
        obtain ⟨s8, h7, h⟩ := q_bind h
        refine m_cV_v (As := [.int (0), .int (a1), .int (a2), .int (a3), .int (a4)]) (rest := []) G V hml (c_M_change l D b cs N σ 0 a1 a2 a3 a4 s8 h7) 0 4 rfl m_w0 g_M_114 e_M_change ⟨Nat.le_of_ble_eq_true rfl, Nat.le_of_ble_eq_true rfl⟩ ⟨rfl, rfl⟩ ⟨Nat.zero_le _, Nat.zero_le _⟩ rfl hl.1 rfl (Nat.le_of_ble_eq_true rfl) d_M_put_31 (fun H locs V => ?_)
        refine lv_iconst (v := 1) hx hb d_M_put_34 (by decide) ?_
        exact m_zret_i G hr hlk rfl h V d_M_put_35
      · replace h := q_ifp hc h
        refine lv_iconst (v := 0) hx hb d_M_put_22 (by decide) ?_
        exact m_zret_i G hr hlk rfl h V d_M_put_23

set_option maxHeartbeats 40000000 in
set_option maxRecDepth 100000 in
theorem c_M_erase (l : Launch) (D : va_G) (b : Nat → Nat) (cs : Nat → ClassId) (N : Nat) (σ : m_T) (a1 : Int32) (a2 : Int32) (a3 : Int32) (r : Int32) (σ' : m_T) (h : f_M_erase N σ a1 a2 a3 = some (r, σ')) : m_Ci l y_M_erase b_M_erase 6 (some .boolean) { frames := 2, cells := 0, slots := 0, locals := 41 } D b cs σ [.ref (b 0), .int (a1), .int (a2), .int (a3)] r σ' := by
  refine m_met_i (own := R_M) (by decide) rfl (Nat.le_of_ble_eq_true rfl) ?_
  intro p e s m args below meth c A G hr hlk hml ls hl V
  have hx := G.1
  have hb := G.2.1
  have hown := G.2.2.1
  have hts := G.2.2.2.1
  have hN := G.2.2.2.2.2
  have hl : lv_has ls 6 [(0, .ref (b 0)), (1, .int (a1)), (2, .int (a2)), (3, .int (a3))] := hl
  unfold f_M_erase at h
  refine lv_iload_n hx hb d_M_erase_0 rfl (lv_at hl 2 rfl) ?_
  refine lv_iconst (v := (-1)) hx hb d_M_erase_1 (by decide) ?_
  refine lv_icmp_ne (tgt := 14) hx hb d_M_erase_2 (by decide) (fun hc => ?_) (fun hc => ?_)
  · replace h := q_ifn hc h
    refine lv_iconst (v := 0) hx hb d_M_erase_14 (by decide) ?_
    refine lv_istore (lv' := [(4, .int (0)), (0, .ref (b 0)), (1, .int (a1)), (2, .int (a2)), (3, .int (a3))]) hx hb d_M_erase_15 hl (by decide) rfl (fun ls hl => ?_)
    refine lv_iload hx hb d_M_erase_17 (lv_at hl 0 rfl) ?_
    refine lv_if_ne (tgt := 41) hx hb d_M_erase_19 (by decide) (fun hc => absurd hc (by decide)) (fun _ => ?_)
    refine lv_iload_n hx hb d_M_erase_22 rfl (lv_at hl 3 rfl) ?_
    obtain ⟨r2, h1, h⟩ := q_bind h
    refine q_cS_i (As := [.int (a2)]) (rest := []) hx hb hown hts hN hml (c_M_isColumn l a2 r2 h1) g_M_105 e_M_isColumn ⟨Nat.le_of_ble_eq_true rfl, Nat.le_of_ble_eq_true rfl⟩ ⟨rfl, rfl⟩ ⟨Nat.zero_le _, Nat.zero_le _⟩ rfl hl.1 rfl (Nat.le_of_ble_eq_true rfl) d_M_erase_23 ?_
    refine lv_if_eq (tgt := 45) hx hb d_M_erase_26 (by decide) (fun hc => ?_) (fun hc => ?_)
    · replace h := q_ifp hc h
      refine lv_iconst (v := 0) hx hb d_M_erase_45 (by decide) ?_
      refine lv_istore (lv' := [(5, .int (0)), (4, .int (0)), (0, .ref (b 0)), (1, .int (a1)), (2, .int (a2)), (3, .int (a3))]) hx hb d_M_erase_46 hl (by decide) rfl (fun ls hl => ?_)
      refine lv_iload hx hb d_M_erase_48 (lv_at hl 0 rfl) ?_
      refine lv_if_eq (tgt := 61) hx hb d_M_erase_50 (by decide) (fun _ => ?_) (fun hc => absurd (by decide) hc)
      refine lv_iconst (v := 0) hx hb d_M_erase_61 (by decide) ?_
      exact m_zret_i G hr hlk rfl h V d_M_erase_62
    · replace h := q_ifn hc h
      refine lv_iload_n hx hb d_M_erase_29 rfl (lv_at hl 4 rfl) ?_
      refine lv_iconst (v := (-1)) hx hb d_M_erase_30 (by decide) ?_
      refine lv_icmp_eq (tgt := 41) hx hb d_M_erase_31 (by decide) (fun hc => ?_) (fun hc => ?_)
      · replace h := q_ifp hc h
        refine lv_iconst (v := 1) hx hb d_M_erase_41 (by decide) ?_
        refine lv_goto (tgt := 46) hx hb d_M_erase_42 (by decide) ?_
        refine lv_istore (lv' := [(5, .int (1)), (4, .int (0)), (0, .ref (b 0)), (1, .int (a1)), (2, .int (a2)), (3, .int (a3))]) hx hb d_M_erase_46 hl (by decide) rfl (fun ls hl => ?_)
        refine lv_iload hx hb d_M_erase_48 (lv_at hl 0 rfl) ?_
        refine lv_if_eq (tgt := 61) hx hb d_M_erase_50 (by decide) (fun hc => absurd hc (by decide)) (fun _ => ?_)
        refine lv_aload_n hx hb d_M_erase_53 rfl (lv_at hl 2 rfl) ?_
        refine lv_iload_n hx hb d_M_erase_54 rfl (lv_at hl 3 rfl) ?_
        obtain ⟨r4, h3, h⟩ := q_bind h
        refine m_cV_i (As := [.int (a1)]) (rest := []) G V hml (c_M_takes l D b cs N σ a1 r4 h3) 0 4 rfl m_w0 g_M_111 e_M_takes ⟨Nat.le_of_ble_eq_true rfl, Nat.le_of_ble_eq_true rfl⟩ ⟨rfl, rfl⟩ ⟨Nat.zero_le _, Nat.zero_le _⟩ rfl hl.1 rfl (Nat.le_of_ble_eq_true rfl) d_M_erase_55 (fun H locs V => ?_)
        refine lv_if_ne (tgt := 63) hx hb d_M_erase_58 (by decide) (fun hc => ?_) (fun hc => ?_)
        · replace h := q_ifn hc h
          refine lv_aload_n hx hb d_M_erase_63 rfl (lv_at hl 2 rfl) ?_
          refine lv_iload hx hb d_M_erase_64 (lv_at hl 1 rfl) ?_
          refine lv_if_eq (tgt := 73) hx hb d_M_erase_66 (by decide) (fun _ => ?_) (fun hc => absurd (by decide) hc)
          refine lv_iload_n hx hb d_M_erase_73 rfl (lv_at hl 5 rfl) ?_
          refine lv_iconst (v := (-1)) hx hb d_M_erase_74 (by decide) ?_
          refine lv_icmp_ne (tgt := 82) hx hb d_M_erase_75 (by decide) (fun hc => ?_) (fun hc => ?_)
          · replace h := q_ifn hc h
            refine lv_iconst (v := 1) hx hb d_M_erase_82 (by decide) ?_
            refine lv_iload_n hx hb d_M_erase_83 rfl (lv_at hl 3 rfl) ?_
            refine lv_iload_n hx hb d_M_erase_84 rfl (lv_at hl 4 rfl) ?_
            refine lv_iload_n hx hb d_M_erase_85 rfl (lv_at hl 5 rfl) ?_
            refine lv_iconst (v := 0) hx hb d_M_erase_86 (by decide) ?_
            obtain ⟨s6, h5, h⟩ := q_bind h
            refine m_cV_v (As := [.int (1), .int (a1), .int (a2), .int (a3), .int (0)]) (rest := []) G V hml (c_M_change l D b cs N σ 1 a1 a2 a3 0 s6 h5) 0 4 rfl m_w0 g_M_114 e_M_change ⟨Nat.le_of_ble_eq_true rfl, Nat.le_of_ble_eq_true rfl⟩ ⟨rfl, rfl⟩ ⟨Nat.zero_le _, Nat.zero_le _⟩ rfl hl.1 rfl (Nat.le_of_ble_eq_true rfl) d_M_erase_87 (fun H locs V => ?_)
            refine lv_iconst (v := 1) hx hb d_M_erase_90 (by decide) ?_
            exact m_zret_i G hr hlk rfl h V d_M_erase_91
          · replace h := q_ifp hc h
            refine lv_iconst (v := 2) hx hb d_M_erase_78 (by decide) ?_
            refine lv_goto (tgt := 83) hx hb d_M_erase_79 (by decide) ?_
            refine lv_iload_n hx hb d_M_erase_83 rfl (lv_at hl 3 rfl) ?_
            refine lv_iload_n hx hb d_M_erase_84 rfl (lv_at hl 4 rfl) ?_
            refine lv_iload_n hx hb d_M_erase_85 rfl (lv_at hl 5 rfl) ?_
            refine lv_iconst (v := 0) hx hb d_M_erase_86 (by decide) ?_
            obtain ⟨s8, h7, h⟩ := q_bind h
            refine m_cV_v (As := [.int (2), .int (a1), .int (a2), .int (a3), .int (0)]) (rest := []) G V hml (c_M_change l D b cs N σ 2 a1 a2 a3 0 s8 h7) 0 4 rfl m_w0 g_M_114 e_M_change ⟨Nat.le_of_ble_eq_true rfl, Nat.le_of_ble_eq_true rfl⟩ ⟨rfl, rfl⟩ ⟨Nat.zero_le _, Nat.zero_le _⟩ rfl hl.1 rfl (Nat.le_of_ble_eq_true rfl) d_M_erase_87 (fun H locs V => ?_)
            refine lv_iconst (v := 1) hx hb d_M_erase_90 (by decide) ?_
            exact m_zret_i G hr hlk rfl h V d_M_erase_91
        · replace h := q_ifp hc h
          refine lv_iconst (v := 0) hx hb d_M_erase_61 (by decide) ?_
          exact m_zret_i G hr hlk rfl h V d_M_erase_62
      · replace h := q_ifn hc h
        refine lv_iload_n hx hb d_M_erase_34 rfl (lv_at hl 4 rfl) ?_
        obtain ⟨r10, h9, h⟩ := q_bind h
        refine q_cS_i (As := [.int (a3)]) (rest := []) hx hb hown hts hN hml (c_M_isTime l a3 r10 h9) g_M_108 e_M_isTime ⟨Nat.le_of_ble_eq_true rfl, Nat.le_of_ble_eq_true rfl⟩ ⟨rfl, rfl⟩ ⟨Nat.zero_le _, Nat.zero_le _⟩ rfl hl.1 rfl (Nat.le_of_ble_eq_true rfl) d_M_erase_35 ?_
        refine lv_if_eq (tgt := 45) hx hb d_M_erase_38 (by decide) (fun hc => ?_) (fun hc => ?_)
        · replace h := q_ifp hc h
          refine lv_iconst (v := 0) hx hb d_M_erase_45 (by decide) ?_
          refine lv_istore (lv' := [(5, .int (0)), (4, .int (0)), (0, .ref (b 0)), (1, .int (a1)), (2, .int (a2)), (3, .int (a3))]) hx hb d_M_erase_46 hl (by decide) rfl (fun ls hl => ?_)
          refine lv_iload hx hb d_M_erase_48 (lv_at hl 0 rfl) ?_
          refine lv_if_eq (tgt := 61) hx hb d_M_erase_50 (by decide) (fun _ => ?_) (fun hc => absurd (by decide) hc)
          refine lv_iconst (v := 0) hx hb d_M_erase_61 (by decide) ?_
          exact m_zret_i G hr hlk rfl h V d_M_erase_62
        · replace h := q_ifn hc h
          refine lv_iconst (v := 1) hx hb d_M_erase_41 (by decide) ?_
          refine lv_goto (tgt := 46) hx hb d_M_erase_42 (by decide) ?_
          refine lv_istore (lv' := [(5, .int (1)), (4, .int (0)), (0, .ref (b 0)), (1, .int (a1)), (2, .int (a2)), (3, .int (a3))]) hx hb d_M_erase_46 hl (by decide) rfl (fun ls hl => ?_)
          refine lv_iload hx hb d_M_erase_48 (lv_at hl 0 rfl) ?_
          refine lv_if_eq (tgt := 61) hx hb d_M_erase_50 (by decide) (fun hc => absurd hc (by decide)) (fun _ => ?_)
          refine lv_aload_n hx hb d_M_erase_53 rfl (lv_at hl 2 rfl) ?_
          refine lv_iload_n hx hb d_M_erase_54 rfl (lv_at hl 3 rfl) ?_
          obtain ⟨r12, h11, h⟩ := q_bind h
          refine m_cV_i (As := [.int (a1)]) (rest := []) G V hml (c_M_takes l D b cs N σ a1 r12 h11) 0 4 rfl m_w0 g_M_111 e_M_takes ⟨Nat.le_of_ble_eq_true rfl, Nat.le_of_ble_eq_true rfl⟩ ⟨rfl, rfl⟩ ⟨Nat.zero_le _, Nat.zero_le _⟩ rfl hl.1 rfl (Nat.le_of_ble_eq_true rfl) d_M_erase_55 (fun H locs V => ?_)
          refine lv_if_ne (tgt := 63) hx hb d_M_erase_58 (by decide) (fun hc => ?_) (fun hc => ?_)
          · replace h := q_ifn hc h
            refine lv_aload_n hx hb d_M_erase_63 rfl (lv_at hl 2 rfl) ?_
            refine lv_iload hx hb d_M_erase_64 (lv_at hl 1 rfl) ?_
            refine lv_if_eq (tgt := 73) hx hb d_M_erase_66 (by decide) (fun _ => ?_) (fun hc => absurd (by decide) hc)
            refine lv_iload_n hx hb d_M_erase_73 rfl (lv_at hl 5 rfl) ?_
            refine lv_iconst (v := (-1)) hx hb d_M_erase_74 (by decide) ?_
            refine lv_icmp_ne (tgt := 82) hx hb d_M_erase_75 (by decide) (fun hc => ?_) (fun hc => ?_)
            · replace h := q_ifn hc h
              refine lv_iconst (v := 1) hx hb d_M_erase_82 (by decide) ?_
              refine lv_iload_n hx hb d_M_erase_83 rfl (lv_at hl 3 rfl) ?_
              refine lv_iload_n hx hb d_M_erase_84 rfl (lv_at hl 4 rfl) ?_
              refine lv_iload_n hx hb d_M_erase_85 rfl (lv_at hl 5 rfl) ?_
              refine lv_iconst (v := 0) hx hb d_M_erase_86 (by decide) ?_
              obtain ⟨s14, h13, h⟩ := q_bind h
              refine m_cV_v (As := [.int (1), .int (a1), .int (a2), .int (a3), .int (0)]) (rest := []) G V hml (c_M_change l D b cs N σ 1 a1 a2 a3 0 s14 h13) 0 4 rfl m_w0 g_M_114 e_M_change ⟨Nat.le_of_ble_eq_true rfl, Nat.le_of_ble_eq_true rfl⟩ ⟨rfl, rfl⟩ ⟨Nat.zero_le _, Nat.zero_le _⟩ rfl hl.1 rfl (Nat.le_of_ble_eq_true rfl) d_M_erase_87 (fun H locs V => ?_)
              refine lv_iconst (v := 1) hx hb d_M_erase_90 (by decide) ?_
              exact m_zret_i G hr hlk rfl h V d_M_erase_91
            · replace h := q_ifp hc h
              refine lv_iconst (v := 2) hx hb d_M_erase_78 (by decide) ?_
              refine lv_goto (tgt := 83) hx hb d_M_erase_79 (by decide) ?_
              refine lv_iload_n hx hb d_M_erase_83 rfl (lv_at hl 3 rfl) ?_
              refine lv_iload_n hx hb d_M_erase_84 rfl (lv_at hl 4 rfl) ?_
              refine lv_iload_n hx hb d_M_erase_85 rfl (lv_at hl 5 rfl) ?_
              refine lv_iconst (v := 0) hx hb d_M_erase_86 (by decide) ?_
              obtain ⟨s16, h15, h⟩ := q_bind h
              refine m_cV_v (As := [.int (2), .int (a1), .int (a2), .int (a3), .int (0)]) (rest := []) G V hml (c_M_change l D b cs N σ 2 a1 a2 a3 0 s16 h15) 0 4 rfl m_w0 g_M_114 e_M_change ⟨Nat.le_of_ble_eq_true rfl, Nat.le_of_ble_eq_true rfl⟩ ⟨rfl, rfl⟩ ⟨Nat.zero_le _, Nat.zero_le _⟩ rfl hl.1 rfl (Nat.le_of_ble_eq_true rfl) d_M_erase_87 (fun H locs V => ?_)
              refine lv_iconst (v := 1) hx hb d_M_erase_90 (by decide) ?_
              exact m_zret_i G hr hlk rfl h V d_M_erase_91
          · replace h := q_ifp hc h
            refine lv_iconst (v := 0) hx hb d_M_erase_61 (by decide) ?_
            exact m_zret_i G hr hlk rfl h V d_M_erase_62
  · replace h := q_ifp hc h
    refine lv_iload_n hx hb d_M_erase_5 rfl (lv_at hl 3 rfl) ?_
    refine lv_iconst (v := (-1)) hx hb d_M_erase_6 (by decide) ?_
    refine lv_icmp_ne (tgt := 14) hx hb d_M_erase_7 (by decide) (fun hc => ?_) (fun hc => ?_)
    · replace h := q_ifn hc h
      refine lv_iconst (v := 0) hx hb d_M_erase_14 (by decide) ?_
      refine lv_istore (lv' := [(4, .int (0)), (0, .ref (b 0)), (1, .int (a1)), (2, .int (a2)), (3, .int (a3))]) hx hb d_M_erase_15 hl (by decide) rfl (fun ls hl => ?_)
      refine lv_iload hx hb d_M_erase_17 (lv_at hl 0 rfl) ?_
      refine lv_if_ne (tgt := 41) hx hb d_M_erase_19 (by decide) (fun hc => absurd hc (by decide)) (fun _ => ?_)
      refine lv_iload_n hx hb d_M_erase_22 rfl (lv_at hl 3 rfl) ?_
      obtain ⟨r18, h17, h⟩ := q_bind h
      refine q_cS_i (As := [.int (a2)]) (rest := []) hx hb hown hts hN hml (c_M_isColumn l a2 r18 h17) g_M_105 e_M_isColumn ⟨Nat.le_of_ble_eq_true rfl, Nat.le_of_ble_eq_true rfl⟩ ⟨rfl, rfl⟩ ⟨Nat.zero_le _, Nat.zero_le _⟩ rfl hl.1 rfl (Nat.le_of_ble_eq_true rfl) d_M_erase_23 ?_
      refine lv_if_eq (tgt := 45) hx hb d_M_erase_26 (by decide) (fun hc => ?_) (fun hc => ?_)
      · replace h := q_ifp hc h
        refine lv_iconst (v := 0) hx hb d_M_erase_45 (by decide) ?_
        refine lv_istore (lv' := [(5, .int (0)), (4, .int (0)), (0, .ref (b 0)), (1, .int (a1)), (2, .int (a2)), (3, .int (a3))]) hx hb d_M_erase_46 hl (by decide) rfl (fun ls hl => ?_)
        refine lv_iload hx hb d_M_erase_48 (lv_at hl 0 rfl) ?_
        refine lv_if_eq (tgt := 61) hx hb d_M_erase_50 (by decide) (fun _ => ?_) (fun hc => absurd (by decide) hc)
        refine lv_iconst (v := 0) hx hb d_M_erase_61 (by decide) ?_
        exact m_zret_i G hr hlk rfl h V d_M_erase_62
      · replace h := q_ifn hc h
        refine lv_iload_n hx hb d_M_erase_29 rfl (lv_at hl 4 rfl) ?_
        refine lv_iconst (v := (-1)) hx hb d_M_erase_30 (by decide) ?_
        refine lv_icmp_eq (tgt := 41) hx hb d_M_erase_31 (by decide) (fun hc => ?_) (fun hc => ?_)
        · replace h := q_ifp hc h
          refine lv_iconst (v := 1) hx hb d_M_erase_41 (by decide) ?_
          refine lv_goto (tgt := 46) hx hb d_M_erase_42 (by decide) ?_
          refine lv_istore (lv' := [(5, .int (1)), (4, .int (0)), (0, .ref (b 0)), (1, .int (a1)), (2, .int (a2)), (3, .int (a3))]) hx hb d_M_erase_46 hl (by decide) rfl (fun ls hl => ?_)
          refine lv_iload hx hb d_M_erase_48 (lv_at hl 0 rfl) ?_
          refine lv_if_eq (tgt := 61) hx hb d_M_erase_50 (by decide) (fun hc => absurd hc (by decide)) (fun _ => ?_)
          refine lv_aload_n hx hb d_M_erase_53 rfl (lv_at hl 2 rfl) ?_
          refine lv_iload_n hx hb d_M_erase_54 rfl (lv_at hl 3 rfl) ?_
          obtain ⟨r20, h19, h⟩ := q_bind h
          refine m_cV_i (As := [.int (a1)]) (rest := []) G V hml (c_M_takes l D b cs N σ a1 r20 h19) 0 4 rfl m_w0 g_M_111 e_M_takes ⟨Nat.le_of_ble_eq_true rfl, Nat.le_of_ble_eq_true rfl⟩ ⟨rfl, rfl⟩ ⟨Nat.zero_le _, Nat.zero_le _⟩ rfl hl.1 rfl (Nat.le_of_ble_eq_true rfl) d_M_erase_55 (fun H locs V => ?_)
          refine lv_if_ne (tgt := 63) hx hb d_M_erase_58 (by decide) (fun hc => ?_) (fun hc => ?_)
          · replace h := q_ifn hc h
            refine lv_aload_n hx hb d_M_erase_63 rfl (lv_at hl 2 rfl) ?_
            refine lv_iload hx hb d_M_erase_64 (lv_at hl 1 rfl) ?_
            refine lv_if_eq (tgt := 73) hx hb d_M_erase_66 (by decide) (fun _ => ?_) (fun hc => absurd (by decide) hc)
            refine lv_iload_n hx hb d_M_erase_73 rfl (lv_at hl 5 rfl) ?_
            refine lv_iconst (v := (-1)) hx hb d_M_erase_74 (by decide) ?_
            refine lv_icmp_ne (tgt := 82) hx hb d_M_erase_75 (by decide) (fun hc => ?_) (fun hc => ?_)
            · replace h := q_ifn hc h
              refine lv_iconst (v := 1) hx hb d_M_erase_82 (by decide) ?_
              refine lv_iload_n hx hb d_M_erase_83 rfl (lv_at hl 3 rfl) ?_
              refine lv_iload_n hx hb d_M_erase_84 rfl (lv_at hl 4 rfl) ?_
              refine lv_iload_n hx hb d_M_erase_85 rfl (lv_at hl 5 rfl) ?_
              refine lv_iconst (v := 0) hx hb d_M_erase_86 (by decide) ?_
              obtain ⟨s22, h21, h⟩ := q_bind h
              refine m_cV_v (As := [.int (1), .int (a1), .int (a2), .int (a3), .int (0)]) (rest := []) G V hml (c_M_change l D b cs N σ 1 a1 a2 a3 0 s22 h21) 0 4 rfl m_w0 g_M_114 e_M_change ⟨Nat.le_of_ble_eq_true rfl, Nat.le_of_ble_eq_true rfl⟩ ⟨rfl, rfl⟩ ⟨Nat.zero_le _, Nat.zero_le _⟩ rfl hl.1 rfl (Nat.le_of_ble_eq_true rfl) d_M_erase_87 (fun H locs V => ?_)
              refine lv_iconst (v := 1) hx hb d_M_erase_90 (by decide) ?_
              exact m_zret_i G hr hlk rfl h V d_M_erase_91
            · replace h := q_ifp hc h
              refine lv_iconst (v := 2) hx hb d_M_erase_78 (by decide) ?_
              refine lv_goto (tgt := 83) hx hb d_M_erase_79 (by decide) ?_
              refine lv_iload_n hx hb d_M_erase_83 rfl (lv_at hl 3 rfl) ?_
              refine lv_iload_n hx hb d_M_erase_84 rfl (lv_at hl 4 rfl) ?_
              refine lv_iload_n hx hb d_M_erase_85 rfl (lv_at hl 5 rfl) ?_
              refine lv_iconst (v := 0) hx hb d_M_erase_86 (by decide) ?_
              obtain ⟨s24, h23, h⟩ := q_bind h
              refine m_cV_v (As := [.int (2), .int (a1), .int (a2), .int (a3), .int (0)]) (rest := []) G V hml (c_M_change l D b cs N σ 2 a1 a2 a3 0 s24 h23) 0 4 rfl m_w0 g_M_114 e_M_change ⟨Nat.le_of_ble_eq_true rfl, Nat.le_of_ble_eq_true rfl⟩ ⟨rfl, rfl⟩ ⟨Nat.zero_le _, Nat.zero_le _⟩ rfl hl.1 rfl (Nat.le_of_ble_eq_true rfl) d_M_erase_87 (fun H locs V => ?_)
              refine lv_iconst (v := 1) hx hb d_M_erase_90 (by decide) ?_
              exact m_zret_i G hr hlk rfl h V d_M_erase_91
          · replace h := q_ifp hc h
            refine lv_iconst (v := 0) hx hb d_M_erase_61 (by decide) ?_
            exact m_zret_i G hr hlk rfl h V d_M_erase_62
        · replace h := q_ifn hc h
          refine lv_iload_n hx hb d_M_erase_34 rfl (lv_at hl 4 rfl) ?_
          obtain ⟨r26, h25, h⟩ := q_bind h
          refine q_cS_i (As := [.int (a3)]) (rest := []) hx hb hown hts hN hml (c_M_isTime l a3 r26 h25) g_M_108 e_M_isTime ⟨Nat.le_of_ble_eq_true rfl, Nat.le_of_ble_eq_true rfl⟩ ⟨rfl, rfl⟩ ⟨Nat.zero_le _, Nat.zero_le _⟩ rfl hl.1 rfl (Nat.le_of_ble_eq_true rfl) d_M_erase_35 ?_
          refine lv_if_eq (tgt := 45) hx hb d_M_erase_38 (by decide) (fun hc => ?_) (fun hc => ?_)
          · replace h := q_ifp hc h
            refine lv_iconst (v := 0) hx hb d_M_erase_45 (by decide) ?_
            refine lv_istore (lv' := [(5, .int (0)), (4, .int (0)), (0, .ref (b 0)), (1, .int (a1)), (2, .int (a2)), (3, .int (a3))]) hx hb d_M_erase_46 hl (by decide) rfl (fun ls hl => ?_)
            refine lv_iload hx hb d_M_erase_48 (lv_at hl 0 rfl) ?_
            refine lv_if_eq (tgt := 61) hx hb d_M_erase_50 (by decide) (fun _ => ?_) (fun hc => absurd (by decide) hc)
            refine lv_iconst (v := 0) hx hb d_M_erase_61 (by decide) ?_
            exact m_zret_i G hr hlk rfl h V d_M_erase_62
          · replace h := q_ifn hc h
            refine lv_iconst (v := 1) hx hb d_M_erase_41 (by decide) ?_
            refine lv_goto (tgt := 46) hx hb d_M_erase_42 (by decide) ?_
            refine lv_istore (lv' := [(5, .int (1)), (4, .int (0)), (0, .ref (b 0)), (1, .int (a1)), (2, .int (a2)), (3, .int (a3))]) hx hb d_M_erase_46 hl (by decide) rfl (fun ls hl => ?_)
            refine lv_iload hx hb d_M_erase_48 (lv_at hl 0 rfl) ?_
            refine lv_if_eq (tgt := 61) hx hb d_M_erase_50 (by decide) (fun hc => absurd hc (by decide)) (fun _ => ?_)
            refine lv_aload_n hx hb d_M_erase_53 rfl (lv_at hl 2 rfl) ?_
            refine lv_iload_n hx hb d_M_erase_54 rfl (lv_at hl 3 rfl) ?_
            obtain ⟨r28, h27, h⟩ := q_bind h
            refine m_cV_i (As := [.int (a1)]) (rest := []) G V hml (c_M_takes l D b cs N σ a1 r28 h27) 0 4 rfl m_w0 g_M_111 e_M_takes ⟨Nat.le_of_ble_eq_true rfl, Nat.le_of_ble_eq_true rfl⟩ ⟨rfl, rfl⟩ ⟨Nat.zero_le _, Nat.zero_le _⟩ rfl hl.1 rfl (Nat.le_of_ble_eq_true rfl) d_M_erase_55 (fun H locs V => ?_)
            refine lv_if_ne (tgt := 63) hx hb d_M_erase_58 (by decide) (fun hc => ?_) (fun hc => ?_)
            · replace h := q_ifn hc h
              refine lv_aload_n hx hb d_M_erase_63 rfl (lv_at hl 2 rfl) ?_
              refine lv_iload hx hb d_M_erase_64 (lv_at hl 1 rfl) ?_
              refine lv_if_eq (tgt := 73) hx hb d_M_erase_66 (by decide) (fun _ => ?_) (fun hc => absurd (by decide) hc)
              refine lv_iload_n hx hb d_M_erase_73 rfl (lv_at hl 5 rfl) ?_
              refine lv_iconst (v := (-1)) hx hb d_M_erase_74 (by decide) ?_
              refine lv_icmp_ne (tgt := 82) hx hb d_M_erase_75 (by decide) (fun hc => ?_) (fun hc => ?_)
              · replace h := q_ifn hc h
                refine lv_iconst (v := 1) hx hb d_M_erase_82 (by decide) ?_
                refine lv_iload_n hx hb d_M_erase_83 rfl (lv_at hl 3 rfl) ?_
                refine lv_iload_n hx hb d_M_erase_84 rfl (lv_at hl 4 rfl) ?_
                refine lv_iload_n hx hb d_M_erase_85 rfl (lv_at hl 5 rfl) ?_
                refine lv_iconst (v := 0) hx hb d_M_erase_86 (by decide) ?_
                obtain ⟨s30, h29, h⟩ := q_bind h
                refine m_cV_v (As := [.int (1), .int (a1), .int (a2), .int (a3), .int (0)]) (rest := []) G V hml (c_M_change l D b cs N σ 1 a1 a2 a3 0 s30 h29) 0 4 rfl m_w0 g_M_114 e_M_change ⟨Nat.le_of_ble_eq_true rfl, Nat.le_of_ble_eq_true rfl⟩ ⟨rfl, rfl⟩ ⟨Nat.zero_le _, Nat.zero_le _⟩ rfl hl.1 rfl (Nat.le_of_ble_eq_true rfl) d_M_erase_87 (fun H locs V => ?_)
                refine lv_iconst (v := 1) hx hb d_M_erase_90 (by decide) ?_
                exact m_zret_i G hr hlk rfl h V d_M_erase_91
              · replace h := q_ifp hc h
                refine lv_iconst (v := 2) hx hb d_M_erase_78 (by decide) ?_
                refine lv_goto (tgt := 83) hx hb d_M_erase_79 (by decide) ?_
                refine lv_iload_n hx hb d_M_erase_83 rfl (lv_at hl 3 rfl) ?_
                refine lv_iload_n hx hb d_M_erase_84 rfl (lv_at hl 4 rfl) ?_
                refine lv_iload_n hx hb d_M_erase_85 rfl (lv_at hl 5 rfl) ?_
                refine lv_iconst (v := 0) hx hb d_M_erase_86 (by decide) ?_
                obtain ⟨s32, h31, h⟩ := q_bind h
                refine m_cV_v (As := [.int (2), .int (a1), .int (a2), .int (a3), .int (0)]) (rest := []) G V hml (c_M_change l D b cs N σ 2 a1 a2 a3 0 s32 h31) 0 4 rfl m_w0 g_M_114 e_M_change ⟨Nat.le_of_ble_eq_true rfl, Nat.le_of_ble_eq_true rfl⟩ ⟨rfl, rfl⟩ ⟨Nat.zero_le _, Nat.zero_le _⟩ rfl hl.1 rfl (Nat.le_of_ble_eq_true rfl) d_M_erase_87 (fun H locs V => ?_)
                refine lv_iconst (v := 1) hx hb d_M_erase_90 (by decide) ?_
                exact m_zret_i G hr hlk rfl h V d_M_erase_91
            · replace h := q_ifp hc h
              refine lv_iconst (v := 0) hx hb d_M_erase_61 (by decide) ?_
              exact m_zret_i G hr hlk rfl h V d_M_erase_62
    · replace h := q_ifp hc h
      refine lv_iconst (v := 1) hx hb d_M_erase_10 (by decide) ?_
      refine lv_goto (tgt := 15) hx hb d_M_erase_11 (by decide) ?_
      refine lv_istore (lv' := [(4, .int (1)), (0, .ref (b 0)), (1, .int (a1)), (2, .int (a2)), (3, .int (a3))]) hx hb d_M_erase_15 hl (by decide) rfl (fun ls hl => ?_)
      refine lv_iload hx hb d_M_erase_17 (lv_at hl 0 rfl) ?_
      refine lv_if_ne (tgt := 41) hx hb d_M_erase_19 (by decide) (fun _ => ?_) (fun hc => absurd hc (by decide))
      refine lv_iconst (v := 1) hx hb d_M_erase_41 (by decide) ?_
      refine lv_goto (tgt := 46) hx hb d_M_erase_42 (by decide) ?_
      refine lv_istore (lv' := [(5, .int (1)), (4, .int (1)), (0, .ref (b 0)), (1, .int (a1)), (2, .int (a2)), (3, .int (a3))]) hx hb d_M_erase_46 hl (by decide) rfl (fun ls hl => ?_)
      refine lv_iload hx hb d_M_erase_48 (lv_at hl 0 rfl) ?_
      refine lv_if_eq (tgt := 61) hx hb d_M_erase_50 (by decide) (fun hc => absurd hc (by decide)) (fun _ => ?_)
      refine lv_aload_n hx hb d_M_erase_53 rfl (lv_at hl 2 rfl) ?_
      refine lv_iload_n hx hb d_M_erase_54 rfl (lv_at hl 3 rfl) ?_
      obtain ⟨r34, h33, h⟩ := q_bind h
      refine m_cV_i (As := [.int (a1)]) (rest := []) G V hml (c_M_takes l D b cs N σ a1 r34 h33) 0 4 rfl m_w0 g_M_111 e_M_takes ⟨Nat.le_of_ble_eq_true rfl, Nat.le_of_ble_eq_true rfl⟩ ⟨rfl, rfl⟩ ⟨Nat.zero_le _, Nat.zero_le _⟩ rfl hl.1 rfl (Nat.le_of_ble_eq_true rfl) d_M_erase_55 (fun H locs V => ?_)
      refine lv_if_ne (tgt := 63) hx hb d_M_erase_58 (by decide) (fun hc => ?_) (fun hc => ?_)
      · replace h := q_ifn hc h
        refine lv_aload_n hx hb d_M_erase_63 rfl (lv_at hl 2 rfl) ?_
        refine lv_iload hx hb d_M_erase_64 (lv_at hl 1 rfl) ?_
        refine lv_if_eq (tgt := 73) hx hb d_M_erase_66 (by decide) (fun hc => absurd hc (by decide)) (fun _ => ?_)
        refine lv_iconst (v := 3) hx hb d_M_erase_69 (by decide) ?_
        refine lv_goto (tgt := 83) hx hb d_M_erase_70 (by decide) ?_
        refine lv_iload_n hx hb d_M_erase_83 rfl (lv_at hl 3 rfl) ?_
        refine lv_iload_n hx hb d_M_erase_84 rfl (lv_at hl 4 rfl) ?_
        refine lv_iload_n hx hb d_M_erase_85 rfl (lv_at hl 5 rfl) ?_
        refine lv_iconst (v := 0) hx hb d_M_erase_86 (by decide) ?_
        obtain ⟨s36, h35, h⟩ := q_bind h
        refine m_cV_v (As := [.int (3), .int (a1), .int (a2), .int (a3), .int (0)]) (rest := []) G V hml (c_M_change l D b cs N σ 3 a1 a2 a3 0 s36 h35) 0 4 rfl m_w0 g_M_114 e_M_change ⟨Nat.le_of_ble_eq_true rfl, Nat.le_of_ble_eq_true rfl⟩ ⟨rfl, rfl⟩ ⟨Nat.zero_le _, Nat.zero_le _⟩ rfl hl.1 rfl (Nat.le_of_ble_eq_true rfl) d_M_erase_87 (fun H locs V => ?_)
        refine lv_iconst (v := 1) hx hb d_M_erase_90 (by decide) ?_
        exact m_zret_i G hr hlk rfl h V d_M_erase_91
      · replace h := q_ifp hc h
        refine lv_iconst (v := 0) hx hb d_M_erase_61 (by decide) ?_
        exact m_zret_i G hr hlk rfl h V d_M_erase_62

set_option maxHeartbeats 40000000 in
set_option maxRecDepth 100000 in
theorem c_M_expect (l : Launch) (D : va_G) (b : Nat → Nat) (cs : Nat → ClassId) (N : Nat) (σ : m_T) (a1 : Int32) (a2 : Int32) (a3 : Int32) (a4 : Int32) (r : Int32) (σ' : m_T) (h : f_M_expect N σ a1 a2 a3 a4 = some (r, σ')) : m_Ci l y_M_expect b_M_expect 5 (some .boolean) { frames := 1, cells := 0, slots := 0, locals := 20 } D b cs σ [.ref (b 0), .int (a1), .int (a2), .int (a3), .int (a4)] r σ' := by
  refine m_met_i (own := R_M) (by decide) rfl (Nat.le_of_ble_eq_true rfl) ?_
  intro p e s m args below meth c A G hr hlk hml ls hl V
  have hx := G.1
  have hb := G.2.1
  have hown := G.2.2.1
  have hts := G.2.2.2.1
  have hN := G.2.2.2.2.2
  have hl : lv_has ls 5 [(0, .ref (b 0)), (1, .int (a1)), (2, .int (a2)), (3, .int (a3)), (4, .int (a4))] := hl
  unfold f_M_expect at h
  refine lv_iload_n hx hb d_M_expect_0 rfl (lv_at hl 1 rfl) ?_
  obtain ⟨r2, h1, h⟩ := q_bind h
  refine q_cS_i (As := [.int (a1)]) (rest := []) hx hb hown hts hN hml (c_M_isRow l a1 r2 h1) g_M_96 e_M_isRow ⟨Nat.le_of_ble_eq_true rfl, Nat.le_of_ble_eq_true rfl⟩ ⟨rfl, rfl⟩ ⟨Nat.zero_le _, Nat.zero_le _⟩ rfl hl.1 rfl (Nat.le_of_ble_eq_true rfl) d_M_expect_1 ?_
  refine lv_if_eq (tgt := 14) hx hb d_M_expect_4 (by decide) (fun hc => ?_) (fun hc => ?_)
  · replace h := q_ifp hc h
    refine lv_iconst (v := 0) hx hb d_M_expect_14 (by decide) ?_
    exact m_zret_i G hr hlk rfl h V d_M_expect_15
  · replace h := q_ifn hc h
    refine lv_iload_n hx hb d_M_expect_7 rfl (lv_at hl 2 rfl) ?_
    obtain ⟨r4, h3, h⟩ := q_bind h
    refine q_cS_i (As := [.int (a2)]) (rest := []) hx hb hown hts hN hml (c_M_isColumn l a2 r4 h3) g_M_105 e_M_isColumn ⟨Nat.le_of_ble_eq_true rfl, Nat.le_of_ble_eq_true rfl⟩ ⟨rfl, rfl⟩ ⟨Nat.zero_le _, Nat.zero_le _⟩ rfl hl.1 rfl (Nat.le_of_ble_eq_true rfl) d_M_expect_8 ?_
    refine lv_if_ne (tgt := 16) hx hb d_M_expect_11 (by decide) (fun hc => ?_) (fun hc => ?_)
    · replace h := q_ifn hc h
      refine lv_aload_n hx hb d_M_expect_16 rfl (lv_at hl 0 rfl) ?_
      refine lv_iconst (v := 1) hx hb d_M_expect_17 (by decide) ?_
      obtain ⟨s5, e5, h⟩ := q_let_h h
      refine m_put (σ' := s5) (ty := .boolean) G V 0 4 21 m_w0 rfl in_M tt_M_ok n_M (by decide) k_M_118 rfl rfl rfl rfl (Nat.le_of_ble_eq_true rfl) (m_uM21.trans (congrArg (m_W b cs) e5.symm)) d_M_expect_18 (fun H locs V => ?_)
      refine lv_aload_n hx hb d_M_expect_21 rfl (lv_at hl 0 rfl) ?_
      refine lv_iload_n hx hb d_M_expect_22 rfl (lv_at hl 1 rfl) ?_
      obtain ⟨s6, e6, h⟩ := q_let_h h
      refine m_put (σ' := s6) (ty := .int) G V 0 4 22 m_w0 rfl in_M tt_M_ok n_M (by decide) k_M_122 rfl rfl rfl rfl (Nat.le_of_ble_eq_true rfl) (m_uM22.trans (congrArg (m_W b cs) e6.symm)) d_M_expect_23 (fun H locs V => ?_)
      refine lv_aload_n hx hb d_M_expect_26 rfl (lv_at hl 0 rfl) ?_
      refine lv_iload_n hx hb d_M_expect_27 rfl (lv_at hl 2 rfl) ?_
      obtain ⟨s7, e7, h⟩ := q_let_h h
      refine m_put (σ' := s7) (ty := .int) G V 0 4 23 m_w0 rfl in_M tt_M_ok n_M (by decide) k_M_125 rfl rfl rfl rfl (Nat.le_of_ble_eq_true rfl) (m_uM23.trans (congrArg (m_W b cs) e7.symm)) d_M_expect_28 (fun H locs V => ?_)
      refine lv_aload_n hx hb d_M_expect_31 rfl (lv_at hl 0 rfl) ?_
      refine lv_iload_n hx hb d_M_expect_32 rfl (lv_at hl 3 rfl) ?_
      obtain ⟨z8, h⟩ := q_gd_h h
      obtain ⟨s9, e9, h⟩ := q_let_h h
      refine m_put (σ' := s9) (ty := .boolean) G V 0 4 24 m_w0 rfl in_M tt_M_ok n_M (by decide) k_M_128 rfl rfl (q_bz_n z8) (q_bz_f z8) (Nat.le_of_ble_eq_true rfl) (m_uM24.trans (congrArg (m_W b cs) e9.symm)) d_M_expect_33 (fun H locs V => ?_)
      refine lv_aload_n hx hb d_M_expect_36 rfl (lv_at hl 0 rfl) ?_
      refine lv_iload hx hb d_M_expect_37 (lv_at hl 4 rfl) ?_
      obtain ⟨s10, e10, h⟩ := q_let_h h
      refine m_put (σ' := s10) (ty := .int) G V 0 4 25 m_w0 rfl in_M tt_M_ok n_M (by decide) k_M_131 rfl rfl rfl rfl (Nat.le_of_ble_eq_true rfl) (m_uM25.trans (congrArg (m_W b cs) e10.symm)) d_M_expect_39 (fun H locs V => ?_)
      refine lv_iconst (v := 1) hx hb d_M_expect_42 (by decide) ?_
      exact m_zret_i G hr hlk rfl h V d_M_expect_43
    · replace h := q_ifp hc h
      refine lv_iconst (v := 0) hx hb d_M_expect_14 (by decide) ?_
      exact m_zret_i G hr hlk rfl h V d_M_expect_15

set_option maxHeartbeats 40000000 in
set_option maxRecDepth 100000 in
theorem c_M_isMet (l : Launch) (D : va_G) (b : Nat → Nat) (cs : Nat → ClassId) (N : Nat) (σ : m_T) (r : Int32) (h : f_M_isMet N σ = some r) : m_Ci l y_M_isMet b_M_isMet 2 (some .boolean) { frames := 3, cells := 0, slots := 0, locals := 70 } D b cs σ [.ref (b 0)] r σ := by
  refine m_met_i (own := R_M) (by decide) rfl (Nat.le_of_ble_eq_true rfl) ?_
  intro p e s m args below meth c A G hr hlk hml ls hl V
  have hx := G.1
  have hb := G.2.1
  have hown := G.2.2.1
  have hts := G.2.2.2.1
  have hN := G.2.2.2.2.2
  have hl : lv_has ls 2 [(0, .ref (b 0))] := hl
  unfold f_M_isMet at h
  refine lv_aload_n hx hb d_M_isMet_0 rfl (lv_at hl 0 rfl) ?_
  refine m_get (v := .int (m_S σ 21)) G V 0 4 21 m_w0 rfl in_M (by decide) k_M_118 rfl d_M_isMet_1 ?_
  refine lv_if_ne (tgt := 9) hx hb d_M_isMet_4 (by decide) (fun hc => ?_) (fun hc => ?_)
  · replace h := q_ifn hc h
    refine lv_aload_n hx hb d_M_isMet_9 rfl (lv_at hl 0 rfl) ?_
    refine lv_aload_n hx hb d_M_isMet_10 rfl (lv_at hl 0 rfl) ?_
    refine m_get (v := .int (m_S σ 22)) G V 0 4 22 m_w0 rfl in_M (by decide) k_M_122 rfl d_M_isMet_11 ?_
    refine lv_aload_n hx hb d_M_isMet_14 rfl (lv_at hl 0 rfl) ?_
    refine m_get (v := .int (m_S σ 23)) G V 0 4 23 m_w0 rfl in_M (by decide) k_M_125 rfl d_M_isMet_15 ?_
    refine lv_sipush (v := 10000) hx hb d_M_isMet_18 (by decide) ?_
    obtain ⟨r2, h1, h⟩ := q_bind h
    refine m_cV_i (As := [.int (m_S σ 22), .int (m_S σ 23), .int (10000)]) (rest := []) G V hml (c_M_below l D b cs N σ (m_S σ 22) (m_S σ 23) 10000 r2 h1) 0 4 rfl m_w0 g_M_134 e_M_below ⟨Nat.le_of_ble_eq_true rfl, Nat.le_of_ble_eq_true rfl⟩ ⟨rfl, rfl⟩ ⟨Nat.zero_le _, Nat.zero_le _⟩ rfl hl.1 rfl (Nat.le_of_ble_eq_true rfl) d_M_isMet_21 (fun H locs V => ?_)
    refine lv_istore_n (lv' := [(1, .int (r2)), (0, .ref (b 0))]) hx hb d_M_isMet_24 rfl hl (by decide) rfl (fun ls hl => ?_)
    refine lv_aload_n hx hb d_M_isMet_25 rfl (lv_at hl 1 rfl) ?_
    refine m_get (v := .int (m_S σ 24)) G V 0 4 24 m_w0 rfl in_M (by decide) k_M_128 rfl d_M_isMet_26 ?_
    refine lv_if_eq (tgt := 57) hx hb d_M_isMet_29 (by decide) (fun hc => ?_) (fun hc => ?_)
    · replace h := q_ifp hc h
      refine lv_iload_n hx hb d_M_isMet_57 rfl (lv_at hl 0 rfl) ?_
      refine lv_if_ge (tgt := 65) hx hb d_M_isMet_58 (by decide) (fun hc => ?_) (fun hc => ?_)
      · replace h := q_ifp hc h
        refine lv_iconst (v := 0) hx hb d_M_isMet_65 (by decide) ?_
        exact m_zpret_i G hr hlk rfl h rfl V d_M_isMet_66
      · replace h := q_ifn hc h
        refine lv_iconst (v := 1) hx hb d_M_isMet_61 (by decide) ?_
        refine lv_goto (tgt := 66) hx hb d_M_isMet_62 (by decide) ?_
        exact m_zpret_i G hr hlk rfl h rfl V d_M_isMet_66
    · replace h := q_ifn hc h
      refine lv_iload_n hx hb d_M_isMet_32 rfl (lv_at hl 0 rfl) ?_
      refine lv_if_lt (tgt := 53) hx hb d_M_isMet_33 (by decide) (fun hc => ?_) (fun hc => ?_)
      · replace h := q_ifp hc h
        refine lv_iconst (v := 0) hx hb d_M_isMet_53 (by decide) ?_
        refine lv_goto (tgt := 66) hx hb d_M_isMet_54 (by decide) ?_
        exact m_zpret_i G hr hlk rfl h rfl V d_M_isMet_66
      · replace h := q_ifn hc h
        refine lv_aload_n hx hb d_M_isMet_36 rfl (lv_at hl 1 rfl) ?_
        refine m_get (v := .ref (b 5)) G V 0 4 5 m_w0 rfl in_M (by decide) k_M_22 rfl d_M_isMet_37 ?_
        refine lv_iload_n hx hb d_M_isMet_40 rfl (lv_at hl 0 rfl) ?_
        obtain ⟨g3, h⟩ := q_gd_h h
        refine m_iald G V 5 m_w5 g3 d_M_isMet_41 ?_
        refine lv_aload_n hx hb d_M_isMet_42 rfl (lv_at hl 1 rfl) ?_
        refine m_get (v := .int (m_S σ 25)) G V 0 4 25 m_w0 rfl in_M (by decide) k_M_131 rfl d_M_isMet_43 ?_
        refine lv_icmp_ne (tgt := 53) hx hb d_M_isMet_46 (by decide) (fun hc => ?_) (fun hc => ?_)
        · replace h := q_ifn hc h
          refine lv_iconst (v := 0) hx hb d_M_isMet_53 (by decide) ?_
          refine lv_goto (tgt := 66) hx hb d_M_isMet_54 (by decide) ?_
          exact m_zpret_i G hr hlk rfl h rfl V d_M_isMet_66
        · replace h := q_ifp hc h
          refine lv_iconst (v := 1) hx hb d_M_isMet_49 (by decide) ?_
          refine lv_goto (tgt := 66) hx hb d_M_isMet_50 (by decide) ?_
          exact m_zpret_i G hr hlk rfl h rfl V d_M_isMet_66
  · replace h := q_ifp hc h
    refine lv_iconst (v := 1) hx hb d_M_isMet_7 (by decide) ?_
    exact m_zpret_i G hr hlk rfl h rfl V d_M_isMet_8

set_option maxHeartbeats 40000000 in
set_option maxRecDepth 100000 in
theorem c_M_drop (l : Launch) (D : va_G) (b : Nat → Nat) (cs : Nat → ClassId) (N : Nat) (σ : m_T) (σ' : m_T) (h : f_M_drop N σ = some σ') : m_Cv l y_M_drop b_M_drop 1 none { frames := 0, cells := 0, slots := 0, locals := 0 } D b cs σ [.ref (b 0)] σ' := by
  refine m_met_v (own := R_M) (by decide) rfl (Nat.le_of_ble_eq_true rfl) ?_
  intro p e s m args below meth c A G hr hlk hml ls hl V
  have hx := G.1
  have hb := G.2.1
  have hown := G.2.2.1
  have hts := G.2.2.2.1
  have hN := G.2.2.2.2.2
  have hl : lv_has ls 1 [(0, .ref (b 0))] := hl
  unfold f_M_drop at h
  refine lv_aload_n hx hb d_M_drop_0 rfl (lv_at hl 0 rfl) ?_
  refine lv_iconst (v := 0) hx hb d_M_drop_1 (by decide) ?_
  obtain ⟨s1, e1, h⟩ := q_let_h h
  refine m_put (σ' := s1) (ty := .int) G V 0 4 15 m_w0 rfl in_M tt_M_ok n_M (by decide) k_M_99 rfl rfl rfl rfl (Nat.le_of_ble_eq_true rfl) (m_uM15.trans (congrArg (m_W b cs) e1.symm)) d_M_drop_2 (fun H locs V => ?_)
  refine lv_aload_n hx hb d_M_drop_5 rfl (lv_at hl 0 rfl) ?_
  refine lv_iconst (v := 0) hx hb d_M_drop_6 (by decide) ?_
  obtain ⟨s2, e2, h⟩ := q_let_h h
  refine m_put (σ' := s2) (ty := .boolean) G V 0 4 21 m_w0 rfl in_M tt_M_ok n_M (by decide) k_M_118 rfl rfl rfl rfl (Nat.le_of_ble_eq_true rfl) (m_uM21.trans (congrArg (m_W b cs) e2.symm)) d_M_drop_7 (fun H locs V => ?_)
  exact m_ret_v G hr hlk h V d_M_drop_10

set_option maxHeartbeats 40000000 in
set_option maxRecDepth 100000 in
theorem c_M_trim (l : Launch) (D : va_G) (b : Nat → Nat) (cs : Nat → ClassId) (N : Nat) (σ : m_T) (a1 : Int32) (a2 : Int32) (σ' : m_T) (h : f_M_trim N σ a1 a2 = some σ') : m_Cv l y_M_trim b_M_trim 7 none { frames := 3, cells := 0, slots := 0, locals := 70 } D b cs σ [.ref (b 0), .int (a1), .int (a2)] σ' := by
  refine m_met_v (own := R_M) (by decide) rfl (Nat.le_of_ble_eq_true rfl) ?_
  intro p e s m args below meth c A G hr hlk hml ls hl V
  have hx := G.1
  have hb := G.2.1
  have hown := G.2.2.1
  have hts := G.2.2.2.1
  have hN := G.2.2.2.2.2
  have hl : lv_has ls 7 [(0, .ref (b 0)), (1, .int (a1)), (2, .int (a2))] := hl
  unfold f_M_trim at h
  refine lv_aload_n hx hb d_M_trim_0 rfl (lv_at hl 0 rfl) ?_
  refine m_get (v := .ref (b 11)) G V 0 4 12 m_w0 rfl in_M (by decide) k_M_44 rfl d_M_trim_1 ?_
  refine lv_iload_n hx hb d_M_trim_4 rfl (lv_at hl 2 rfl) ?_
  refine lv_iconst (v := 4) hx hb d_M_trim_5 (by decide) ?_
  refine lv_idiv hx hb d_M_trim_6 (by decide) ?_
  obtain ⟨g1, h⟩ := q_gd_h h
  refine m_iald G V 11 m_w11 g1 d_M_trim_7 ?_
  refine lv_istore_n (lv' := [(3, .int (m_I σ 11 ((a2 / 4 : Int32).toNatClampNeg))), (0, .ref (b 0)), (1, .int (a1)), (2, .int (a2))]) hx hb d_M_trim_8 rfl hl (by decide) rfl (fun ls hl => ?_)
  refine lv_iconst (v := 0) hx hb d_M_trim_9 (by decide) ?_
  refine lv_istore (lv' := [(4, .int (0)), (3, .int (m_I σ 11 ((a2 / 4 : Int32).toNatClampNeg))), (0, .ref (b 0)), (1, .int (a1)), (2, .int (a2))]) hx hb d_M_trim_10 hl (by decide) rfl (fun ls hl => ?_)
  refine lv_iconst (v := (-1)) hx hb d_M_trim_12 (by decide) ?_
  refine lv_istore (lv' := [(5, .int ((-1))), (4, .int (0)), (3, .int (m_I σ 11 ((a2 / 4 : Int32).toNatClampNeg))), (0, .ref (b 0)), (1, .int (a1)), (2, .int (a2))]) hx hb d_M_trim_13 hl (by decide) rfl (fun ls hl => ?_)
  refine lv_aload_n hx hb d_M_trim_15 rfl (lv_at hl 3 rfl) ?_
  refine lv_iload_n hx hb d_M_trim_16 rfl (lv_at hl 4 rfl) ?_
  refine lv_iload_n hx hb d_M_trim_17 rfl (lv_at hl 5 rfl) ?_
  refine lv_sipush (v := 10000) hx hb d_M_trim_18 (by decide) ?_
  obtain ⟨r3, h2, h⟩ := q_bind h
  refine m_cV_i (As := [.int (a1), .int (a2), .int (10000)]) (rest := []) G V hml (c_M_below l D b cs N σ a1 a2 10000 r3 h2) 0 4 rfl m_w0 g_M_134 e_M_below ⟨Nat.le_of_ble_eq_true rfl, Nat.le_of_ble_eq_true rfl⟩ ⟨rfl, rfl⟩ ⟨Nat.zero_le _, Nat.zero_le _⟩ rfl hl.1 rfl (Nat.le_of_ble_eq_true rfl) d_M_trim_21 (fun H locs V => ?_)
  refine lv_istore (lv' := [(6, .int (r3)), (5, .int ((-1))), (4, .int (0)), (3, .int (m_I σ 11 ((a2 / 4 : Int32).toNatClampNeg))), (0, .ref (b 0)), (1, .int (a1)), (2, .int (a2))]) hx hb d_M_trim_24 hl (by decide) rfl (fun ls hl => ?_)
  have lp26 : ∀ (σ : m_T) (u1 : Int32) (u2 : Int32) (u3 : Int32) (K : Int32 → Int32 → Option m_T) (_ : ∀ (v4 : Int32) (v5 : Int32) (H : Heap) (locs : List Loc) (ls : Array Slot), K v4 v5 = some σ' → lv_has ls 7 [(0, .ref (b 0)), (1, .int (u1)), (2, .int (u2)), (3, .int (u3)), (4, .int (v4)), (5, .int (v5))] → m_V D b cs σ A s.heap H locs → W p l e { frames := 3, cells := 0, slots := 0, locals := 70 } s m args below meth c H locs 0 0 (m_Qv below args s D b cs A σ') (F0 m 56 ls [])) (n : Nat) (v4 : Int32) (v5 : Int32) (v6 : Int32) (H : Heap) (locs : List Loc) (ls : Array Slot), f_M_trim_L26 N σ u1 u2 u3 K n v4 v5 v6 = some σ' → lv_has ls 7 [(0, .ref (b 0)), (1, .int (u1)), (2, .int (u2)), (3, .int (u3)), (4, .int (v4)), (5, .int (v5)), (6, .int (v6))] → m_V D b cs σ A s.heap H locs → W p l e { frames := 3, cells := 0, slots := 0, locals := 70 } s m args below meth c H locs 0 0 (m_Qv below args s D b cs A σ') (F0 m 26 ls []) := by
    intro σ u1 u2 u3 K hK n
    induction n with
    | zero => intro v4 v5 v6 H locs ls h hl V; cases h
    | succ n ih =>
      intro v4 v5 v6 H locs ls h hl V
      rw [f_M_trim_L26] at h
      refine lv_iload hx hb d_M_trim_26 (lv_at hl 6 rfl) ?_
      refine lv_if_lt (tgt := 56) hx hb d_M_trim_28 (by decide) (fun hc => ?_) (fun hc => ?_)
      · replace h := q_ifp hc h
        exact hK _ _ _ _ ls h (lv_sub hl [0, 1, 2, 3, 4, 5] rfl) V
      · replace h := q_ifn hc h
        refine lv_iinc (k := 4) (v := v4 + 1) (lv' := [(4, .int (v4 + 1)), (0, .ref (b 0)), (1, .int (u1)), (2, .int (u2)), (3, .int (u3)), (5, .int (v5)), (6, .int (v6))]) hx hb d_M_trim_31 hl rfl rfl (by decide) rfl (fun ls hl => ?_)
        refine lv_iload hx hb d_M_trim_34 (lv_at hl 6 rfl) ?_
        refine lv_istore (lv' := [(5, .int (v6)), (4, .int (v4 + 1)), (0, .ref (b 0)), (1, .int (u1)), (2, .int (u2)), (3, .int (u3)), (6, .int (v6))]) hx hb d_M_trim_36 hl (by decide) rfl (fun ls hl => ?_)
        refine lv_aload_n hx hb d_M_trim_38 rfl (lv_at hl 2 rfl) ?_
        refine lv_iload_n hx hb d_M_trim_39 rfl (lv_at hl 3 rfl) ?_
        refine lv_iload_n hx hb d_M_trim_40 rfl (lv_at hl 4 rfl) ?_
        refine lv_aload_n hx hb d_M_trim_41 rfl (lv_at hl 2 rfl) ?_
        refine m_get (v := .ref (b 4)) G V 0 4 4 m_w0 rfl in_M (by decide) k_M_19 rfl d_M_trim_42 ?_
        refine lv_iload hx hb d_M_trim_45 (lv_at hl 6 rfl) ?_
        obtain ⟨g4, h⟩ := q_gd_h h
        refine m_iald G V 4 m_w4 g4 d_M_trim_47 ?_
        obtain ⟨r6, h5, h⟩ := q_bind h
        refine m_cV_i (As := [.int (u1), .int (u2), .int (m_I σ 4 ((v6 : Int32).toNatClampNeg))]) (rest := []) G V hml (c_M_below l D b cs N σ u1 u2 (m_I σ 4 ((v6 : Int32).toNatClampNeg)) r6 h5) 0 4 rfl m_w0 g_M_134 e_M_below ⟨Nat.le_of_ble_eq_true rfl, Nat.le_of_ble_eq_true rfl⟩ ⟨rfl, rfl⟩ ⟨Nat.zero_le _, Nat.zero_le _⟩ rfl hl.1 rfl (Nat.le_of_ble_eq_true rfl) d_M_trim_48 (fun H locs V => ?_)
        refine lv_istore (lv' := [(6, .int (r6)), (5, .int (v6)), (4, .int (v4 + 1)), (0, .ref (b 0)), (1, .int (u1)), (2, .int (u2)), (3, .int (u3))]) hx hb d_M_trim_51 hl (by decide) rfl (fun ls hl => ?_)
        refine lv_goto (tgt := 26) hx hb d_M_trim_53 (by decide) ?_
        exact ih _ _ _ _ _ ls h (lv_sub hl [3, 4, 5, 6, 2, 1, 0] rfl) V
  replace hl := lv_sub (l' := [(0, .ref (b 0)), (1, .int (a1)), (2, .int (a2)), (3, .int (m_I σ 11 ((a2 / 4 : Int32).toNatClampNeg))), (4, .int (0)), (5, .int ((-1))), (6, .int (r3))]) hl [4, 5, 6, 3, 2, 1, 0] rfl
  refine lp26 _ _ _ _ _ ?_ _ _ _ _ _ _ ls h hl V
  intro v4 v5 H locs ls h hl V
  refine lv_iload_n hx hb d_M_trim_56 rfl (lv_at hl 3 rfl) ?_
  refine lv_if_eq (tgt := 81) hx hb d_M_trim_57 (by decide) (fun hc => ?_) (fun hc => ?_)
  · replace h := q_ifp hc h
    exact m_ret_v G hr hlk h V d_M_trim_81
  · replace h := q_ifn hc h
    refine lv_iload hx hb d_M_trim_60 (lv_at hl 4 rfl) ?_
    refine lv_iload_n hx hb d_M_trim_62 rfl (lv_at hl 3 rfl) ?_
    refine lv_icmp_le (tgt := 81) hx hb d_M_trim_63 (by decide) (fun hc => ?_) (fun hc => ?_)
    · replace h := q_ifp hc h
      exact m_ret_v G hr hlk h V d_M_trim_81
    · replace h := q_ifn hc h
      refine lv_aload_n hx hb d_M_trim_66 rfl (lv_at hl 0 rfl) ?_
      refine lv_iconst (v := 1) hx hb d_M_trim_67 (by decide) ?_
      refine lv_iload_n hx hb d_M_trim_68 rfl (lv_at hl 1 rfl) ?_
      refine lv_iload_n hx hb d_M_trim_69 rfl (lv_at hl 2 rfl) ?_
      refine lv_aload_n hx hb d_M_trim_70 rfl (lv_at hl 0 rfl) ?_
      refine m_get (v := .ref (b 4)) G V 0 4 4 m_w0 rfl in_M (by decide) k_M_19 rfl d_M_trim_71 ?_
      refine lv_iload hx hb d_M_trim_74 (lv_at hl 5 rfl) ?_
      obtain ⟨g7, h⟩ := q_gd_h h
      refine m_iald G V 4 m_w4 g7 d_M_trim_76 ?_
      refine lv_iconst (v := 0) hx hb d_M_trim_77 (by decide) ?_
      obtain ⟨s9, h8, h⟩ := q_bind h
      refine m_cV_v (As := [.int (1), .int (a1), .int (a2), .int (m_I σ 4 ((v5 : Int32).toNatClampNeg)), .int (0)]) (rest := []) G V hml (c_M_make l D b cs N σ 1 a1 a2 (m_I σ 4 ((v5 : Int32).toNatClampNeg)) 0 s9 h8) 0 4 rfl m_w0 g_M_138 e_M_make ⟨Nat.le_of_ble_eq_true rfl, Nat.le_of_ble_eq_true rfl⟩ ⟨rfl, rfl⟩ ⟨Nat.zero_le _, Nat.zero_le _⟩ rfl hl.1 rfl (Nat.le_of_ble_eq_true rfl) d_M_trim_78 (fun H locs V => ?_)
      exact m_ret_v G hr hlk h V d_M_trim_81

set_option maxHeartbeats 40000000 in
set_option maxRecDepth 100000 in
theorem c_M_inTable (l : Launch) (D : va_G) (b : Nat → Nat) (cs : Nat → ClassId) (N : Nat) (σ : m_T) (a1 : Int32) (a2 : Int32) (r : Int32) (h : f_M_inTable N σ a1 a2 = some r) : m_Ci l y_M_inTable b_M_inTable 5 (some .int) { frames := 0, cells := 0, slots := 0, locals := 0 } D b cs σ [.ref (b 0), .int (a1), .int (a2)] r σ := by
  refine m_met_i (own := R_M) (by decide) rfl (Nat.le_of_ble_eq_true rfl) ?_
  intro p e s m args below meth c A G hr hlk hml ls hl V
  have hx := G.1
  have hb := G.2.1
  have hown := G.2.2.1
  have hts := G.2.2.2.1
  have hN := G.2.2.2.2.2
  have hl : lv_has ls 5 [(0, .ref (b 0)), (1, .int (a1)), (2, .int (a2))] := hl
  unfold f_M_inTable at h
  refine lv_iconst (v := 0) hx hb d_M_inTable_0 (by decide) ?_
  refine lv_istore_n (lv' := [(3, .int (0)), (0, .ref (b 0)), (1, .int (a1)), (2, .int (a2))]) hx hb d_M_inTable_1 rfl hl (by decide) rfl (fun ls hl => ?_)
  refine lv_iconst (v := 0) hx hb d_M_inTable_2 (by decide) ?_
  refine lv_istore (lv' := [(4, .int (0)), (3, .int (0)), (0, .ref (b 0)), (1, .int (a1)), (2, .int (a2))]) hx hb d_M_inTable_3 hl (by decide) rfl (fun ls hl => ?_)
  have lp5 : ∀ (u1 : Int32) (u2 : Int32) (K : Int32 → Option Int32) (_ : ∀ (v3 : Int32) (H : Heap) (locs : List Loc) (ls : Array Slot), K v3 = some r → lv_has ls 5 [(3, .int (v3))] → m_V D b cs σ A s.heap H locs → W p l e { frames := 0, cells := 0, slots := 0, locals := 0 } s m args below meth c H locs 0 0 (m_Qi below args s D b cs A r σ) (F0 m 50 ls [])) (n : Nat) (v3 : Int32) (v4 : Int32) (H : Heap) (locs : List Loc) (ls : Array Slot), f_M_inTable_L5 N σ u1 u2 K n v3 v4 = some r → lv_has ls 5 [(0, .ref (b 0)), (1, .int (u1)), (2, .int (u2)), (3, .int (v3)), (4, .int (v4))] → m_V D b cs σ A s.heap H locs → W p l e { frames := 0, cells := 0, slots := 0, locals := 0 } s m args below meth c H locs 0 0 (m_Qi below args s D b cs A r σ) (F0 m 5 ls []) := by
    intro u1 u2 K hK n
    induction n with
    | zero => intro v3 v4 H locs ls h hl V; cases h
    | succ n ih =>
      intro v3 v4 H locs ls h hl V
      rw [f_M_inTable_L5] at h
      refine lv_iload hx hb d_M_inTable_5 (lv_at hl 4 rfl) ?_
      refine lv_aload_n hx hb d_M_inTable_7 rfl (lv_at hl 0 rfl) ?_
      refine m_get (v := .int (m_S σ 0)) G V 0 4 0 m_w0 rfl in_M (by decide) k_M_79 rfl d_M_inTable_8 ?_
      refine lv_icmp_ge (tgt := 50) hx hb d_M_inTable_11 (by decide) (fun hc => ?_) (fun hc => ?_)
      · replace h := q_ifp hc h
        exact hK _ _ _ ls h (lv_sub hl [3] rfl) V
      · replace h := q_ifn hc h
        refine lv_iload_n hx hb d_M_inTable_14 rfl (lv_at hl 3 rfl) ?_
        refine lv_aload_n hx hb d_M_inTable_15 rfl (lv_at hl 0 rfl) ?_
        refine m_get (v := .ref (b 7)) G V 0 4 7 m_w0 rfl in_M (by decide) k_M_28 rfl d_M_inTable_16 ?_
        refine lv_iload hx hb d_M_inTable_19 (lv_at hl 4 rfl) ?_
        obtain ⟨g1, h⟩ := q_gd_h h
        refine m_iald G V 7 m_w7 g1 d_M_inTable_21 ?_
        refine lv_iload_n hx hb d_M_inTable_22 rfl (lv_at hl 1 rfl) ?_
        refine lv_icmp_ne (tgt := 41) hx hb d_M_inTable_23 (by decide) (fun hc => ?_) (fun hc => ?_)
        · replace h := q_ifn hc h
          refine lv_iconst (v := 0) hx hb d_M_inTable_41 (by decide) ?_
          refine lv_iadd hx hb d_M_inTable_42 ?_
          refine lv_istore_n (lv' := [(3, .int (v3 + 0)), (0, .ref (b 0)), (1, .int (u1)), (2, .int (u2)), (4, .int (v4))]) hx hb d_M_inTable_43 rfl hl (by decide) rfl (fun ls hl => ?_)
          refine lv_iinc (k := 4) (v := v4 + 1) (lv' := [(4, .int (v4 + 1)), (3, .int (v3 + 0)), (0, .ref (b 0)), (1, .int (u1)), (2, .int (u2))]) hx hb d_M_inTable_44 hl rfl rfl (by decide) rfl (fun ls hl => ?_)
          refine lv_goto (tgt := 5) hx hb d_M_inTable_47 (by decide) ?_
          exact ih _ _ _ _ ls h (lv_sub hl [2, 3, 4, 1, 0] rfl) V
        · replace h := q_ifp hc h
          refine lv_aload_n hx hb d_M_inTable_26 rfl (lv_at hl 0 rfl) ?_
          refine m_get (v := .ref (b 8)) G V 0 4 8 m_w0 rfl in_M (by decide) k_M_31 rfl d_M_inTable_27 ?_
          refine lv_iload hx hb d_M_inTable_30 (lv_at hl 4 rfl) ?_
          obtain ⟨g2, h⟩ := q_gd_h h
          refine m_iald G V 8 m_w8 g2 d_M_inTable_32 ?_
          refine lv_iload_n hx hb d_M_inTable_33 rfl (lv_at hl 2 rfl) ?_
          refine lv_icmp_ne (tgt := 41) hx hb d_M_inTable_34 (by decide) (fun hc => ?_) (fun hc => ?_)
          · replace h := q_ifn hc h
            refine lv_iconst (v := 0) hx hb d_M_inTable_41 (by decide) ?_
            refine lv_iadd hx hb d_M_inTable_42 ?_
            refine lv_istore_n (lv' := [(3, .int (v3 + 0)), (0, .ref (b 0)), (1, .int (u1)), (2, .int (u2)), (4, .int (v4))]) hx hb d_M_inTable_43 rfl hl (by decide) rfl (fun ls hl => ?_)
            refine lv_iinc (k := 4) (v := v4 + 1) (lv' := [(4, .int (v4 + 1)), (3, .int (v3 + 0)), (0, .ref (b 0)), (1, .int (u1)), (2, .int (u2))]) hx hb d_M_inTable_44 hl rfl rfl (by decide) rfl (fun ls hl => ?_)
            refine lv_goto (tgt := 5) hx hb d_M_inTable_47 (by decide) ?_
            exact ih _ _ _ _ ls h (lv_sub hl [2, 3, 4, 1, 0] rfl) V
          · replace h := q_ifp hc h
            refine lv_iconst (v := 1) hx hb d_M_inTable_37 (by decide) ?_
            refine lv_goto (tgt := 42) hx hb d_M_inTable_38 (by decide) ?_
            refine lv_iadd hx hb d_M_inTable_42 ?_
            refine lv_istore_n (lv' := [(3, .int (v3 + 1)), (0, .ref (b 0)), (1, .int (u1)), (2, .int (u2)), (4, .int (v4))]) hx hb d_M_inTable_43 rfl hl (by decide) rfl (fun ls hl => ?_)
            refine lv_iinc (k := 4) (v := v4 + 1) (lv' := [(4, .int (v4 + 1)), (3, .int (v3 + 1)), (0, .ref (b 0)), (1, .int (u1)), (2, .int (u2))]) hx hb d_M_inTable_44 hl rfl rfl (by decide) rfl (fun ls hl => ?_)
            refine lv_goto (tgt := 5) hx hb d_M_inTable_47 (by decide) ?_
            exact ih _ _ _ _ ls h (lv_sub hl [2, 3, 4, 1, 0] rfl) V
  replace hl := lv_sub (l' := [(0, .ref (b 0)), (1, .int (a1)), (2, .int (a2)), (3, .int (0)), (4, .int (0))]) hl [2, 3, 4, 1, 0] rfl
  refine lp5 _ _ _ ?_ _ _ _ _ _ ls h hl V
  intro v3 H locs ls h hl V
  refine lv_iload_n hx hb d_M_inTable_50 rfl (lv_at hl 0 rfl) ?_
  exact m_pret_i G hr hlk h rfl V d_M_inTable_51

set_option maxHeartbeats 40000000 in
set_option maxRecDepth 100000 in
theorem c_M_flushed (l : Launch) (D : va_G) (b : Nat → Nat) (cs : Nat → ClassId) (N : Nat) (σ : m_T) (a1 : Int32) (r : Int32) (σ' : m_T) (h : f_M_flushed N σ a1 = some (r, σ')) : m_Ci l y_M_flushed b_M_flushed 4 (some .int) { frames := 0, cells := 0, slots := 0, locals := 0 } D b cs σ [.ref (b 0), .int (a1)] r σ' := by
  refine m_met_i (own := R_M) (by decide) rfl (Nat.le_of_ble_eq_true rfl) ?_
  intro p e s m args below meth c A G hr hlk hml ls hl V
  have hx := G.1
  have hb := G.2.1
  have hown := G.2.2.1
  have hts := G.2.2.2.1
  have hN := G.2.2.2.2.2
  have hl : lv_has ls 4 [(0, .ref (b 0)), (1, .int (a1))] := hl
  unfold f_M_flushed at h
  refine lv_iconst (v := 0) hx hb d_M_flushed_0 (by decide) ?_
  refine lv_istore_n (lv' := [(2, .int (0)), (0, .ref (b 0)), (1, .int (a1))]) hx hb d_M_flushed_1 rfl hl (by decide) rfl (fun ls hl => ?_)
  refine lv_iconst (v := 0) hx hb d_M_flushed_2 (by decide) ?_
  refine lv_istore_n (lv' := [(3, .int (0)), (2, .int (0)), (0, .ref (b 0)), (1, .int (a1))]) hx hb d_M_flushed_3 rfl hl (by decide) rfl (fun ls hl => ?_)
  have lp4 : ∀ (u1 : Int32) (K : Int32 → m_T → Option (Int32 × m_T)) (_ : ∀ (v2 : Int32) (σ : m_T) (H : Heap) (locs : List Loc) (ls : Array Slot), K v2 σ = some (r, σ') → lv_has ls 4 [(0, .ref (b 0)), (1, .int (u1)), (2, .int (v2))] → m_V D b cs σ A s.heap H locs → W p l e { frames := 0, cells := 0, slots := 0, locals := 0 } s m args below meth c H locs 0 0 (m_Qi below args s D b cs A r σ') (F0 m 53 ls [])) (n : Nat) (v2 : Int32) (v3 : Int32) (σ : m_T) (H : Heap) (locs : List Loc) (ls : Array Slot), f_M_flushed_L4 N u1 K n v2 v3 σ = some (r, σ') → lv_has ls 4 [(0, .ref (b 0)), (1, .int (u1)), (2, .int (v2)), (3, .int (v3))] → m_V D b cs σ A s.heap H locs → W p l e { frames := 0, cells := 0, slots := 0, locals := 0 } s m args below meth c H locs 0 0 (m_Qi below args s D b cs A r σ') (F0 m 4 ls []) := by
    intro u1 K hK n
    induction n with
    | zero => intro v2 v3 σ H locs ls h hl V; cases h
    | succ n ih =>
      intro v2 v3 σ H locs ls h hl V
      rw [f_M_flushed_L4] at h
      refine lv_iload_n hx hb d_M_flushed_4 rfl (lv_at hl 3 rfl) ?_
      refine lv_aload_n hx hb d_M_flushed_5 rfl (lv_at hl 0 rfl) ?_
      refine m_get (v := .int (m_S σ 0)) G V 0 4 0 m_w0 rfl in_M (by decide) k_M_79 rfl d_M_flushed_6 ?_
      refine lv_icmp_ge (tgt := 53) hx hb d_M_flushed_9 (by decide) (fun hc => ?_) (fun hc => ?_)
      · replace h := q_ifp hc h
        exact hK _ _ _ _ ls h (lv_sub hl [0, 1, 2] rfl) V
      · replace h := q_ifn hc h
        refine lv_aload_n hx hb d_M_flushed_12 rfl (lv_at hl 0 rfl) ?_
        refine m_get (v := .ref (b 7)) G V 0 4 7 m_w0 rfl in_M (by decide) k_M_28 rfl d_M_flushed_13 ?_
        refine lv_iload_n hx hb d_M_flushed_16 rfl (lv_at hl 3 rfl) ?_
        obtain ⟨g1, h⟩ := q_gd_h h
        refine m_iald G V 7 m_w7 g1 d_M_flushed_17 ?_
        refine lv_iload_n hx hb d_M_flushed_18 rfl (lv_at hl 1 rfl) ?_
        refine lv_icmp_ne (tgt := 47) hx hb d_M_flushed_19 (by decide) (fun hc => ?_) (fun hc => ?_)
        · replace h := q_ifn hc h
          refine lv_iinc (k := 3) (v := v3 + 1) (lv' := [(3, .int (v3 + 1)), (0, .ref (b 0)), (1, .int (u1)), (2, .int (v2))]) hx hb d_M_flushed_47 hl rfl rfl (by decide) rfl (fun ls hl => ?_)
          refine lv_goto (tgt := 4) hx hb d_M_flushed_50 (by decide) ?_
          exact ih _ _ _ _ _ ls h (lv_sub hl [1, 2, 3, 0] rfl) V
        · replace h := q_ifp hc h
          refine lv_aload_n hx hb d_M_flushed_22 rfl (lv_at hl 0 rfl) ?_
          refine m_get (v := .ref (b 8)) G V 0 4 8 m_w0 rfl in_M (by decide) k_M_31 rfl d_M_flushed_23 ?_
          refine lv_iload_n hx hb d_M_flushed_26 rfl (lv_at hl 3 rfl) ?_
          obtain ⟨g2, h⟩ := q_gd_h h
          refine m_iald G V 8 m_w8 g2 d_M_flushed_27 ?_
          refine lv_iconst (v := (-1)) hx hb d_M_flushed_28 (by decide) ?_
          refine lv_icmp_ne (tgt := 47) hx hb d_M_flushed_29 (by decide) (fun hc => ?_) (fun hc => ?_)
          · replace h := q_ifn hc h
            refine lv_iinc (k := 3) (v := v3 + 1) (lv' := [(3, .int (v3 + 1)), (0, .ref (b 0)), (1, .int (u1)), (2, .int (v2))]) hx hb d_M_flushed_47 hl rfl rfl (by decide) rfl (fun ls hl => ?_)
            refine lv_goto (tgt := 4) hx hb d_M_flushed_50 (by decide) ?_
            exact ih _ _ _ _ _ ls h (lv_sub hl [1, 2, 3, 0] rfl) V
          · replace h := q_ifp hc h
            refine lv_aload_n hx hb d_M_flushed_32 rfl (lv_at hl 0 rfl) ?_
            refine m_get (v := .ref (b 8)) G V 0 4 8 m_w0 rfl in_M (by decide) k_M_31 rfl d_M_flushed_33 ?_
            refine lv_iload_n hx hb d_M_flushed_36 rfl (lv_at hl 3 rfl) ?_
            refine lv_aload_n hx hb d_M_flushed_37 rfl (lv_at hl 0 rfl) ?_
            refine m_get (v := .ref (b 10)) G V 0 4 11 m_w0 rfl in_M (by decide) k_M_41 rfl d_M_flushed_38 ?_
            refine lv_iload_n hx hb d_M_flushed_41 rfl (lv_at hl 1 rfl) ?_
            obtain ⟨g3, h⟩ := q_gd_h h
            refine m_iald G V 10 m_w10 g3 d_M_flushed_42 ?_
            obtain ⟨g4, h⟩ := q_gd_h h
            obtain ⟨s5, e5, h⟩ := q_let_h h
            refine m_iast (σ' := s5) G V 8 m_w8 (m_u8.trans (congrArg (m_W b cs) e5.symm)) g4 d_M_flushed_43 (fun H locs V => ?_)
            refine lv_iinc (k := 2) (v := v2 + 1) (lv' := [(2, .int (v2 + 1)), (0, .ref (b 0)), (1, .int (u1)), (3, .int (v3))]) hx hb d_M_flushed_44 hl rfl rfl (by decide) rfl (fun ls hl => ?_)
            refine lv_iinc (k := 3) (v := v3 + 1) (lv' := [(3, .int (v3 + 1)), (2, .int (v2 + 1)), (0, .ref (b 0)), (1, .int (u1))]) hx hb d_M_flushed_47 hl rfl rfl (by decide) rfl (fun ls hl => ?_)
            refine lv_goto (tgt := 4) hx hb d_M_flushed_50 (by decide) ?_
            exact ih _ _ _ _ _ ls h (lv_sub hl [2, 3, 1, 0] rfl) V
  replace hl := lv_sub (l' := [(0, .ref (b 0)), (1, .int (a1)), (2, .int (0)), (3, .int (0))]) hl [2, 3, 1, 0] rfl
  refine lp4 _ _ ?_ _ _ _ _ _ _ ls h hl V
  intro v2 t6 H locs ls h hl V
  refine lv_aload_n hx hb d_M_flushed_53 rfl (lv_at hl 0 rfl) ?_
  refine m_get (v := .ref (b 10)) G V 0 4 11 m_w0 rfl in_M (by decide) k_M_41 rfl d_M_flushed_54 ?_
  refine lv_iload_n hx hb d_M_flushed_57 rfl (lv_at hl 1 rfl) ?_
  refine lv_dup2_11 hx hb d_M_flushed_58 rfl rfl ?_
  obtain ⟨g7, h⟩ := q_gd_h h
  refine m_iald G V 10 m_w10 g7 d_M_flushed_59 ?_
  refine lv_iload_n hx hb d_M_flushed_60 rfl (lv_at hl 2 rfl) ?_
  refine lv_if_le (tgt := 68) hx hb d_M_flushed_61 (by decide) (fun hc => ?_) (fun hc => ?_)
  · replace h := q_ifp hc h
    refine lv_iconst (v := 0) hx hb d_M_flushed_68 (by decide) ?_
    refine lv_iadd hx hb d_M_flushed_69 ?_
    obtain ⟨g8, h⟩ := q_gd_h h
    obtain ⟨s9, e9, h⟩ := q_let_h h
    refine m_iast (σ' := s9) G V 10 m_w10 (m_u10.trans (congrArg (m_W b cs) e9.symm)) g8 d_M_flushed_70 (fun H locs V => ?_)
    refine lv_iload_n hx hb d_M_flushed_71 rfl (lv_at hl 2 rfl) ?_
    exact m_ret_i G hr hlk h V d_M_flushed_72
  · replace h := q_ifn hc h
    refine lv_iconst (v := 1) hx hb d_M_flushed_64 (by decide) ?_
    refine lv_goto (tgt := 69) hx hb d_M_flushed_65 (by decide) ?_
    refine lv_iadd hx hb d_M_flushed_69 ?_
    obtain ⟨g10, h⟩ := q_gd_h h
    obtain ⟨s11, e11, h⟩ := q_let_h h
    refine m_iast (σ' := s11) G V 10 m_w10 (m_u10.trans (congrArg (m_W b cs) e11.symm)) g10 d_M_flushed_70 (fun H locs V => ?_)
    refine lv_iload_n hx hb d_M_flushed_71 rfl (lv_at hl 2 rfl) ?_
    exact m_ret_i G hr hlk h V d_M_flushed_72

set_option maxHeartbeats 40000000 in
set_option maxRecDepth 100000 in
theorem c_M_apply (l : Launch) (D : va_G) (b : Nat → Nat) (cs : Nat → ClassId) (N : Nat) (σ : m_T) (r : Int32) (σ' : m_T) (h : f_M_apply N σ = some (r, σ')) : m_Ci l y_M_apply b_M_apply 7 (some .int) { frames := 4, cells := 0, slots := 0, locals := 96 } D b cs σ [.ref (b 0)] r σ' := by
  refine m_met_i (own := R_M) (by decide) rfl (Nat.le_of_ble_eq_true rfl) ?_
  intro p e s m args below meth c A G hr hlk hml ls hl V
  have hx := G.1
  have hb := G.2.1
  have hown := G.2.2.1
  have hts := G.2.2.2.1
  have hN := G.2.2.2.2.2
  have hl : lv_has ls 7 [(0, .ref (b 0))] := hl
  unfold f_M_apply at h
  refine lv_aload_n hx hb d_M_apply_0 rfl (lv_at hl 0 rfl) ?_
  refine m_get (v := .int (m_S σ 15)) G V 0 4 15 m_w0 rfl in_M (by decide) k_M_99 rfl d_M_apply_1 ?_
  refine lv_if_ne (tgt := 9) hx hb d_M_apply_4 (by decide) (fun hc => ?_) (fun hc => ?_)
  · replace h := q_ifn hc h
    refine lv_aload_n hx hb d_M_apply_9 rfl (lv_at hl 0 rfl) ?_
    refine m_get (v := .int (m_S σ 0)) G V 0 4 0 m_w0 rfl in_M (by decide) k_M_79 rfl d_M_apply_10 ?_
    refine lv_sipush (v := 240) hx hb d_M_apply_13 (by decide) ?_
    refine lv_icmp_lt (tgt := 22) hx hb d_M_apply_16 (by decide) (fun hc => ?_) (fun hc => ?_)
    · replace h := q_ifp hc h
      refine lv_aload_n hx hb d_M_apply_22 rfl (lv_at hl 0 rfl) ?_
      obtain ⟨r2, h1, h⟩ := q_bind h
      refine m_cV_i (As := []) (rest := []) G V hml (c_M_isMet l D b cs N σ r2 h1) 0 4 rfl m_w0 g_M_141 e_M_isMet ⟨Nat.le_of_ble_eq_true rfl, Nat.le_of_ble_eq_true rfl⟩ ⟨rfl, rfl⟩ ⟨Nat.zero_le _, Nat.zero_le _⟩ rfl hl.1 rfl (Nat.le_of_ble_eq_true rfl) d_M_apply_23 (fun H locs V => ?_)
      refine lv_istore_n (lv' := [(1, .int (r2)), (0, .ref (b 0))]) hx hb d_M_apply_26 rfl hl (by decide) rfl (fun ls hl => ?_)
      refine lv_aload_n hx hb d_M_apply_27 rfl (lv_at hl 1 rfl) ?_
      refine m_get (v := .int (m_S σ 17)) G V 0 4 17 m_w0 rfl in_M (by decide) k_M_102 rfl d_M_apply_28 ?_
      refine lv_istore_n (lv' := [(2, .int (m_S σ 17)), (1, .int (r2)), (0, .ref (b 0))]) hx hb d_M_apply_31 rfl hl (by decide) rfl (fun ls hl => ?_)
      refine lv_aload_n hx hb d_M_apply_32 rfl (lv_at hl 2 rfl) ?_
      refine m_get (v := .int (m_S σ 15)) G V 0 4 15 m_w0 rfl in_M (by decide) k_M_99 rfl d_M_apply_33 ?_
      refine lv_istore_n (lv' := [(3, .int (m_S σ 15)), (2, .int (m_S σ 17)), (1, .int (r2)), (0, .ref (b 0))]) hx hb d_M_apply_36 rfl hl (by decide) rfl (fun ls hl => ?_)
      refine lv_aload_n hx hb d_M_apply_37 rfl (lv_at hl 3 rfl) ?_
      obtain ⟨s4, h3, h⟩ := q_bind h
      refine m_cV_v (As := []) (rest := []) G V hml (c_M_drop l D b cs N σ s4 h3) 0 4 rfl m_w0 g_M_145 e_M_drop ⟨Nat.le_of_ble_eq_true rfl, Nat.le_of_ble_eq_true rfl⟩ ⟨rfl, rfl⟩ ⟨Nat.zero_le _, Nat.zero_le _⟩ rfl hl.1 rfl (Nat.le_of_ble_eq_true rfl) d_M_apply_38 (fun H locs V => ?_)
      refine lv_aload_n hx hb d_M_apply_41 rfl (lv_at hl 3 rfl) ?_
      refine m_get (v := .int (m_S s4 26)) G V 0 4 26 m_w0 rfl in_M (by decide) k_M_148 rfl d_M_apply_42 ?_
      refine lv_if_eq (tgt := 56) hx hb d_M_apply_45 (by decide) (fun hc => ?_) (fun hc => ?_)
      · replace h := q_ifp hc h
        refine lv_iload_n hx hb d_M_apply_56 rfl (lv_at hl 2 rfl) ?_
        refine lv_if_ne (tgt := 62) hx hb d_M_apply_57 (by decide) (fun hc => ?_) (fun hc => ?_)
        · replace h := q_ifn hc h
          refine lv_aload_n hx hb d_M_apply_62 rfl (lv_at hl 3 rfl) ?_
          refine m_get (v := .int (m_S s4 0)) G V 0 4 0 m_w0 rfl in_M (by decide) k_M_79 rfl d_M_apply_63 ?_
          refine lv_istore (lv' := [(4, .int (m_S s4 0)), (3, .int (m_S σ 15)), (2, .int (m_S σ 17)), (1, .int (r2)), (0, .ref (b 0))]) hx hb d_M_apply_66 hl (by decide) rfl (fun ls hl => ?_)
          refine lv_aload_n hx hb d_M_apply_68 rfl (lv_at hl 4 rfl) ?_
          refine lv_dup hx hb d_M_apply_69 rfl ?_
          refine m_get (v := .int (m_S s4 27)) G V 0 4 27 m_w0 rfl in_M (by decide) k_M_89 rfl d_M_apply_70 ?_
          refine lv_iconst (v := 1) hx hb d_M_apply_73 (by decide) ?_
          refine lv_iadd hx hb d_M_apply_74 ?_
          obtain ⟨s5, e5, h⟩ := q_let_h h
          refine m_put (σ' := s5) (ty := .int) G V 0 4 27 m_w0 rfl in_M tt_M_ok n_M (by decide) k_M_89 rfl rfl rfl rfl (Nat.le_of_ble_eq_true rfl) (m_uM27.trans (congrArg (m_W b cs) e5.symm)) d_M_apply_75 (fun H locs V => ?_)
          refine lv_iconst (v := 0) hx hb d_M_apply_78 (by decide) ?_
          refine lv_istore (lv' := [(5, .int (0)), (4, .int (m_S s4 0)), (3, .int (m_S σ 15)), (2, .int (m_S σ 17)), (1, .int (r2)), (0, .ref (b 0))]) hx hb d_M_apply_79 hl (by decide) rfl (fun ls hl => ?_)
          have lp81 : ∀ (u2 : Int32) (u3 : Int32) (u4 : Int32) (K : m_T → Option (Int32 × m_T)) (_ : ∀ (σ : m_T) (H : Heap) (locs : List Loc) (ls : Array Slot), K σ = some (r, σ') → lv_has ls 7 [(0, .ref (b 0)), (2, .int (u2)), (4, .int (u4))] → m_V D b cs σ A s.heap H locs → W p l e { frames := 4, cells := 0, slots := 0, locals := 96 } s m args below meth c H locs 0 0 (m_Qi below args s D b cs A r σ') (F0 m 148 ls [])) (n : Nat) (v5 : Int32) (σ : m_T) (H : Heap) (locs : List Loc) (ls : Array Slot), f_M_apply_L81 N u2 u3 u4 K n v5 σ = some (r, σ') → lv_has ls 7 [(0, .ref (b 0)), (2, .int (u2)), (3, .int (u3)), (4, .int (u4)), (5, .int (v5))] → m_V D b cs σ A s.heap H locs → W p l e { frames := 4, cells := 0, slots := 0, locals := 96 } s m args below meth c H locs 0 0 (m_Qi below args s D b cs A r σ') (F0 m 81 ls []) := by
            intro u2 u3 u4 K hK n
            induction n with
            | zero => intro v5 σ H locs ls h hl V; cases h
            | succ n ih =>
              intro v5 σ H locs ls h hl V
              rw [f_M_apply_L81] at h
              refine lv_iload hx hb d_M_apply_81 (lv_at hl 4 rfl) ?_
              refine lv_iload_n hx hb d_M_apply_83 rfl (lv_at hl 2 rfl) ?_
              refine lv_icmp_ge (tgt := 148) hx hb d_M_apply_84 (by decide) (fun hc => ?_) (fun hc => ?_)
              · replace h := q_ifp hc h
                exact hK _ _ _ ls h (lv_sub hl [0, 1, 3] rfl) V
              · replace h := q_ifn hc h
                refine lv_aload_n hx hb d_M_apply_87 rfl (lv_at hl 0 rfl) ?_
                refine lv_aload_n hx hb d_M_apply_88 rfl (lv_at hl 0 rfl) ?_
                refine m_get (v := .ref (b 13)) G V 0 4 16 m_w0 rfl in_M (by decide) k_M_50 rfl d_M_apply_89 ?_
                refine lv_iload hx hb d_M_apply_92 (lv_at hl 4 rfl) ?_
                obtain ⟨g6, h⟩ := q_gd_h h
                refine m_iald G V 13 m_w13 g6 d_M_apply_94 ?_
                refine lv_iload_n hx hb d_M_apply_95 rfl (lv_at hl 1 rfl) ?_
                refine lv_aload_n hx hb d_M_apply_96 rfl (lv_at hl 0 rfl) ?_
                refine m_get (v := .ref (b 14)) G V 0 4 18 m_w0 rfl in_M (by decide) k_M_53 rfl d_M_apply_97 ?_
                refine lv_iload hx hb d_M_apply_100 (lv_at hl 4 rfl) ?_
                obtain ⟨g7, h⟩ := q_gd_h h
                refine m_iald G V 14 m_w14 g7 d_M_apply_102 ?_
                refine lv_aload_n hx hb d_M_apply_103 rfl (lv_at hl 0 rfl) ?_
                refine m_get (v := .ref (b 15)) G V 0 4 19 m_w0 rfl in_M (by decide) k_M_56 rfl d_M_apply_104 ?_
                refine lv_iload hx hb d_M_apply_107 (lv_at hl 4 rfl) ?_
                obtain ⟨g8, h⟩ := q_gd_h h
                refine m_iald G V 15 m_w15 g8 d_M_apply_109 ?_
                refine lv_aload_n hx hb d_M_apply_110 rfl (lv_at hl 0 rfl) ?_
                refine m_get (v := .ref (b 16)) G V 0 4 20 m_w0 rfl in_M (by decide) k_M_59 rfl d_M_apply_111 ?_
                refine lv_iload hx hb d_M_apply_114 (lv_at hl 4 rfl) ?_
                obtain ⟨g9, h⟩ := q_gd_h h
                refine m_iald G V 16 m_w16 g9 d_M_apply_116 ?_
                obtain ⟨s11, h10, h⟩ := q_bind h
                refine m_cV_v (As := [.int (m_I σ 13 ((v5 : Int32).toNatClampNeg)), .int (u2), .int (m_I σ 14 ((v5 : Int32).toNatClampNeg)), .int (m_I σ 15 ((v5 : Int32).toNatClampNeg)), .int (m_I σ 16 ((v5 : Int32).toNatClampNeg))]) (rest := []) G V hml (c_M_make l D b cs N σ (m_I σ 13 ((v5 : Int32).toNatClampNeg)) u2 (m_I σ 14 ((v5 : Int32).toNatClampNeg)) (m_I σ 15 ((v5 : Int32).toNatClampNeg)) (m_I σ 16 ((v5 : Int32).toNatClampNeg)) s11 h10) 0 4 rfl m_w0 g_M_138 e_M_make ⟨Nat.le_of_ble_eq_true rfl, Nat.le_of_ble_eq_true rfl⟩ ⟨rfl, rfl⟩ ⟨Nat.zero_le _, Nat.zero_le _⟩ rfl hl.1 rfl (Nat.le_of_ble_eq_true rfl) d_M_apply_117 (fun H locs V => ?_)
                refine lv_aload_n hx hb d_M_apply_120 rfl (lv_at hl 0 rfl) ?_
                refine m_get (v := .ref (b 13)) G V 0 4 16 m_w0 rfl in_M (by decide) k_M_50 rfl d_M_apply_121 ?_
                refine lv_iload hx hb d_M_apply_124 (lv_at hl 4 rfl) ?_
                obtain ⟨g12, h⟩ := q_gd_h h
                refine m_iald G V 13 m_w13 g12 d_M_apply_126 ?_
                refine lv_if_ne (tgt := 142) hx hb d_M_apply_127 (by decide) (fun hc => ?_) (fun hc => ?_)
                · replace h := q_ifn hc h
                  refine lv_iinc (k := 4) (v := v5 + 1) (lv' := [(5, .int (v5 + 1)), (0, .ref (b 0)), (2, .int (u2)), (3, .int (u3)), (4, .int (u4))]) hx hb d_M_apply_142 hl rfl rfl (by decide) rfl (fun ls hl => ?_)
                  refine lv_goto (tgt := 81) hx hb d_M_apply_145 (by decide) ?_
                  exact ih _ _ _ _ ls h (lv_sub hl [1, 2, 3, 4, 0] rfl) V
                · replace h := q_ifp hc h
                  refine lv_aload_n hx hb d_M_apply_130 rfl (lv_at hl 0 rfl) ?_
                  refine lv_iload_n hx hb d_M_apply_131 rfl (lv_at hl 1 rfl) ?_
                  refine lv_aload_n hx hb d_M_apply_132 rfl (lv_at hl 0 rfl) ?_
                  refine m_get (v := .ref (b 14)) G V 0 4 18 m_w0 rfl in_M (by decide) k_M_53 rfl d_M_apply_133 ?_
                  refine lv_iload hx hb d_M_apply_136 (lv_at hl 4 rfl) ?_
                  obtain ⟨g13, h⟩ := q_gd_h h
                  refine m_iald G V 14 m_w14 g13 d_M_apply_138 ?_
                  obtain ⟨s15, h14, h⟩ := q_bind h
                  refine m_cV_v (As := [.int (u2), .int (m_I s11 14 ((v5 : Int32).toNatClampNeg))]) (rest := []) G V hml (c_M_trim l D b cs N s11 u2 (m_I s11 14 ((v5 : Int32).toNatClampNeg)) s15 h14) 0 4 rfl m_w0 g_M_151 e_M_trim ⟨Nat.le_of_ble_eq_true rfl, Nat.le_of_ble_eq_true rfl⟩ ⟨rfl, rfl⟩ ⟨Nat.zero_le _, Nat.zero_le _⟩ rfl hl.1 rfl (Nat.le_of_ble_eq_true rfl) d_M_apply_139 (fun H locs V => ?_)
                  refine lv_iinc (k := 4) (v := v5 + 1) (lv' := [(5, .int (v5 + 1)), (0, .ref (b 0)), (2, .int (u2)), (3, .int (u3)), (4, .int (u4))]) hx hb d_M_apply_142 hl rfl rfl (by decide) rfl (fun ls hl => ?_)
                  refine lv_goto (tgt := 81) hx hb d_M_apply_145 (by decide) ?_
                  exact ih _ _ _ _ ls h (lv_sub hl [1, 2, 3, 4, 0] rfl) V
          replace hl := lv_sub (l' := [(0, .ref (b 0)), (2, .int (m_S σ 17)), (3, .int (m_S σ 15)), (4, .int (m_S s4 0)), (5, .int (0))]) hl [5, 3, 2, 1, 0] rfl
          refine lp81 _ _ _ _ ?_ _ _ _ _ _ ls h hl V
          intro t16 H locs ls h hl V
          refine lv_aload_n hx hb d_M_apply_148 rfl (lv_at hl 0 rfl) ?_
          refine m_get (v := .int (m_S t16 0)) G V 0 4 0 m_w0 rfl in_M (by decide) k_M_79 rfl d_M_apply_149 ?_
          refine lv_iload hx hb d_M_apply_152 (lv_at hl 2 rfl) ?_
          refine lv_isub hx hb d_M_apply_154 ?_
          refine lv_istore (lv' := [(5, .int ((m_S t16 0) - (m_S s4 0))), (0, .ref (b 0)), (2, .int (m_S σ 17)), (4, .int (m_S s4 0))]) hx hb d_M_apply_155 hl (by decide) rfl (fun ls hl => ?_)
          refine lv_aload_n hx hb d_M_apply_157 rfl (lv_at hl 1 rfl) ?_
          refine lv_iload_n hx hb d_M_apply_158 rfl (lv_at hl 2 rfl) ?_
          obtain ⟨r18, h17, h⟩ := q_bind h
          refine m_cV_i (As := [.int (m_S σ 17)]) (rest := []) G V hml (c_M_tabletWith l D b cs N t16 (m_S σ 17) r18 h17) 0 4 rfl m_w0 g_M_92 e_M_tabletWith ⟨Nat.le_of_ble_eq_true rfl, Nat.le_of_ble_eq_true rfl⟩ ⟨rfl, rfl⟩ ⟨Nat.zero_le _, Nat.zero_le _⟩ rfl hl.1 rfl (Nat.le_of_ble_eq_true rfl) d_M_apply_159 (fun H locs V => ?_)
          refine lv_istore (lv' := [(6, .int (r18)), (5, .int ((m_S t16 0) - (m_S s4 0))), (0, .ref (b 0)), (2, .int (m_S σ 17)), (4, .int (m_S s4 0))]) hx hb d_M_apply_162 hl (by decide) rfl (fun ls hl => ?_)
          refine lv_aload_n hx hb d_M_apply_164 rfl (lv_at hl 2 rfl) ?_
          refine lv_iload hx hb d_M_apply_165 (lv_at hl 0 rfl) ?_
          refine lv_iconst (v := (-1)) hx hb d_M_apply_167 (by decide) ?_
          obtain ⟨r20, h19, h⟩ := q_bind h
          refine m_cV_i (As := [.int (r18), .int ((-1))]) (rest := []) G V hml (c_M_inTable l D b cs N t16 r18 (-1) r20 h19) 0 4 rfl m_w0 g_M_155 e_M_inTable ⟨Nat.le_of_ble_eq_true rfl, Nat.le_of_ble_eq_true rfl⟩ ⟨rfl, rfl⟩ ⟨Nat.zero_le _, Nat.zero_le _⟩ rfl hl.1 rfl (Nat.le_of_ble_eq_true rfl) d_M_apply_168 (fun H locs V => ?_)
          refine lv_bipush (v := 16) hx hb d_M_apply_171 (by decide) ?_
          refine lv_icmp_lt (tgt := 183) hx hb d_M_apply_173 (by decide) (fun hc => ?_) (fun hc => ?_)
          · replace h := q_ifp hc h
            refine lv_iload hx hb d_M_apply_183 (lv_at hl 1 rfl) ?_
            exact m_ret_i G hr hlk h V d_M_apply_185
          · replace h := q_ifn hc h
            refine lv_aload_n hx hb d_M_apply_176 rfl (lv_at hl 2 rfl) ?_
            refine lv_iload hx hb d_M_apply_177 (lv_at hl 0 rfl) ?_
            obtain ⟨q22, h21, h⟩ := q_bind h
            refine m_cV_i (As := [.int (r18)]) (rest := []) G V hml (c_M_flushed l D b cs N t16 r18 q22.1 q22.2 h21) 0 4 rfl m_w0 g_M_158 e_M_flushed ⟨Nat.le_of_ble_eq_true rfl, Nat.le_of_ble_eq_true rfl⟩ ⟨rfl, rfl⟩ ⟨Nat.zero_le _, Nat.zero_le _⟩ rfl hl.1 rfl (Nat.le_of_ble_eq_true rfl) d_M_apply_179 (fun H locs V => ?_)
            refine lv_pop hx hb d_M_apply_182 rfl ?_
            refine lv_iload hx hb d_M_apply_183 (lv_at hl 1 rfl) ?_
            exact m_ret_i G hr hlk h V d_M_apply_185
        · replace h := q_ifp hc h
          refine lv_iconst (v := 0) hx hb d_M_apply_60 (by decide) ?_
          exact m_ret_i G hr hlk h V d_M_apply_61
      · replace h := q_ifn hc h
        refine lv_aload_n hx hb d_M_apply_48 rfl (lv_at hl 3 rfl) ?_
        refine lv_iconst (v := 0) hx hb d_M_apply_49 (by decide) ?_
        obtain ⟨s23, e23, h⟩ := q_let_h h
        refine m_put (σ' := s23) (ty := .boolean) G V 0 4 26 m_w0 rfl in_M tt_M_ok n_M (by decide) k_M_148 rfl rfl rfl rfl (Nat.le_of_ble_eq_true rfl) (m_uM26.trans (congrArg (m_W b cs) e23.symm)) d_M_apply_50 (fun H locs V => ?_)
        refine lv_bipush (v := (-3)) hx hb d_M_apply_53 (by decide) ?_
        exact m_ret_i G hr hlk h V d_M_apply_55
    · replace h := q_ifn hc h
      refine lv_bipush (v := (-2)) hx hb d_M_apply_19 (by decide) ?_
      exact m_ret_i G hr hlk h V d_M_apply_21
  · replace h := q_ifp hc h
    refine lv_iconst (v := (-1)) hx hb d_M_apply_7 (by decide) ?_
    exact m_ret_i G hr hlk h V d_M_apply_8
