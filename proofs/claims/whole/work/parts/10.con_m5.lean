set_option maxHeartbeats 40000000 in
set_option maxRecDepth 100000 in
theorem c_M_compact (l : Launch) (D : va_G) (b : Nat → Nat) (cs : Nat → ClassId) (N : Nat) (σ : m_T) (a1 : Int32) (a2 : Int32) (r : Int32) (σ' : m_T) (h : f_M_compact N σ a1 a2 = some (r, σ')) : m_Ci l y_M_compact b_M_compact 3 (some .int) { frames := 3, cells := 0, slots := 0, locals := 70 } D b cs σ [.ref (b 0), .int (a1), .int (a2)] r σ' := by
  refine m_met_i (own := R_M) (by decide) rfl (Nat.le_of_ble_eq_true rfl) ?_
  intro p e s m args below meth c A G hr hlk hml ls hl V
  have hx := G.1
  have hb := G.2.1
  have hown := G.2.2.1
  have hts := G.2.2.2.1
  have hN := G.2.2.2.2.2
  have hl : lv_has ls 3 [(0, .ref (b 0)), (1, .int (a1)), (2, .int (a2))] := hl
  unfold f_M_compact at h
  refine lv_aload_n hx hb d_M_compact_0 rfl (lv_at hl 0 rfl) ?_
  refine lv_iload_n hx hb d_M_compact_1 rfl (lv_at hl 1 rfl) ?_
  obtain ⟨r2, h1, h⟩ := q_bind h
  refine m_cV_i (As := [.int (a1)]) (rest := []) G V hml (c_M_isTablet l D b cs N σ a1 r2 h1) 0 4 rfl m_w0 g_M_189 e_M_isTablet ⟨Nat.le_of_ble_eq_true rfl, Nat.le_of_ble_eq_true rfl⟩ ⟨rfl, rfl⟩ ⟨Nat.zero_le _, Nat.zero_le _⟩ rfl hl.1 rfl (Nat.le_of_ble_eq_true rfl) d_M_compact_2 (fun H locs V => ?_)
  refine lv_if_eq (tgt := 23) hx hb d_M_compact_5 (by decide) (fun hc => ?_) (fun hc => ?_)
  · replace h := q_ifp hc h
    refine lv_iconst (v := (-1)) hx hb d_M_compact_23 (by decide) ?_
    exact m_ret_i G hr hlk h V d_M_compact_24
  · replace h := q_ifn hc h
    refine lv_iload_n hx hb d_M_compact_8 rfl (lv_at hl 2 rfl) ?_
    refine lv_iconst (v := 2) hx hb d_M_compact_9 (by decide) ?_
    refine lv_icmp_lt (tgt := 23) hx hb d_M_compact_10 (by decide) (fun hc => ?_) (fun hc => ?_)
    · replace h := q_ifp hc h
      refine lv_iconst (v := (-1)) hx hb d_M_compact_23 (by decide) ?_
      exact m_ret_i G hr hlk h V d_M_compact_24
    · replace h := q_ifn hc h
      refine lv_iload_n hx hb d_M_compact_13 rfl (lv_at hl 2 rfl) ?_
      refine lv_aload_n hx hb d_M_compact_14 rfl (lv_at hl 0 rfl) ?_
      refine m_get (v := .ref (b 10)) G V 0 4 11 m_w0 rfl in_M (by decide) k_M_41 rfl d_M_compact_15 ?_
      refine lv_iload_n hx hb d_M_compact_18 rfl (lv_at hl 1 rfl) ?_
      obtain ⟨g3, h⟩ := q_gd_h h
      refine m_iald G V 10 m_w10 g3 d_M_compact_19 ?_
      refine lv_icmp_le (tgt := 25) hx hb d_M_compact_20 (by decide) (fun hc => ?_) (fun hc => ?_)
      · replace h := q_ifp hc h
        refine lv_aload_n hx hb d_M_compact_25 rfl (lv_at hl 0 rfl) ?_
        refine lv_iload_n hx hb d_M_compact_26 rfl (lv_at hl 1 rfl) ?_
        refine lv_aload_n hx hb d_M_compact_27 rfl (lv_at hl 0 rfl) ?_
        refine m_get (v := .ref (b 10)) G V 0 4 11 m_w0 rfl in_M (by decide) k_M_41 rfl d_M_compact_28 ?_
        refine lv_iload_n hx hb d_M_compact_31 rfl (lv_at hl 1 rfl) ?_
        obtain ⟨g4, h⟩ := q_gd_h h
        refine m_iald G V 10 m_w10 g4 d_M_compact_32 ?_
        refine lv_iload_n hx hb d_M_compact_33 rfl (lv_at hl 2 rfl) ?_
        refine lv_isub hx hb d_M_compact_34 ?_
        refine lv_iconst (v := 0) hx hb d_M_compact_35 (by decide) ?_
        obtain ⟨q6, h5, h⟩ := q_bind h
        refine m_cV_i (As := [.int (a1), .int ((m_I σ 10 ((a1 : Int32).toNatClampNeg)) - a2), .int (0)]) (rest := []) G V hml (c_M_merge l D b cs N σ a1 ((m_I σ 10 ((a1 : Int32).toNatClampNeg)) - a2) 0 q6.1 q6.2 h5) 0 4 rfl m_w0 g_M_199 e_M_merge ⟨Nat.le_of_ble_eq_true rfl, Nat.le_of_ble_eq_true rfl⟩ ⟨rfl, rfl⟩ ⟨Nat.zero_le _, Nat.zero_le _⟩ rfl hl.1 rfl (Nat.le_of_ble_eq_true rfl) d_M_compact_36 (fun H locs V => ?_)
        exact m_ret_i G hr hlk h V d_M_compact_39
      · replace h := q_ifn hc h
        refine lv_iconst (v := (-1)) hx hb d_M_compact_23 (by decide) ?_
        exact m_ret_i G hr hlk h V d_M_compact_24

set_option maxHeartbeats 40000000 in
set_option maxRecDepth 100000 in
theorem c_M_major (l : Launch) (D : va_G) (b : Nat → Nat) (cs : Nat → ClassId) (N : Nat) (σ : m_T) (a1 : Int32) (r : Int32) (σ' : m_T) (h : f_M_major N σ a1 = some (r, σ')) : m_Ci l y_M_major b_M_major 3 (some .int) { frames := 3, cells := 0, slots := 0, locals := 70 } D b cs σ [.ref (b 0), .int (a1)] r σ' := by
  refine m_met_i (own := R_M) (by decide) rfl (Nat.le_of_ble_eq_true rfl) ?_
  intro p e s m args below meth c A G hr hlk hml ls hl V
  have hx := G.1
  have hb := G.2.1
  have hown := G.2.2.1
  have hts := G.2.2.2.1
  have hN := G.2.2.2.2.2
  have hl : lv_has ls 3 [(0, .ref (b 0)), (1, .int (a1))] := hl
  unfold f_M_major at h
  refine lv_aload_n hx hb d_M_major_0 rfl (lv_at hl 0 rfl) ?_
  refine lv_iload_n hx hb d_M_major_1 rfl (lv_at hl 1 rfl) ?_
  obtain ⟨r2, h1, h⟩ := q_bind h
  refine m_cV_i (As := [.int (a1)]) (rest := []) G V hml (c_M_isTablet l D b cs N σ a1 r2 h1) 0 4 rfl m_w0 g_M_189 e_M_isTablet ⟨Nat.le_of_ble_eq_true rfl, Nat.le_of_ble_eq_true rfl⟩ ⟨rfl, rfl⟩ ⟨Nat.zero_le _, Nat.zero_le _⟩ rfl hl.1 rfl (Nat.le_of_ble_eq_true rfl) d_M_major_2 (fun H locs V => ?_)
  refine lv_if_ne (tgt := 10) hx hb d_M_major_5 (by decide) (fun hc => ?_) (fun hc => ?_)
  · replace h := q_ifn hc h
    refine lv_aload_n hx hb d_M_major_10 rfl (lv_at hl 0 rfl) ?_
    refine lv_iload_n hx hb d_M_major_11 rfl (lv_at hl 1 rfl) ?_
    obtain ⟨q4, h3, h⟩ := q_bind h
    refine m_cV_i (As := [.int (a1)]) (rest := []) G V hml (c_M_flushed l D b cs N σ a1 q4.1 q4.2 h3) 0 4 rfl m_w0 g_M_158 e_M_flushed ⟨Nat.le_of_ble_eq_true rfl, Nat.le_of_ble_eq_true rfl⟩ ⟨rfl, rfl⟩ ⟨Nat.zero_le _, Nat.zero_le _⟩ rfl hl.1 rfl (Nat.le_of_ble_eq_true rfl) d_M_major_12 (fun H locs V => ?_)
    refine lv_istore_n (lv' := [(2, .int (q4.1)), (0, .ref (b 0)), (1, .int (a1))]) hx hb d_M_major_15 rfl hl (by decide) rfl (fun ls hl => ?_)
    refine lv_iload_n hx hb d_M_major_16 rfl (lv_at hl 0 rfl) ?_
    refine lv_if_lt (tgt := 30) hx hb d_M_major_17 (by decide) (fun hc => ?_) (fun hc => ?_)
    · replace h := q_ifp hc h
      refine lv_iconst (v := 0) hx hb d_M_major_30 (by decide) ?_
      exact m_ret_i G hr hlk h V d_M_major_31
    · replace h := q_ifn hc h
      refine lv_aload_n hx hb d_M_major_20 rfl (lv_at hl 1 rfl) ?_
      refine lv_iload_n hx hb d_M_major_21 rfl (lv_at hl 2 rfl) ?_
      refine lv_iconst (v := 0) hx hb d_M_major_22 (by decide) ?_
      refine lv_iconst (v := 1) hx hb d_M_major_23 (by decide) ?_
      obtain ⟨q6, h5, h⟩ := q_bind h
      refine m_cV_i (As := [.int (a1), .int (0), .int (1)]) (rest := []) G V hml (c_M_merge l D b cs N q4.2 a1 0 1 q6.1 q6.2 h5) 0 4 rfl m_w0 g_M_199 e_M_merge ⟨Nat.le_of_ble_eq_true rfl, Nat.le_of_ble_eq_true rfl⟩ ⟨rfl, rfl⟩ ⟨Nat.zero_le _, Nat.zero_le _⟩ rfl hl.1 rfl (Nat.le_of_ble_eq_true rfl) d_M_major_24 (fun H locs V => ?_)
      refine lv_goto (tgt := 31) hx hb d_M_major_27 (by decide) ?_
      exact m_ret_i G hr hlk h V d_M_major_31
  · replace h := q_ifp hc h
    refine lv_iconst (v := (-1)) hx hb d_M_major_8 (by decide) ?_
    exact m_ret_i G hr hlk h V d_M_major_9

set_option maxHeartbeats 40000000 in
set_option maxRecDepth 100000 in
theorem c_M_lastRow (l : Launch) (D : va_G) (b : Nat → Nat) (cs : Nat → ClassId) (N : Nat) (σ : m_T) (a1 : Int32) (r : Int32) (h : f_M_lastRow N σ a1 = some r) : m_Ci l y_M_lastRow b_M_lastRow 2 (some .int) { frames := 0, cells := 0, slots := 0, locals := 0 } D b cs σ [.ref (b 0), .int (a1)] r σ := by
  refine m_met_i (own := R_M) (by decide) rfl (Nat.le_of_ble_eq_true rfl) ?_
  intro p e s m args below meth c A G hr hlk hml ls hl V
  have hx := G.1
  have hb := G.2.1
  have hown := G.2.2.1
  have hts := G.2.2.2.1
  have hN := G.2.2.2.2.2
  have hl : lv_has ls 2 [(0, .ref (b 0)), (1, .int (a1))] := hl
  unfold f_M_lastRow at h
  refine lv_iload_n hx hb d_M_lastRow_0 rfl (lv_at hl 1 rfl) ?_
  refine lv_aload_n hx hb d_M_lastRow_1 rfl (lv_at hl 0 rfl) ?_
  refine m_get (v := .int (m_S σ 9)) G V 0 4 9 m_w0 rfl in_M (by decide) k_M_34 rfl d_M_lastRow_2 ?_
  refine lv_iconst (v := 1) hx hb d_M_lastRow_5 (by decide) ?_
  refine lv_isub hx hb d_M_lastRow_6 ?_
  refine lv_icmp_ne (tgt := 15) hx hb d_M_lastRow_7 (by decide) (fun hc => ?_) (fun hc => ?_)
  · replace h := q_ifn hc h
    refine lv_aload_n hx hb d_M_lastRow_15 rfl (lv_at hl 0 rfl) ?_
    refine m_get (v := .ref (b 9)) G V 0 4 10 m_w0 rfl in_M (by decide) k_M_38 rfl d_M_lastRow_16 ?_
    refine lv_iload_n hx hb d_M_lastRow_19 rfl (lv_at hl 1 rfl) ?_
    refine lv_iconst (v := 1) hx hb d_M_lastRow_20 (by decide) ?_
    refine lv_iadd hx hb d_M_lastRow_21 ?_
    obtain ⟨g1, h⟩ := q_gd_h h
    refine m_iald G V 9 m_w9 g1 d_M_lastRow_22 ?_
    refine lv_iconst (v := 1) hx hb d_M_lastRow_23 (by decide) ?_
    refine lv_isub hx hb d_M_lastRow_24 ?_
    exact m_pret_i G hr hlk h rfl V d_M_lastRow_25
  · replace h := q_ifp hc h
    refine lv_bipush (v := 63) hx hb d_M_lastRow_10 (by decide) ?_
    refine lv_goto (tgt := 25) hx hb d_M_lastRow_12 (by decide) ?_
    exact m_pret_i G hr hlk h rfl V d_M_lastRow_25

set_option maxHeartbeats 40000000 in
set_option maxRecDepth 100000 in
theorem c_M_close (l : Launch) (D : va_G) (b : Nat → Nat) (cs : Nat → ClassId) (N : Nat) (σ : m_T) (a1 : Int32) (σ' : m_T) (h : f_M_close N σ a1 = some σ') : m_Cv l y_M_close b_M_close 5 none { frames := 1, cells := 0, slots := 0, locals := 24 } D b cs σ [.ref (b 0), .int (a1)] σ' := by
  refine m_met_v (own := R_M) (by decide) rfl (Nat.le_of_ble_eq_true rfl) ?_
  intro p e s m args below meth c A G hr hlk hml ls hl V
  have hx := G.1
  have hb := G.2.1
  have hown := G.2.2.1
  have hts := G.2.2.2.1
  have hN := G.2.2.2.2.2
  have hl : lv_has ls 5 [(0, .ref (b 0)), (1, .int (a1))] := hl
  unfold f_M_close at h
  refine lv_iconst (v := 0) hx hb d_M_close_0 (by decide) ?_
  refine lv_istore_n (lv' := [(2, .int (0)), (0, .ref (b 0)), (1, .int (a1))]) hx hb d_M_close_1 rfl hl (by decide) rfl (fun ls hl => ?_)
  refine lv_iconst (v := 0) hx hb d_M_close_2 (by decide) ?_
  refine lv_istore_n (lv' := [(3, .int (0)), (2, .int (0)), (0, .ref (b 0)), (1, .int (a1))]) hx hb d_M_close_3 rfl hl (by decide) rfl (fun ls hl => ?_)
  have lp4 : ∀ (u1 : Int32) (K : Int32 → m_T → Option m_T) (_ : ∀ (v2 : Int32) (σ : m_T) (H : Heap) (locs : List Loc) (ls : Array Slot), K v2 σ = some σ' → lv_has ls 5 [(0, .ref (b 0)), (1, .int (u1)), (2, .int (v2))] → m_V D b cs σ A s.heap H locs → W p l e { frames := 1, cells := 0, slots := 0, locals := 24 } s m args below meth c H locs 0 0 (m_Qv below args s D b cs A σ') (F0 m 80 ls [])) (n : Nat) (v2 : Int32) (v3 : Int32) (σ : m_T) (H : Heap) (locs : List Loc) (ls : Array Slot), f_M_close_L4 N u1 K n v2 v3 σ = some σ' → lv_has ls 5 [(0, .ref (b 0)), (1, .int (u1)), (2, .int (v2)), (3, .int (v3))] → m_V D b cs σ A s.heap H locs → W p l e { frames := 1, cells := 0, slots := 0, locals := 24 } s m args below meth c H locs 0 0 (m_Qv below args s D b cs A σ') (F0 m 4 ls []) := by
    intro u1 K hK n
    induction n with
    | zero => intro v2 v3 σ H locs ls h hl V; cases h
    | succ n ih =>
      intro v2 v3 σ H locs ls h hl V
      rw [f_M_close_L4] at h
      refine lv_iload_n hx hb d_M_close_4 rfl (lv_at hl 3 rfl) ?_
      refine lv_aload_n hx hb d_M_close_5 rfl (lv_at hl 0 rfl) ?_
      refine m_get (v := .ref (b 10)) G V 0 4 11 m_w0 rfl in_M (by decide) k_M_41 rfl d_M_close_6 ?_
      refine lv_iload_n hx hb d_M_close_9 rfl (lv_at hl 1 rfl) ?_
      obtain ⟨g1, h⟩ := q_gd_h h
      refine m_iald G V 10 m_w10 g1 d_M_close_10 ?_
      refine lv_icmp_ge (tgt := 80) hx hb d_M_close_11 (by decide) (fun hc => ?_) (fun hc => ?_)
      · replace h := q_ifp hc h
        exact hK _ _ _ _ ls h (lv_sub hl [0, 1, 2] rfl) V
      · replace h := q_ifn hc h
        refine lv_aload_n hx hb d_M_close_14 rfl (lv_at hl 0 rfl) ?_
        refine lv_iload_n hx hb d_M_close_15 rfl (lv_at hl 1 rfl) ?_
        refine lv_iload_n hx hb d_M_close_16 rfl (lv_at hl 3 rfl) ?_
        obtain ⟨r3, h2, h⟩ := q_bind h
        refine m_cV_i (As := [.int (u1), .int (v3)]) (rest := []) G V hml (c_M_inTable l D b cs N σ u1 v3 r3 h2) 0 4 rfl m_w0 g_M_155 e_M_inTable ⟨Nat.le_of_ble_eq_true rfl, Nat.le_of_ble_eq_true rfl⟩ ⟨rfl, rfl⟩ ⟨Nat.zero_le _, Nat.zero_le _⟩ rfl hl.1 rfl (Nat.le_of_ble_eq_true rfl) d_M_close_17 (fun H locs V => ?_)
        refine lv_if_le (tgt := 74) hx hb d_M_close_20 (by decide) (fun hc => ?_) (fun hc => ?_)
        · replace h := q_ifp hc h
          refine lv_iinc (k := 3) (v := v3 + 1) (lv' := [(3, .int (v3 + 1)), (0, .ref (b 0)), (1, .int (u1)), (2, .int (v2))]) hx hb d_M_close_74 hl rfl rfl (by decide) rfl (fun ls hl => ?_)
          refine lv_goto (tgt := 4) hx hb d_M_close_77 (by decide) ?_
          exact ih _ _ _ _ _ ls h (lv_sub hl [1, 2, 3, 0] rfl) V
        · replace h := q_ifn hc h
          refine lv_iconst (v := 0) hx hb d_M_close_23 (by decide) ?_
          refine lv_istore (lv' := [(4, .int (0)), (0, .ref (b 0)), (1, .int (u1)), (2, .int (v2)), (3, .int (v3))]) hx hb d_M_close_24 hl (by decide) rfl (fun ls hl => ?_)
          have lp26 : ∀ (u1 : Int32) (u2 : Int32) (u3 : Int32) (K : m_T → Option m_T) (_ : ∀ (σ : m_T) (H : Heap) (locs : List Loc) (ls : Array Slot), K σ = some σ' → lv_has ls 5 [(0, .ref (b 0)), (1, .int (u1)), (2, .int (u2)), (3, .int (u3))] → m_V D b cs σ A s.heap H locs → W p l e { frames := 1, cells := 0, slots := 0, locals := 24 } s m args below meth c H locs 0 0 (m_Qv below args s D b cs A σ') (F0 m 71 ls [])) (n : Nat) (v4 : Int32) (σ : m_T) (H : Heap) (locs : List Loc) (ls : Array Slot), f_M_close_L26 N u1 u2 u3 K n v4 σ = some σ' → lv_has ls 5 [(0, .ref (b 0)), (1, .int (u1)), (2, .int (u2)), (3, .int (u3)), (4, .int (v4))] → m_V D b cs σ A s.heap H locs → W p l e { frames := 1, cells := 0, slots := 0, locals := 24 } s m args below meth c H locs 0 0 (m_Qv below args s D b cs A σ') (F0 m 26 ls []) := by
            intro u1 u2 u3 K hK n
            induction n with
            | zero => intro v4 σ H locs ls h hl V; cases h
            | succ n ih =>
              intro v4 σ H locs ls h hl V
              rw [f_M_close_L26] at h
              refine lv_iload hx hb d_M_close_26 (lv_at hl 4 rfl) ?_
              refine lv_aload_n hx hb d_M_close_28 rfl (lv_at hl 0 rfl) ?_
              refine m_get (v := .int (m_S σ 0)) G V 0 4 0 m_w0 rfl in_M (by decide) k_M_79 rfl d_M_close_29 ?_
              refine lv_icmp_ge (tgt := 71) hx hb d_M_close_32 (by decide) (fun hc => ?_) (fun hc => ?_)
              · replace h := q_ifp hc h
                exact hK _ _ _ ls h (lv_sub hl [0, 1, 2, 3] rfl) V
              · replace h := q_ifn hc h
                refine lv_aload_n hx hb d_M_close_35 rfl (lv_at hl 0 rfl) ?_
                refine m_get (v := .ref (b 7)) G V 0 4 7 m_w0 rfl in_M (by decide) k_M_28 rfl d_M_close_36 ?_
                refine lv_iload hx hb d_M_close_39 (lv_at hl 4 rfl) ?_
                obtain ⟨g4, h⟩ := q_gd_h h
                refine m_iald G V 7 m_w7 g4 d_M_close_41 ?_
                refine lv_iload_n hx hb d_M_close_42 rfl (lv_at hl 1 rfl) ?_
                refine lv_icmp_ne (tgt := 65) hx hb d_M_close_43 (by decide) (fun hc => ?_) (fun hc => ?_)
                · replace h := q_ifn hc h
                  refine lv_iinc (k := 4) (v := v4 + 1) (lv' := [(4, .int (v4 + 1)), (0, .ref (b 0)), (1, .int (u1)), (2, .int (u2)), (3, .int (u3))]) hx hb d_M_close_65 hl rfl rfl (by decide) rfl (fun ls hl => ?_)
                  refine lv_goto (tgt := 26) hx hb d_M_close_68 (by decide) ?_
                  exact ih _ _ _ _ ls h (lv_sub hl [1, 2, 3, 4, 0] rfl) V
                · replace h := q_ifp hc h
                  refine lv_aload_n hx hb d_M_close_46 rfl (lv_at hl 0 rfl) ?_
                  refine m_get (v := .ref (b 8)) G V 0 4 8 m_w0 rfl in_M (by decide) k_M_31 rfl d_M_close_47 ?_
                  refine lv_iload hx hb d_M_close_50 (lv_at hl 4 rfl) ?_
                  obtain ⟨g5, h⟩ := q_gd_h h
                  refine m_iald G V 8 m_w8 g5 d_M_close_52 ?_
                  refine lv_iload_n hx hb d_M_close_53 rfl (lv_at hl 3 rfl) ?_
                  refine lv_icmp_ne (tgt := 65) hx hb d_M_close_54 (by decide) (fun hc => ?_) (fun hc => ?_)
                  · replace h := q_ifn hc h
                    refine lv_iinc (k := 4) (v := v4 + 1) (lv' := [(4, .int (v4 + 1)), (0, .ref (b 0)), (1, .int (u1)), (2, .int (u2)), (3, .int (u3))]) hx hb d_M_close_65 hl rfl rfl (by decide) rfl (fun ls hl => ?_)
                    refine lv_goto (tgt := 26) hx hb d_M_close_68 (by decide) ?_
                    exact ih _ _ _ _ ls h (lv_sub hl [1, 2, 3, 4, 0] rfl) V
                  · replace h := q_ifp hc h
                    refine lv_aload_n hx hb d_M_close_57 rfl (lv_at hl 0 rfl) ?_
                    refine m_get (v := .ref (b 8)) G V 0 4 8 m_w0 rfl in_M (by decide) k_M_31 rfl d_M_close_58 ?_
                    refine lv_iload hx hb d_M_close_61 (lv_at hl 4 rfl) ?_
                    refine lv_iload_n hx hb d_M_close_63 rfl (lv_at hl 2 rfl) ?_
                    obtain ⟨g6, h⟩ := q_gd_h h
                    obtain ⟨s7, e7, h⟩ := q_let_h h
                    refine m_iast (σ' := s7) G V 8 m_w8 (m_u8.trans (congrArg (m_W b cs) e7.symm)) g6 d_M_close_64 (fun H locs V => ?_)
                    refine lv_iinc (k := 4) (v := v4 + 1) (lv' := [(4, .int (v4 + 1)), (0, .ref (b 0)), (1, .int (u1)), (2, .int (u2)), (3, .int (u3))]) hx hb d_M_close_65 hl rfl rfl (by decide) rfl (fun ls hl => ?_)
                    refine lv_goto (tgt := 26) hx hb d_M_close_68 (by decide) ?_
                    exact ih _ _ _ _ ls h (lv_sub hl [1, 2, 3, 4, 0] rfl) V
          replace hl := lv_sub (l' := [(0, .ref (b 0)), (1, .int (u1)), (2, .int (v2)), (3, .int (v3)), (4, .int (0))]) hl [1, 2, 3, 4, 0] rfl
          refine lp26 _ _ _ _ ?_ _ _ _ _ _ ls h hl V
          intro t8 H locs ls h hl V
          refine lv_iinc (k := 2) (v := v2 + 1) (lv' := [(2, .int (v2 + 1)), (0, .ref (b 0)), (1, .int (u1)), (3, .int (v3))]) hx hb d_M_close_71 hl rfl rfl (by decide) rfl (fun ls hl => ?_)
          refine lv_iinc (k := 3) (v := v3 + 1) (lv' := [(3, .int (v3 + 1)), (2, .int (v2 + 1)), (0, .ref (b 0)), (1, .int (u1))]) hx hb d_M_close_74 hl rfl rfl (by decide) rfl (fun ls hl => ?_)
          refine lv_goto (tgt := 4) hx hb d_M_close_77 (by decide) ?_
          exact ih _ _ _ _ _ ls h (lv_sub hl [2, 3, 1, 0] rfl) V
  replace hl := lv_sub (l' := [(0, .ref (b 0)), (1, .int (a1)), (2, .int (0)), (3, .int (0))]) hl [2, 3, 1, 0] rfl
  refine lp4 _ _ ?_ _ _ _ _ _ _ ls h hl V
  intro v2 t9 H locs ls h hl V
  refine lv_aload_n hx hb d_M_close_80 rfl (lv_at hl 0 rfl) ?_
  refine m_get (v := .ref (b 10)) G V 0 4 11 m_w0 rfl in_M (by decide) k_M_41 rfl d_M_close_81 ?_
  refine lv_iload_n hx hb d_M_close_84 rfl (lv_at hl 1 rfl) ?_
  refine lv_iload_n hx hb d_M_close_85 rfl (lv_at hl 2 rfl) ?_
  obtain ⟨g10, h⟩ := q_gd_h h
  obtain ⟨s11, e11, h⟩ := q_let_h h
  refine m_iast (σ' := s11) G V 10 m_w10 (m_u10.trans (congrArg (m_W b cs) e11.symm)) g10 d_M_close_86 (fun H locs V => ?_)
  exact m_ret_v G hr hlk h V d_M_close_87

set_option maxHeartbeats 40000000 in
set_option maxRecDepth 100000 in
theorem c_M_split (l : Launch) (D : va_G) (b : Nat → Nat) (cs : Nat → ClassId) (N : Nat) (σ : m_T) (a1 : Int32) (a2 : Int32) (r : Int32) (σ' : m_T) (h : f_M_split N σ a1 a2 = some (r, σ')) : m_Ci l y_M_split b_M_split 4 (some .boolean) { frames := 2, cells := 0, slots := 0, locals := 48 } D b cs σ [.ref (b 0), .int (a1), .int (a2)] r σ' := by
  refine m_met_i (own := R_M) (by decide) rfl (Nat.le_of_ble_eq_true rfl) ?_
  intro p e s m args below meth c A G hr hlk hml ls hl V
  have hx := G.1
  have hb := G.2.1
  have hown := G.2.2.1
  have hts := G.2.2.2.1
  have hN := G.2.2.2.2.2
  have hl : lv_has ls 4 [(0, .ref (b 0)), (1, .int (a1)), (2, .int (a2))] := hl
  unfold f_M_split at h
  refine lv_aload_n hx hb d_M_split_0 rfl (lv_at hl 0 rfl) ?_
  refine lv_iload_n hx hb d_M_split_1 rfl (lv_at hl 1 rfl) ?_
  obtain ⟨r2, h1, h⟩ := q_bind h
  refine m_cV_i (As := [.int (a1)]) (rest := []) G V hml (c_M_isTablet l D b cs N σ a1 r2 h1) 0 4 rfl m_w0 g_M_189 e_M_isTablet ⟨Nat.le_of_ble_eq_true rfl, Nat.le_of_ble_eq_true rfl⟩ ⟨rfl, rfl⟩ ⟨Nat.zero_le _, Nat.zero_le _⟩ rfl hl.1 rfl (Nat.le_of_ble_eq_true rfl) d_M_split_2 (fun H locs V => ?_)
  refine lv_if_eq (tgt := 17) hx hb d_M_split_5 (by decide) (fun hc => ?_) (fun hc => ?_)
  · replace h := q_ifp hc h
    refine lv_iconst (v := 0) hx hb d_M_split_17 (by decide) ?_
    exact m_zret_i G hr hlk rfl h V d_M_split_18
  · replace h := q_ifn hc h
    refine lv_aload_n hx hb d_M_split_8 rfl (lv_at hl 0 rfl) ?_
    refine m_get (v := .int (m_S σ 9)) G V 0 4 9 m_w0 rfl in_M (by decide) k_M_34 rfl d_M_split_9 ?_
    refine lv_bipush (v := 8) hx hb d_M_split_12 (by decide) ?_
    refine lv_icmp_ne (tgt := 19) hx hb d_M_split_14 (by decide) (fun hc => ?_) (fun hc => ?_)
    · replace h := q_ifn hc h
      refine lv_iload_n hx hb d_M_split_19 rfl (lv_at hl 2 rfl) ?_
      refine lv_aload_n hx hb d_M_split_20 rfl (lv_at hl 0 rfl) ?_
      refine m_get (v := .ref (b 9)) G V 0 4 10 m_w0 rfl in_M (by decide) k_M_38 rfl d_M_split_21 ?_
      refine lv_iload_n hx hb d_M_split_24 rfl (lv_at hl 1 rfl) ?_
      obtain ⟨g3, h⟩ := q_gd_h h
      refine m_iald G V 9 m_w9 g3 d_M_split_25 ?_
      refine lv_icmp_le (tgt := 38) hx hb d_M_split_26 (by decide) (fun hc => ?_) (fun hc => ?_)
      · replace h := q_ifp hc h
        refine lv_iconst (v := 0) hx hb d_M_split_38 (by decide) ?_
        exact m_zret_i G hr hlk rfl h V d_M_split_39
      · replace h := q_ifn hc h
        refine lv_iload_n hx hb d_M_split_29 rfl (lv_at hl 2 rfl) ?_
        refine lv_aload_n hx hb d_M_split_30 rfl (lv_at hl 0 rfl) ?_
        refine lv_iload_n hx hb d_M_split_31 rfl (lv_at hl 1 rfl) ?_
        obtain ⟨r5, h4, h⟩ := q_bind h
        refine m_cV_i (As := [.int (a1)]) (rest := [.int (a2)]) G V hml (c_M_lastRow l D b cs N σ a1 r5 h4) 0 4 rfl m_w0 g_M_203 e_M_lastRow ⟨Nat.le_of_ble_eq_true rfl, Nat.le_of_ble_eq_true rfl⟩ ⟨rfl, rfl⟩ ⟨Nat.zero_le _, Nat.zero_le _⟩ rfl hl.1 rfl (Nat.le_of_ble_eq_true rfl) d_M_split_32 (fun H locs V => ?_)
        refine lv_icmp_le (tgt := 40) hx hb d_M_split_35 (by decide) (fun hc => ?_) (fun hc => ?_)
        · replace h := q_ifp hc h
          refine lv_iconst (v := 0) hx hb d_M_split_40 (by decide) ?_
          refine lv_istore_n (lv' := [(3, .int (0)), (0, .ref (b 0)), (1, .int (a1)), (2, .int (a2))]) hx hb d_M_split_41 rfl hl (by decide) rfl (fun ls hl => ?_)
          have lp42 : ∀ (u1 : Int32) (u2 : Int32) (K : m_T → Option (Int32 × m_T)) (_ : ∀ (σ : m_T) (H : Heap) (locs : List Loc) (ls : Array Slot), K σ = some (r, σ') → lv_has ls 4 [(0, .ref (b 0)), (1, .int (u1)), (2, .int (u2))] → m_V D b cs σ A s.heap H locs → W p l e { frames := 2, cells := 0, slots := 0, locals := 48 } s m args below meth c H locs 0 0 (m_Qi below args s D b cs A r σ') (F0 m 96 ls [])) (n : Nat) (v3 : Int32) (σ : m_T) (H : Heap) (locs : List Loc) (ls : Array Slot), f_M_split_L42 N u1 u2 K n v3 σ = some (r, σ') → lv_has ls 4 [(0, .ref (b 0)), (1, .int (u1)), (2, .int (u2)), (3, .int (v3))] → m_V D b cs σ A s.heap H locs → W p l e { frames := 2, cells := 0, slots := 0, locals := 48 } s m args below meth c H locs 0 0 (m_Qi below args s D b cs A r σ') (F0 m 42 ls []) := by
            intro u1 u2 K hK n
            induction n with
            | zero => intro v3 σ H locs ls h hl V; cases h
            | succ n ih =>
              intro v3 σ H locs ls h hl V
              rw [f_M_split_L42] at h
              refine lv_iload_n hx hb d_M_split_42 rfl (lv_at hl 3 rfl) ?_
              refine lv_aload_n hx hb d_M_split_43 rfl (lv_at hl 0 rfl) ?_
              refine m_get (v := .int (m_S σ 0)) G V 0 4 0 m_w0 rfl in_M (by decide) k_M_79 rfl d_M_split_44 ?_
              refine lv_icmp_ge (tgt := 96) hx hb d_M_split_47 (by decide) (fun hc => ?_) (fun hc => ?_)
              · replace h := q_ifp hc h
                exact hK _ _ _ ls h (lv_sub hl [0, 1, 2] rfl) V
              · replace h := q_ifn hc h
                refine lv_aload_n hx hb d_M_split_50 rfl (lv_at hl 0 rfl) ?_
                refine m_get (v := .ref (b 7)) G V 0 4 7 m_w0 rfl in_M (by decide) k_M_28 rfl d_M_split_51 ?_
                refine lv_iload_n hx hb d_M_split_54 rfl (lv_at hl 3 rfl) ?_
                obtain ⟨g6, h⟩ := q_gd_h h
                refine m_iald G V 7 m_w7 g6 d_M_split_55 ?_
                refine lv_iload_n hx hb d_M_split_56 rfl (lv_at hl 1 rfl) ?_
                refine lv_icmp_gt (tgt := 80) hx hb d_M_split_57 (by decide) (fun hc => ?_) (fun hc => ?_)
                · replace h := q_ifp hc h
                  refine lv_aload_n hx hb d_M_split_80 rfl (lv_at hl 0 rfl) ?_
                  refine m_get (v := .ref (b 7)) G V 0 4 7 m_w0 rfl in_M (by decide) k_M_28 rfl d_M_split_81 ?_
                  refine lv_iload_n hx hb d_M_split_84 rfl (lv_at hl 3 rfl) ?_
                  refine lv_dup2_11 hx hb d_M_split_85 rfl rfl ?_
                  obtain ⟨g7, h⟩ := q_gd_h h
                  refine m_iald G V 7 m_w7 g7 d_M_split_86 ?_
                  refine lv_iconst (v := 1) hx hb d_M_split_87 (by decide) ?_
                  refine lv_iadd hx hb d_M_split_88 ?_
                  obtain ⟨g8, h⟩ := q_gd_h h
                  obtain ⟨s9, e9, h⟩ := q_let_h h
                  refine m_iast (σ' := s9) G V 7 m_w7 (m_u7.trans (congrArg (m_W b cs) e9.symm)) g8 d_M_split_89 (fun H locs V => ?_)
                  refine lv_iinc (k := 3) (v := v3 + 1) (lv' := [(3, .int (v3 + 1)), (0, .ref (b 0)), (1, .int (u1)), (2, .int (u2))]) hx hb d_M_split_90 hl rfl rfl (by decide) rfl (fun ls hl => ?_)
                  refine lv_goto (tgt := 42) hx hb d_M_split_93 (by decide) ?_
                  exact ih _ _ _ _ ls h (lv_sub hl [1, 2, 3, 0] rfl) V
                · replace h := q_ifn hc h
                  refine lv_aload_n hx hb d_M_split_60 rfl (lv_at hl 0 rfl) ?_
                  refine m_get (v := .ref (b 7)) G V 0 4 7 m_w0 rfl in_M (by decide) k_M_28 rfl d_M_split_61 ?_
                  refine lv_iload_n hx hb d_M_split_64 rfl (lv_at hl 3 rfl) ?_
                  obtain ⟨g10, h⟩ := q_gd_h h
                  refine m_iald G V 7 m_w7 g10 d_M_split_65 ?_
                  refine lv_iload_n hx hb d_M_split_66 rfl (lv_at hl 1 rfl) ?_
                  refine lv_icmp_ne (tgt := 90) hx hb d_M_split_67 (by decide) (fun hc => ?_) (fun hc => ?_)
                  · replace h := q_ifn hc h
                    refine lv_iinc (k := 3) (v := v3 + 1) (lv' := [(3, .int (v3 + 1)), (0, .ref (b 0)), (1, .int (u1)), (2, .int (u2))]) hx hb d_M_split_90 hl rfl rfl (by decide) rfl (fun ls hl => ?_)
                    refine lv_goto (tgt := 42) hx hb d_M_split_93 (by decide) ?_
                    exact ih _ _ _ _ ls h (lv_sub hl [1, 2, 3, 0] rfl) V
                  · replace h := q_ifp hc h
                    refine lv_aload_n hx hb d_M_split_70 rfl (lv_at hl 0 rfl) ?_
                    refine m_get (v := .ref (b 2)) G V 0 4 2 m_w0 rfl in_M (by decide) k_M_13 rfl d_M_split_71 ?_
                    refine lv_iload_n hx hb d_M_split_74 rfl (lv_at hl 3 rfl) ?_
                    obtain ⟨g11, h⟩ := q_gd_h h
                    refine m_iald G V 2 m_w2 g11 d_M_split_75 ?_
                    refine lv_iload_n hx hb d_M_split_76 rfl (lv_at hl 2 rfl) ?_
                    refine lv_icmp_lt (tgt := 90) hx hb d_M_split_77 (by decide) (fun hc => ?_) (fun hc => ?_)
                    · replace h := q_ifp hc h
                      refine lv_iinc (k := 3) (v := v3 + 1) (lv' := [(3, .int (v3 + 1)), (0, .ref (b 0)), (1, .int (u1)), (2, .int (u2))]) hx hb d_M_split_90 hl rfl rfl (by decide) rfl (fun ls hl => ?_)
                      refine lv_goto (tgt := 42) hx hb d_M_split_93 (by decide) ?_
                      exact ih _ _ _ _ ls h (lv_sub hl [1, 2, 3, 0] rfl) V
                    · replace h := q_ifn hc h
                      refine lv_aload_n hx hb d_M_split_80 rfl (lv_at hl 0 rfl) ?_
                      refine m_get (v := .ref (b 7)) G V 0 4 7 m_w0 rfl in_M (by decide) k_M_28 rfl d_M_split_81 ?_
                      refine lv_iload_n hx hb d_M_split_84 rfl (lv_at hl 3 rfl) ?_
                      refine lv_dup2_11 hx hb d_M_split_85 rfl rfl ?_
                      obtain ⟨g12, h⟩ := q_gd_h h
                      refine m_iald G V 7 m_w7 g12 d_M_split_86 ?_
                      refine lv_iconst (v := 1) hx hb d_M_split_87 (by decide) ?_
                      refine lv_iadd hx hb d_M_split_88 ?_
                      obtain ⟨g13, h⟩ := q_gd_h h
                      obtain ⟨s14, e14, h⟩ := q_let_h h
                      refine m_iast (σ' := s14) G V 7 m_w7 (m_u7.trans (congrArg (m_W b cs) e14.symm)) g13 d_M_split_89 (fun H locs V => ?_)
                      refine lv_iinc (k := 3) (v := v3 + 1) (lv' := [(3, .int (v3 + 1)), (0, .ref (b 0)), (1, .int (u1)), (2, .int (u2))]) hx hb d_M_split_90 hl rfl rfl (by decide) rfl (fun ls hl => ?_)
                      refine lv_goto (tgt := 42) hx hb d_M_split_93 (by decide) ?_
                      exact ih _ _ _ _ ls h (lv_sub hl [1, 2, 3, 0] rfl) V
          replace hl := lv_sub (l' := [(0, .ref (b 0)), (1, .int (a1)), (2, .int (a2)), (3, .int (0))]) hl [1, 2, 3, 0] rfl
          refine lp42 _ _ _ ?_ _ _ _ _ _ ls h hl V
          intro t15 H locs ls h hl V
          refine lv_aload_n hx hb d_M_split_96 rfl (lv_at hl 0 rfl) ?_
          refine m_get (v := .int (m_S t15 9)) G V 0 4 9 m_w0 rfl in_M (by decide) k_M_34 rfl d_M_split_97 ?_
          refine lv_istore_n (lv' := [(3, .int (m_S t15 9)), (0, .ref (b 0)), (1, .int (a1)), (2, .int (a2))]) hx hb d_M_split_100 rfl hl (by decide) rfl (fun ls hl => ?_)
          have lp101 : ∀ (u1 : Int32) (u2 : Int32) (K : m_T → Option (Int32 × m_T)) (_ : ∀ (σ : m_T) (H : Heap) (locs : List Loc) (ls : Array Slot), K σ = some (r, σ') → lv_has ls 4 [(0, .ref (b 0)), (1, .int (u1)), (2, .int (u2))] → m_V D b cs σ A s.heap H locs → W p l e { frames := 2, cells := 0, slots := 0, locals := 48 } s m args below meth c H locs 0 0 (m_Qi below args s D b cs A r σ') (F0 m 142 ls [])) (n : Nat) (v3 : Int32) (σ : m_T) (H : Heap) (locs : List Loc) (ls : Array Slot), f_M_split_L101 N u1 u2 K n v3 σ = some (r, σ') → lv_has ls 4 [(0, .ref (b 0)), (1, .int (u1)), (2, .int (u2)), (3, .int (v3))] → m_V D b cs σ A s.heap H locs → W p l e { frames := 2, cells := 0, slots := 0, locals := 48 } s m args below meth c H locs 0 0 (m_Qi below args s D b cs A r σ') (F0 m 101 ls []) := by
            intro u1 u2 K hK n
            induction n with
            | zero => intro v3 σ H locs ls h hl V; cases h
            | succ n ih =>
              intro v3 σ H locs ls h hl V
              rw [f_M_split_L101] at h
              refine lv_iload_n hx hb d_M_split_101 rfl (lv_at hl 3 rfl) ?_
              refine lv_iload_n hx hb d_M_split_102 rfl (lv_at hl 1 rfl) ?_
              refine lv_iconst (v := 1) hx hb d_M_split_103 (by decide) ?_
              refine lv_iadd hx hb d_M_split_104 ?_
              refine lv_icmp_le (tgt := 142) hx hb d_M_split_105 (by decide) (fun hc => ?_) (fun hc => ?_)
              · replace h := q_ifp hc h
                exact hK _ _ _ ls h (lv_sub hl [0, 1, 2] rfl) V
              · replace h := q_ifn hc h
                refine lv_aload_n hx hb d_M_split_108 rfl (lv_at hl 0 rfl) ?_
                refine m_get (v := .ref (b 9)) G V 0 4 10 m_w0 rfl in_M (by decide) k_M_38 rfl d_M_split_109 ?_
                refine lv_iload_n hx hb d_M_split_112 rfl (lv_at hl 3 rfl) ?_
                refine lv_aload_n hx hb d_M_split_113 rfl (lv_at hl 0 rfl) ?_
                refine m_get (v := .ref (b 9)) G V 0 4 10 m_w0 rfl in_M (by decide) k_M_38 rfl d_M_split_114 ?_
                refine lv_iload_n hx hb d_M_split_117 rfl (lv_at hl 3 rfl) ?_
                refine lv_iconst (v := 1) hx hb d_M_split_118 (by decide) ?_
                refine lv_isub hx hb d_M_split_119 ?_
                obtain ⟨g16, h⟩ := q_gd_h h
                refine m_iald G V 9 m_w9 g16 d_M_split_120 ?_
                obtain ⟨g17, h⟩ := q_gd_h h
                obtain ⟨s18, e18, h⟩ := q_let_h h
                refine m_iast (σ' := s18) G V 9 m_w9 (m_u9.trans (congrArg (m_W b cs) e18.symm)) g17 d_M_split_121 (fun H locs V => ?_)
                refine lv_aload_n hx hb d_M_split_122 rfl (lv_at hl 0 rfl) ?_
                refine m_get (v := .ref (b 10)) G V 0 4 11 m_w0 rfl in_M (by decide) k_M_41 rfl d_M_split_123 ?_
                refine lv_iload_n hx hb d_M_split_126 rfl (lv_at hl 3 rfl) ?_
                refine lv_aload_n hx hb d_M_split_127 rfl (lv_at hl 0 rfl) ?_
                refine m_get (v := .ref (b 10)) G V 0 4 11 m_w0 rfl in_M (by decide) k_M_41 rfl d_M_split_128 ?_
                refine lv_iload_n hx hb d_M_split_131 rfl (lv_at hl 3 rfl) ?_
                refine lv_iconst (v := 1) hx hb d_M_split_132 (by decide) ?_
                refine lv_isub hx hb d_M_split_133 ?_
                obtain ⟨g19, h⟩ := q_gd_h h
                refine m_iald G V 10 m_w10 g19 d_M_split_134 ?_
                obtain ⟨g20, h⟩ := q_gd_h h
                obtain ⟨s21, e21, h⟩ := q_let_h h
                refine m_iast (σ' := s21) G V 10 m_w10 (m_u10.trans (congrArg (m_W b cs) e21.symm)) g20 d_M_split_135 (fun H locs V => ?_)
                refine lv_iinc (k := 3) (v := v3 + (-1)) (lv' := [(3, .int (v3 + (-1))), (0, .ref (b 0)), (1, .int (u1)), (2, .int (u2))]) hx hb d_M_split_136 hl rfl rfl (by decide) rfl (fun ls hl => ?_)
                refine lv_goto (tgt := 101) hx hb d_M_split_139 (by decide) ?_
                exact ih _ _ _ _ ls h (lv_sub hl [1, 2, 3, 0] rfl) V
          replace hl := lv_sub (l' := [(0, .ref (b 0)), (1, .int (a1)), (2, .int (a2)), (3, .int (m_S t15 9))]) hl [1, 2, 3, 0] rfl
          refine lp101 _ _ _ ?_ _ _ _ _ _ ls h hl V
          intro t22 H locs ls h hl V
          refine lv_aload_n hx hb d_M_split_142 rfl (lv_at hl 0 rfl) ?_
          refine m_get (v := .ref (b 9)) G V 0 4 10 m_w0 rfl in_M (by decide) k_M_38 rfl d_M_split_143 ?_
          refine lv_iload_n hx hb d_M_split_146 rfl (lv_at hl 1 rfl) ?_
          refine lv_iconst (v := 1) hx hb d_M_split_147 (by decide) ?_
          refine lv_iadd hx hb d_M_split_148 ?_
          refine lv_iload_n hx hb d_M_split_149 rfl (lv_at hl 2 rfl) ?_
          obtain ⟨g23, h⟩ := q_gd_h h
          obtain ⟨s24, e24, h⟩ := q_let_h h
          refine m_iast (σ' := s24) G V 9 m_w9 (m_u9.trans (congrArg (m_W b cs) e24.symm)) g23 d_M_split_150 (fun H locs V => ?_)
          refine lv_aload_n hx hb d_M_split_151 rfl (lv_at hl 0 rfl) ?_
          refine m_get (v := .ref (b 10)) G V 0 4 11 m_w0 rfl in_M (by decide) k_M_41 rfl d_M_split_152 ?_
          refine lv_iload_n hx hb d_M_split_155 rfl (lv_at hl 1 rfl) ?_
          refine lv_iconst (v := 1) hx hb d_M_split_156 (by decide) ?_
          refine lv_iadd hx hb d_M_split_157 ?_
          refine lv_aload_n hx hb d_M_split_158 rfl (lv_at hl 0 rfl) ?_
          refine m_get (v := .ref (b 10)) G V 0 4 11 m_w0 rfl in_M (by decide) k_M_41 rfl d_M_split_159 ?_
          refine lv_iload_n hx hb d_M_split_162 rfl (lv_at hl 1 rfl) ?_
          obtain ⟨g25, h⟩ := q_gd_h h
          refine m_iald G V 10 m_w10 g25 d_M_split_163 ?_
          obtain ⟨g26, h⟩ := q_gd_h h
          obtain ⟨s27, e27, h⟩ := q_let_h h
          refine m_iast (σ' := s27) G V 10 m_w10 (m_u10.trans (congrArg (m_W b cs) e27.symm)) g26 d_M_split_164 (fun H locs V => ?_)
          refine lv_aload_n hx hb d_M_split_165 rfl (lv_at hl 0 rfl) ?_
          refine lv_dup hx hb d_M_split_166 rfl ?_
          refine m_get (v := .int (m_S s27 9)) G V 0 4 9 m_w0 rfl in_M (by decide) k_M_34 rfl d_M_split_167 ?_
          refine lv_iconst (v := 1) hx hb d_M_split_170 (by decide) ?_
          refine lv_iadd hx hb d_M_split_171 ?_
          obtain ⟨s28, e28, h⟩ := q_let_h h
          refine m_put (σ' := s28) (ty := .int) G V 0 4 9 m_w0 rfl in_M tt_M_ok n_M (by decide) k_M_34 rfl rfl rfl rfl (Nat.le_of_ble_eq_true rfl) (m_uM9.trans (congrArg (m_W b cs) e28.symm)) d_M_split_172 (fun H locs V => ?_)
          refine lv_aload_n hx hb d_M_split_175 rfl (lv_at hl 0 rfl) ?_
          refine lv_iload_n hx hb d_M_split_176 rfl (lv_at hl 1 rfl) ?_
          obtain ⟨s30, h29, h⟩ := q_bind h
          refine m_cV_v (As := [.int (a1)]) (rest := []) G V hml (c_M_close l D b cs N s28 a1 s30 h29) 0 4 rfl m_w0 g_M_206 e_M_close ⟨Nat.le_of_ble_eq_true rfl, Nat.le_of_ble_eq_true rfl⟩ ⟨rfl, rfl⟩ ⟨Nat.zero_le _, Nat.zero_le _⟩ rfl hl.1 rfl (Nat.le_of_ble_eq_true rfl) d_M_split_177 (fun H locs V => ?_)
          refine lv_aload_n hx hb d_M_split_180 rfl (lv_at hl 0 rfl) ?_
          refine lv_iload_n hx hb d_M_split_181 rfl (lv_at hl 1 rfl) ?_
          refine lv_iconst (v := 1) hx hb d_M_split_182 (by decide) ?_
          refine lv_iadd hx hb d_M_split_183 ?_
          obtain ⟨s32, h31, h⟩ := q_bind h
          refine m_cV_v (As := [.int (a1 + 1)]) (rest := []) G V hml (c_M_close l D b cs N s30 (a1 + 1) s32 h31) 0 4 rfl m_w0 g_M_206 e_M_close ⟨Nat.le_of_ble_eq_true rfl, Nat.le_of_ble_eq_true rfl⟩ ⟨rfl, rfl⟩ ⟨Nat.zero_le _, Nat.zero_le _⟩ rfl hl.1 rfl (Nat.le_of_ble_eq_true rfl) d_M_split_184 (fun H locs V => ?_)
          refine lv_iconst (v := 1) hx hb d_M_split_187 (by decide) ?_
          exact m_zret_i G hr hlk rfl h V d_M_split_188
        · replace h := q_ifn hc h
          refine lv_iconst (v := 0) hx hb d_M_split_38 (by decide) ?_
          exact m_zret_i G hr hlk rfl h V d_M_split_39
    · replace h := q_ifp hc h
      refine lv_iconst (v := 0) hx hb d_M_split_17 (by decide) ?_
      exact m_zret_i G hr hlk rfl h V d_M_split_18

set_option maxHeartbeats 40000000 in
set_option maxRecDepth 100000 in
theorem c_M_join (l : Launch) (D : va_G) (b : Nat → Nat) (cs : Nat → ClassId) (N : Nat) (σ : m_T) (a1 : Int32) (r : Int32) (σ' : m_T) (h : f_M_join N σ a1 = some (r, σ')) : m_Ci l y_M_join b_M_join 3 (some .boolean) { frames := 1, cells := 0, slots := 0, locals := 21 } D b cs σ [.ref (b 0), .int (a1)] r σ' := by
  refine m_met_i (own := R_M) (by decide) rfl (Nat.le_of_ble_eq_true rfl) ?_
  intro p e s m args below meth c A G hr hlk hml ls hl V
  have hx := G.1
  have hb := G.2.1
  have hown := G.2.2.1
  have hts := G.2.2.2.1
  have hN := G.2.2.2.2.2
  have hl : lv_has ls 3 [(0, .ref (b 0)), (1, .int (a1))] := hl
  unfold f_M_join at h
  refine lv_aload_n hx hb d_M_join_0 rfl (lv_at hl 0 rfl) ?_
  refine lv_iload_n hx hb d_M_join_1 rfl (lv_at hl 1 rfl) ?_
  obtain ⟨r2, h1, h⟩ := q_bind h
  refine m_cV_i (As := [.int (a1)]) (rest := []) G V hml (c_M_isTablet l D b cs N σ a1 r2 h1) 0 4 rfl m_w0 g_M_189 e_M_isTablet ⟨Nat.le_of_ble_eq_true rfl, Nat.le_of_ble_eq_true rfl⟩ ⟨rfl, rfl⟩ ⟨Nat.zero_le _, Nat.zero_le _⟩ rfl hl.1 rfl (Nat.le_of_ble_eq_true rfl) d_M_join_2 (fun H locs V => ?_)
  refine lv_if_eq (tgt := 18) hx hb d_M_join_5 (by decide) (fun hc => ?_) (fun hc => ?_)
  · replace h := q_ifp hc h
    refine lv_iconst (v := 0) hx hb d_M_join_18 (by decide) ?_
    exact m_zret_i G hr hlk rfl h V d_M_join_19
  · replace h := q_ifn hc h
    refine lv_aload_n hx hb d_M_join_8 rfl (lv_at hl 0 rfl) ?_
    refine lv_iload_n hx hb d_M_join_9 rfl (lv_at hl 1 rfl) ?_
    refine lv_iconst (v := 1) hx hb d_M_join_10 (by decide) ?_
    refine lv_iadd hx hb d_M_join_11 ?_
    obtain ⟨r4, h3, h⟩ := q_bind h
    refine m_cV_i (As := [.int (a1 + 1)]) (rest := []) G V hml (c_M_isTablet l D b cs N σ (a1 + 1) r4 h3) 0 4 rfl m_w0 g_M_189 e_M_isTablet ⟨Nat.le_of_ble_eq_true rfl, Nat.le_of_ble_eq_true rfl⟩ ⟨rfl, rfl⟩ ⟨Nat.zero_le _, Nat.zero_le _⟩ rfl hl.1 rfl (Nat.le_of_ble_eq_true rfl) d_M_join_12 (fun H locs V => ?_)
    refine lv_if_ne (tgt := 20) hx hb d_M_join_15 (by decide) (fun hc => ?_) (fun hc => ?_)
    · replace h := q_ifn hc h
      refine lv_iconst (v := 0) hx hb d_M_join_20 (by decide) ?_
      refine lv_istore_n (lv' := [(2, .int (0)), (0, .ref (b 0)), (1, .int (a1))]) hx hb d_M_join_21 rfl hl (by decide) rfl (fun ls hl => ?_)
      have lp22 : ∀ (u1 : Int32) (K : m_T → Option (Int32 × m_T)) (_ : ∀ (σ : m_T) (H : Heap) (locs : List Loc) (ls : Array Slot), K σ = some (r, σ') → lv_has ls 3 [(0, .ref (b 0)), (1, .int (u1))] → m_V D b cs σ A s.heap H locs → W p l e { frames := 1, cells := 0, slots := 0, locals := 21 } s m args below meth c H locs 0 0 (m_Qi below args s D b cs A r σ') (F0 m 92 ls [])) (n : Nat) (v2 : Int32) (σ : m_T) (H : Heap) (locs : List Loc) (ls : Array Slot), f_M_join_L22 N u1 K n v2 σ = some (r, σ') → lv_has ls 3 [(0, .ref (b 0)), (1, .int (u1)), (2, .int (v2))] → m_V D b cs σ A s.heap H locs → W p l e { frames := 1, cells := 0, slots := 0, locals := 21 } s m args below meth c H locs 0 0 (m_Qi below args s D b cs A r σ') (F0 m 22 ls []) := by
        intro u1 K hK n
        induction n with
        | zero => intro v2 σ H locs ls h hl V; cases h
        | succ n ih =>
          intro v2 σ H locs ls h hl V
          rw [f_M_join_L22] at h
          refine lv_iload_n hx hb d_M_join_22 rfl (lv_at hl 2 rfl) ?_
          refine lv_aload_n hx hb d_M_join_23 rfl (lv_at hl 0 rfl) ?_
          refine m_get (v := .int (m_S σ 0)) G V 0 4 0 m_w0 rfl in_M (by decide) k_M_79 rfl d_M_join_24 ?_
          refine lv_icmp_ge (tgt := 92) hx hb d_M_join_27 (by decide) (fun hc => ?_) (fun hc => ?_)
          · replace h := q_ifp hc h
            exact hK _ _ _ ls h (lv_sub hl [0, 1] rfl) V
          · replace h := q_ifn hc h
            refine lv_aload_n hx hb d_M_join_30 rfl (lv_at hl 0 rfl) ?_
            refine m_get (v := .ref (b 7)) G V 0 4 7 m_w0 rfl in_M (by decide) k_M_28 rfl d_M_join_31 ?_
            refine lv_iload_n hx hb d_M_join_34 rfl (lv_at hl 2 rfl) ?_
            obtain ⟨g5, h⟩ := q_gd_h h
            refine m_iald G V 7 m_w7 g5 d_M_join_35 ?_
            refine lv_iload_n hx hb d_M_join_36 rfl (lv_at hl 1 rfl) ?_
            refine lv_iconst (v := 1) hx hb d_M_join_37 (by decide) ?_
            refine lv_iadd hx hb d_M_join_38 ?_
            refine lv_icmp_ne (tgt := 66) hx hb d_M_join_39 (by decide) (fun hc => ?_) (fun hc => ?_)
            · replace h := q_ifn hc h
              refine lv_aload_n hx hb d_M_join_66 rfl (lv_at hl 0 rfl) ?_
              refine m_get (v := .ref (b 7)) G V 0 4 7 m_w0 rfl in_M (by decide) k_M_28 rfl d_M_join_67 ?_
              refine lv_iload_n hx hb d_M_join_70 rfl (lv_at hl 2 rfl) ?_
              obtain ⟨g6, h⟩ := q_gd_h h
              refine m_iald G V 7 m_w7 g6 d_M_join_71 ?_
              refine lv_iload_n hx hb d_M_join_72 rfl (lv_at hl 1 rfl) ?_
              refine lv_icmp_le (tgt := 86) hx hb d_M_join_73 (by decide) (fun hc => ?_) (fun hc => ?_)
              · replace h := q_ifp hc h
                refine lv_iinc (k := 2) (v := v2 + 1) (lv' := [(2, .int (v2 + 1)), (0, .ref (b 0)), (1, .int (u1))]) hx hb d_M_join_86 hl rfl rfl (by decide) rfl (fun ls hl => ?_)
                refine lv_goto (tgt := 22) hx hb d_M_join_89 (by decide) ?_
                exact ih _ _ _ _ ls h (lv_sub hl [1, 2, 0] rfl) V
              · replace h := q_ifn hc h
                refine lv_aload_n hx hb d_M_join_76 rfl (lv_at hl 0 rfl) ?_
                refine m_get (v := .ref (b 7)) G V 0 4 7 m_w0 rfl in_M (by decide) k_M_28 rfl d_M_join_77 ?_
                refine lv_iload_n hx hb d_M_join_80 rfl (lv_at hl 2 rfl) ?_
                refine lv_dup2_11 hx hb d_M_join_81 rfl rfl ?_
                obtain ⟨g7, h⟩ := q_gd_h h
                refine m_iald G V 7 m_w7 g7 d_M_join_82 ?_
                refine lv_iconst (v := 1) hx hb d_M_join_83 (by decide) ?_
                refine lv_isub hx hb d_M_join_84 ?_
                obtain ⟨g8, h⟩ := q_gd_h h
                obtain ⟨s9, e9, h⟩ := q_let_h h
                refine m_iast (σ' := s9) G V 7 m_w7 (m_u7.trans (congrArg (m_W b cs) e9.symm)) g8 d_M_join_85 (fun H locs V => ?_)
                refine lv_iinc (k := 2) (v := v2 + 1) (lv' := [(2, .int (v2 + 1)), (0, .ref (b 0)), (1, .int (u1))]) hx hb d_M_join_86 hl rfl rfl (by decide) rfl (fun ls hl => ?_)
                refine lv_goto (tgt := 22) hx hb d_M_join_89 (by decide) ?_
                exact ih _ _ _ _ ls h (lv_sub hl [1, 2, 0] rfl) V
            · replace h := q_ifp hc h
              refine lv_aload_n hx hb d_M_join_42 rfl (lv_at hl 0 rfl) ?_
              refine m_get (v := .ref (b 8)) G V 0 4 8 m_w0 rfl in_M (by decide) k_M_31 rfl d_M_join_43 ?_
              refine lv_iload_n hx hb d_M_join_46 rfl (lv_at hl 2 rfl) ?_
              obtain ⟨g10, h⟩ := q_gd_h h
              refine m_iald G V 8 m_w8 g10 d_M_join_47 ?_
              refine lv_if_lt (tgt := 66) hx hb d_M_join_48 (by decide) (fun hc => ?_) (fun hc => ?_)
              · replace h := q_ifp hc h
                refine lv_aload_n hx hb d_M_join_66 rfl (lv_at hl 0 rfl) ?_
                refine m_get (v := .ref (b 7)) G V 0 4 7 m_w0 rfl in_M (by decide) k_M_28 rfl d_M_join_67 ?_
                refine lv_iload_n hx hb d_M_join_70 rfl (lv_at hl 2 rfl) ?_
                obtain ⟨g11, h⟩ := q_gd_h h
                refine m_iald G V 7 m_w7 g11 d_M_join_71 ?_
                refine lv_iload_n hx hb d_M_join_72 rfl (lv_at hl 1 rfl) ?_
                refine lv_icmp_le (tgt := 86) hx hb d_M_join_73 (by decide) (fun hc => ?_) (fun hc => ?_)
                · replace h := q_ifp hc h
                  refine lv_iinc (k := 2) (v := v2 + 1) (lv' := [(2, .int (v2 + 1)), (0, .ref (b 0)), (1, .int (u1))]) hx hb d_M_join_86 hl rfl rfl (by decide) rfl (fun ls hl => ?_)
                  refine lv_goto (tgt := 22) hx hb d_M_join_89 (by decide) ?_
                  exact ih _ _ _ _ ls h (lv_sub hl [1, 2, 0] rfl) V
                · replace h := q_ifn hc h
                  refine lv_aload_n hx hb d_M_join_76 rfl (lv_at hl 0 rfl) ?_
                  refine m_get (v := .ref (b 7)) G V 0 4 7 m_w0 rfl in_M (by decide) k_M_28 rfl d_M_join_77 ?_
                  refine lv_iload_n hx hb d_M_join_80 rfl (lv_at hl 2 rfl) ?_
                  refine lv_dup2_11 hx hb d_M_join_81 rfl rfl ?_
                  obtain ⟨g12, h⟩ := q_gd_h h
                  refine m_iald G V 7 m_w7 g12 d_M_join_82 ?_
                  refine lv_iconst (v := 1) hx hb d_M_join_83 (by decide) ?_
                  refine lv_isub hx hb d_M_join_84 ?_
                  obtain ⟨g13, h⟩ := q_gd_h h
                  obtain ⟨s14, e14, h⟩ := q_let_h h
                  refine m_iast (σ' := s14) G V 7 m_w7 (m_u7.trans (congrArg (m_W b cs) e14.symm)) g13 d_M_join_85 (fun H locs V => ?_)
                  refine lv_iinc (k := 2) (v := v2 + 1) (lv' := [(2, .int (v2 + 1)), (0, .ref (b 0)), (1, .int (u1))]) hx hb d_M_join_86 hl rfl rfl (by decide) rfl (fun ls hl => ?_)
                  refine lv_goto (tgt := 22) hx hb d_M_join_89 (by decide) ?_
                  exact ih _ _ _ _ ls h (lv_sub hl [1, 2, 0] rfl) V
              · replace h := q_ifn hc h
                refine lv_aload_n hx hb d_M_join_51 rfl (lv_at hl 0 rfl) ?_
                refine m_get (v := .ref (b 8)) G V 0 4 8 m_w0 rfl in_M (by decide) k_M_31 rfl d_M_join_52 ?_
                refine lv_iload_n hx hb d_M_join_55 rfl (lv_at hl 2 rfl) ?_
                refine lv_dup2_11 hx hb d_M_join_56 rfl rfl ?_
                obtain ⟨g15, h⟩ := q_gd_h h
                refine m_iald G V 8 m_w8 g15 d_M_join_57 ?_
                refine lv_aload_n hx hb d_M_join_58 rfl (lv_at hl 0 rfl) ?_
                refine m_get (v := .ref (b 10)) G V 0 4 11 m_w0 rfl in_M (by decide) k_M_41 rfl d_M_join_59 ?_
                refine lv_iload_n hx hb d_M_join_62 rfl (lv_at hl 1 rfl) ?_
                obtain ⟨g16, h⟩ := q_gd_h h
                refine m_iald G V 10 m_w10 g16 d_M_join_63 ?_
                refine lv_iadd hx hb d_M_join_64 ?_
                obtain ⟨g17, h⟩ := q_gd_h h
                obtain ⟨s18, e18, h⟩ := q_let_h h
                refine m_iast (σ' := s18) G V 8 m_w8 (m_u8.trans (congrArg (m_W b cs) e18.symm)) g17 d_M_join_65 (fun H locs V => ?_)
                refine lv_aload_n hx hb d_M_join_66 rfl (lv_at hl 0 rfl) ?_
                refine m_get (v := .ref (b 7)) G V 0 4 7 m_w0 rfl in_M (by decide) k_M_28 rfl d_M_join_67 ?_
                refine lv_iload_n hx hb d_M_join_70 rfl (lv_at hl 2 rfl) ?_
                obtain ⟨g19, h⟩ := q_gd_h h
                refine m_iald G V 7 m_w7 g19 d_M_join_71 ?_
                refine lv_iload_n hx hb d_M_join_72 rfl (lv_at hl 1 rfl) ?_
                refine lv_icmp_le (tgt := 86) hx hb d_M_join_73 (by decide) (fun hc => ?_) (fun hc => ?_)
                · replace h := q_ifp hc h
                  refine lv_iinc (k := 2) (v := v2 + 1) (lv' := [(2, .int (v2 + 1)), (0, .ref (b 0)), (1, .int (u1))]) hx hb d_M_join_86 hl rfl rfl (by decide) rfl (fun ls hl => ?_)
                  refine lv_goto (tgt := 22) hx hb d_M_join_89 (by decide) ?_
                  exact ih _ _ _ _ ls h (lv_sub hl [1, 2, 0] rfl) V
                · replace h := q_ifn hc h
                  refine lv_aload_n hx hb d_M_join_76 rfl (lv_at hl 0 rfl) ?_
                  refine m_get (v := .ref (b 7)) G V 0 4 7 m_w0 rfl in_M (by decide) k_M_28 rfl d_M_join_77 ?_
                  refine lv_iload_n hx hb d_M_join_80 rfl (lv_at hl 2 rfl) ?_
                  refine lv_dup2_11 hx hb d_M_join_81 rfl rfl ?_
                  obtain ⟨g20, h⟩ := q_gd_h h
                  refine m_iald G V 7 m_w7 g20 d_M_join_82 ?_
                  refine lv_iconst (v := 1) hx hb d_M_join_83 (by decide) ?_
                  refine lv_isub hx hb d_M_join_84 ?_
                  obtain ⟨g21, h⟩ := q_gd_h h
                  obtain ⟨s22, e22, h⟩ := q_let_h h
                  refine m_iast (σ' := s22) G V 7 m_w7 (m_u7.trans (congrArg (m_W b cs) e22.symm)) g21 d_M_join_85 (fun H locs V => ?_)
                  refine lv_iinc (k := 2) (v := v2 + 1) (lv' := [(2, .int (v2 + 1)), (0, .ref (b 0)), (1, .int (u1))]) hx hb d_M_join_86 hl rfl rfl (by decide) rfl (fun ls hl => ?_)
                  refine lv_goto (tgt := 22) hx hb d_M_join_89 (by decide) ?_
                  exact ih _ _ _ _ ls h (lv_sub hl [1, 2, 0] rfl) V
      replace hl := lv_sub (l' := [(0, .ref (b 0)), (1, .int (a1)), (2, .int (0))]) hl [1, 2, 0] rfl
      refine lp22 _ _ ?_ _ _ _ _ _ ls h hl V
      intro t23 H locs ls h hl V
      refine lv_aload_n hx hb d_M_join_92 rfl (lv_at hl 0 rfl) ?_
      refine m_get (v := .ref (b 10)) G V 0 4 11 m_w0 rfl in_M (by decide) k_M_41 rfl d_M_join_93 ?_
      refine lv_iload_n hx hb d_M_join_96 rfl (lv_at hl 1 rfl) ?_
      refine lv_dup2_11 hx hb d_M_join_97 rfl rfl ?_
      obtain ⟨g24, h⟩ := q_gd_h h
      refine m_iald G V 10 m_w10 g24 d_M_join_98 ?_
      refine lv_aload_n hx hb d_M_join_99 rfl (lv_at hl 0 rfl) ?_
      refine m_get (v := .ref (b 10)) G V 0 4 11 m_w0 rfl in_M (by decide) k_M_41 rfl d_M_join_100 ?_
      refine lv_iload_n hx hb d_M_join_103 rfl (lv_at hl 1 rfl) ?_
      refine lv_iconst (v := 1) hx hb d_M_join_104 (by decide) ?_
      refine lv_iadd hx hb d_M_join_105 ?_
      obtain ⟨g25, h⟩ := q_gd_h h
      refine m_iald G V 10 m_w10 g25 d_M_join_106 ?_
      refine lv_iadd hx hb d_M_join_107 ?_
      obtain ⟨g26, h⟩ := q_gd_h h
      obtain ⟨s27, e27, h⟩ := q_let_h h
      refine m_iast (σ' := s27) G V 10 m_w10 (m_u10.trans (congrArg (m_W b cs) e27.symm)) g26 d_M_join_108 (fun H locs V => ?_)
      refine lv_aload_n hx hb d_M_join_109 rfl (lv_at hl 0 rfl) ?_
      refine lv_dup hx hb d_M_join_110 rfl ?_
      refine m_get (v := .int (m_S s27 9)) G V 0 4 9 m_w0 rfl in_M (by decide) k_M_34 rfl d_M_join_111 ?_
      refine lv_iconst (v := 1) hx hb d_M_join_114 (by decide) ?_
      refine lv_isub hx hb d_M_join_115 ?_
      obtain ⟨s28, e28, h⟩ := q_let_h h
      refine m_put (σ' := s28) (ty := .int) G V 0 4 9 m_w0 rfl in_M tt_M_ok n_M (by decide) k_M_34 rfl rfl rfl rfl (Nat.le_of_ble_eq_true rfl) (m_uM9.trans (congrArg (m_W b cs) e28.symm)) d_M_join_116 (fun H locs V => ?_)
      refine lv_iload_n hx hb d_M_join_119 rfl (lv_at hl 1 rfl) ?_
      refine lv_iconst (v := 1) hx hb d_M_join_120 (by decide) ?_
      refine lv_iadd hx hb d_M_join_121 ?_
      refine lv_istore_n (lv' := [(2, .int (a1 + 1)), (0, .ref (b 0)), (1, .int (a1))]) hx hb d_M_join_122 rfl hl (by decide) rfl (fun ls hl => ?_)
      have lp123 : ∀ (K : m_T → Option (Int32 × m_T)) (_ : ∀ (σ : m_T) (H : Heap) (locs : List Loc) (ls : Array Slot), K σ = some (r, σ') → lv_has ls 3 [] → m_V D b cs σ A s.heap H locs → W p l e { frames := 1, cells := 0, slots := 0, locals := 21 } s m args below meth c H locs 0 0 (m_Qi below args s D b cs A r σ') (F0 m 165 ls [])) (n : Nat) (v2 : Int32) (σ : m_T) (H : Heap) (locs : List Loc) (ls : Array Slot), f_M_join_L123 N K n v2 σ = some (r, σ') → lv_has ls 3 [(0, .ref (b 0)), (2, .int (v2))] → m_V D b cs σ A s.heap H locs → W p l e { frames := 1, cells := 0, slots := 0, locals := 21 } s m args below meth c H locs 0 0 (m_Qi below args s D b cs A r σ') (F0 m 123 ls []) := by
        intro K hK n
        induction n with
        | zero => intro v2 σ H locs ls h hl V; cases h
        | succ n ih =>
          intro v2 σ H locs ls h hl V
          rw [f_M_join_L123] at h
          refine lv_iload_n hx hb d_M_join_123 rfl (lv_at hl 1 rfl) ?_
          refine lv_aload_n hx hb d_M_join_124 rfl (lv_at hl 0 rfl) ?_
          refine m_get (v := .int (m_S σ 9)) G V 0 4 9 m_w0 rfl in_M (by decide) k_M_34 rfl d_M_join_125 ?_
          refine lv_icmp_ge (tgt := 165) hx hb d_M_join_128 (by decide) (fun hc => ?_) (fun hc => ?_)
          · replace h := q_ifp hc h
            exact hK _ _ _ ls h (lv_sub hl [] rfl) V
          · replace h := q_ifn hc h
            refine lv_aload_n hx hb d_M_join_131 rfl (lv_at hl 0 rfl) ?_
            refine m_get (v := .ref (b 9)) G V 0 4 10 m_w0 rfl in_M (by decide) k_M_38 rfl d_M_join_132 ?_
            refine lv_iload_n hx hb d_M_join_135 rfl (lv_at hl 1 rfl) ?_
            refine lv_aload_n hx hb d_M_join_136 rfl (lv_at hl 0 rfl) ?_
            refine m_get (v := .ref (b 9)) G V 0 4 10 m_w0 rfl in_M (by decide) k_M_38 rfl d_M_join_137 ?_
            refine lv_iload_n hx hb d_M_join_140 rfl (lv_at hl 1 rfl) ?_
            refine lv_iconst (v := 1) hx hb d_M_join_141 (by decide) ?_
            refine lv_iadd hx hb d_M_join_142 ?_
            obtain ⟨g29, h⟩ := q_gd_h h
            refine m_iald G V 9 m_w9 g29 d_M_join_143 ?_
            obtain ⟨g30, h⟩ := q_gd_h h
            obtain ⟨s31, e31, h⟩ := q_let_h h
            refine m_iast (σ' := s31) G V 9 m_w9 (m_u9.trans (congrArg (m_W b cs) e31.symm)) g30 d_M_join_144 (fun H locs V => ?_)
            refine lv_aload_n hx hb d_M_join_145 rfl (lv_at hl 0 rfl) ?_
            refine m_get (v := .ref (b 10)) G V 0 4 11 m_w0 rfl in_M (by decide) k_M_41 rfl d_M_join_146 ?_
            refine lv_iload_n hx hb d_M_join_149 rfl (lv_at hl 1 rfl) ?_
            refine lv_aload_n hx hb d_M_join_150 rfl (lv_at hl 0 rfl) ?_
            refine m_get (v := .ref (b 10)) G V 0 4 11 m_w0 rfl in_M (by decide) k_M_41 rfl d_M_join_151 ?_
            refine lv_iload_n hx hb d_M_join_154 rfl (lv_at hl 1 rfl) ?_
            refine lv_iconst (v := 1) hx hb d_M_join_155 (by decide) ?_
            refine lv_iadd hx hb d_M_join_156 ?_
            obtain ⟨g32, h⟩ := q_gd_h h
            refine m_iald G V 10 m_w10 g32 d_M_join_157 ?_
            obtain ⟨g33, h⟩ := q_gd_h h
            obtain ⟨s34, e34, h⟩ := q_let_h h
            refine m_iast (σ' := s34) G V 10 m_w10 (m_u10.trans (congrArg (m_W b cs) e34.symm)) g33 d_M_join_158 (fun H locs V => ?_)
            refine lv_iinc (k := 1) (v := v2 + 1) (lv' := [(2, .int (v2 + 1)), (0, .ref (b 0))]) hx hb d_M_join_159 hl rfl rfl (by decide) rfl (fun ls hl => ?_)
            refine lv_goto (tgt := 123) hx hb d_M_join_162 (by decide) ?_
            exact ih _ _ _ _ ls h (lv_sub hl [1, 0] rfl) V
      replace hl := lv_sub (l' := [(0, .ref (b 0)), (2, .int (a1 + 1))]) hl [1, 0] rfl
      refine lp123 _ ?_ _ _ _ _ _ ls h hl V
      intro t35 H locs ls h hl V
      refine lv_iconst (v := 1) hx hb d_M_join_165 (by decide) ?_
      exact m_zret_i G hr hlk rfl h V d_M_join_166
    · replace h := q_ifp hc h
      refine lv_iconst (v := 0) hx hb d_M_join_18 (by decide) ?_
      exact m_zret_i G hr hlk rfl h V d_M_join_19

set_option maxHeartbeats 40000000 in
set_option maxRecDepth 100000 in
theorem c_M_tablet (l : Launch) (D : va_G) (b : Nat → Nat) (cs : Nat → ClassId) (N : Nat) (σ : m_T) (a1 : Int32) (a2 : Int32) (r : Int32) (h : f_M_tablet N σ a1 a2 = some r) : m_Ci l y_M_tablet b_M_tablet 3 (some .int) { frames := 1, cells := 0, slots := 0, locals := 24 } D b cs σ [.ref (b 0), .int (a1), .int (a2)] r σ := by
  refine m_met_i (own := R_M) (by decide) rfl (Nat.le_of_ble_eq_true rfl) ?_
  intro p e s m args below meth c A G hr hlk hml ls hl V
  have hx := G.1
  have hb := G.2.1
  have hown := G.2.2.1
  have hts := G.2.2.2.1
  have hN := G.2.2.2.2.2
  have hl : lv_has ls 3 [(0, .ref (b 0)), (1, .int (a1)), (2, .int (a2))] := hl
  unfold f_M_tablet at h
  refine lv_aload_n hx hb d_M_tablet_0 rfl (lv_at hl 0 rfl) ?_
  refine lv_iload_n hx hb d_M_tablet_1 rfl (lv_at hl 1 rfl) ?_
  obtain ⟨r2, h1, h⟩ := q_bind h
  refine m_cV_i (As := [.int (a1)]) (rest := []) G V hml (c_M_isTablet l D b cs N σ a1 r2 h1) 0 4 rfl m_w0 g_M_189 e_M_isTablet ⟨Nat.le_of_ble_eq_true rfl, Nat.le_of_ble_eq_true rfl⟩ ⟨rfl, rfl⟩ ⟨Nat.zero_le _, Nat.zero_le _⟩ rfl hl.1 rfl (Nat.le_of_ble_eq_true rfl) d_M_tablet_2 (fun H locs V => ?_)
  refine lv_if_eq (tgt := 17) hx hb d_M_tablet_5 (by decide) (fun hc => ?_) (fun hc => ?_)
  · replace h := q_ifp hc h
    refine lv_iconst (v := (-1)) hx hb d_M_tablet_17 (by decide) ?_
    exact m_pret_i G hr hlk h rfl V d_M_tablet_18
  · replace h := q_ifn hc h
    refine lv_iload_n hx hb d_M_tablet_8 rfl (lv_at hl 2 rfl) ?_
    refine lv_if_lt (tgt := 17) hx hb d_M_tablet_9 (by decide) (fun hc => ?_) (fun hc => ?_)
    · replace h := q_ifp hc h
      refine lv_iconst (v := (-1)) hx hb d_M_tablet_17 (by decide) ?_
      exact m_pret_i G hr hlk h rfl V d_M_tablet_18
    · replace h := q_ifn hc h
      refine lv_iload_n hx hb d_M_tablet_12 rfl (lv_at hl 2 rfl) ?_
      refine lv_iconst (v := 3) hx hb d_M_tablet_13 (by decide) ?_
      refine lv_icmp_le (tgt := 19) hx hb d_M_tablet_14 (by decide) (fun hc => ?_) (fun hc => ?_)
      · replace h := q_ifp hc h
        refine lv_iload_n hx hb d_M_tablet_19 rfl (lv_at hl 2 rfl) ?_
        refine lv_if_ne (tgt := 32) hx hb d_M_tablet_20 (by decide) (fun hc => ?_) (fun hc => ?_)
        · replace h := q_ifn hc h
          refine lv_iload_n hx hb d_M_tablet_32 rfl (lv_at hl 2 rfl) ?_
          refine lv_iconst (v := 1) hx hb d_M_tablet_33 (by decide) ?_
          refine lv_icmp_ne (tgt := 45) hx hb d_M_tablet_34 (by decide) (fun hc => ?_) (fun hc => ?_)
          · replace h := q_ifn hc h
            refine lv_iload_n hx hb d_M_tablet_45 rfl (lv_at hl 2 rfl) ?_
            refine lv_iconst (v := 2) hx hb d_M_tablet_46 (by decide) ?_
            refine lv_icmp_ne (tgt := 59) hx hb d_M_tablet_47 (by decide) (fun hc => ?_) (fun hc => ?_)
            · replace h := q_ifn hc h
              refine lv_aload_n hx hb d_M_tablet_59 rfl (lv_at hl 0 rfl) ?_
              refine lv_iload_n hx hb d_M_tablet_60 rfl (lv_at hl 1 rfl) ?_
              refine lv_iconst (v := (-1)) hx hb d_M_tablet_61 (by decide) ?_
              obtain ⟨r4, h3, h⟩ := q_bind h
              refine m_cV_i (As := [.int (a1), .int ((-1))]) (rest := []) G V hml (c_M_inTable l D b cs N σ a1 (-1) r4 h3) 0 4 rfl m_w0 g_M_155 e_M_inTable ⟨Nat.le_of_ble_eq_true rfl, Nat.le_of_ble_eq_true rfl⟩ ⟨rfl, rfl⟩ ⟨Nat.zero_le _, Nat.zero_le _⟩ rfl hl.1 rfl (Nat.le_of_ble_eq_true rfl) d_M_tablet_62 (fun H locs V => ?_)
              exact m_pret_i G hr hlk h rfl V d_M_tablet_65
            · replace h := q_ifp hc h
              refine lv_aload_n hx hb d_M_tablet_50 rfl (lv_at hl 0 rfl) ?_
              refine m_get (v := .ref (b 10)) G V 0 4 11 m_w0 rfl in_M (by decide) k_M_41 rfl d_M_tablet_51 ?_
              refine lv_iload_n hx hb d_M_tablet_54 rfl (lv_at hl 1 rfl) ?_
              obtain ⟨g5, h⟩ := q_gd_h h
              refine m_iald G V 10 m_w10 g5 d_M_tablet_55 ?_
              refine lv_goto (tgt := 65) hx hb d_M_tablet_56 (by decide) ?_
              exact m_pret_i G hr hlk h rfl V d_M_tablet_65
          · replace h := q_ifp hc h
            refine lv_aload_n hx hb d_M_tablet_37 rfl (lv_at hl 0 rfl) ?_
            refine lv_iload_n hx hb d_M_tablet_38 rfl (lv_at hl 1 rfl) ?_
            obtain ⟨r7, h6, h⟩ := q_bind h
            refine m_cV_i (As := [.int (a1)]) (rest := []) G V hml (c_M_lastRow l D b cs N σ a1 r7 h6) 0 4 rfl m_w0 g_M_203 e_M_lastRow ⟨Nat.le_of_ble_eq_true rfl, Nat.le_of_ble_eq_true rfl⟩ ⟨rfl, rfl⟩ ⟨Nat.zero_le _, Nat.zero_le _⟩ rfl hl.1 rfl (Nat.le_of_ble_eq_true rfl) d_M_tablet_39 (fun H locs V => ?_)
            refine lv_goto (tgt := 65) hx hb d_M_tablet_42 (by decide) ?_
            exact m_pret_i G hr hlk h rfl V d_M_tablet_65
        · replace h := q_ifp hc h
          refine lv_aload_n hx hb d_M_tablet_23 rfl (lv_at hl 0 rfl) ?_
          refine m_get (v := .ref (b 9)) G V 0 4 10 m_w0 rfl in_M (by decide) k_M_38 rfl d_M_tablet_24 ?_
          refine lv_iload_n hx hb d_M_tablet_27 rfl (lv_at hl 1 rfl) ?_
          obtain ⟨g8, h⟩ := q_gd_h h
          refine m_iald G V 9 m_w9 g8 d_M_tablet_28 ?_
          refine lv_goto (tgt := 65) hx hb d_M_tablet_29 (by decide) ?_
          exact m_pret_i G hr hlk h rfl V d_M_tablet_65
      · replace h := q_ifn hc h
        refine lv_iconst (v := (-1)) hx hb d_M_tablet_17 (by decide) ?_
        exact m_pret_i G hr hlk h rfl V d_M_tablet_18
