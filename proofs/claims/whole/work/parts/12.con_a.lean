theorem q_in_nI {j n : Nat} (hj : j < 2 ^ 31) (h : q_in (nI j) n = true) : j < n := by
  have h1 := q_in_vp h
  have h2 : ¬ n ≤ (nI j).toNatClampNeg := fun q => h1 (Or.inr q)
  rw [nI_clamp hj] at h2
  exact Nat.not_le.mp h2
theorem f_T_applyChange_in {N : Nat} {σ s : x_T} {a : Int32} (h : f_T_applyChange N σ a = some s) : q_in a 4 = true := by
  unfold f_T_applyChange at h
  exact (q_gd_h h).1
set_option maxHeartbeats 40000000 in
set_option maxRecDepth 100000 in
theorem c_E_init (l : Launch) (h0 : Nat) : Met l y_E_init (Cond.code y_E_init b_E_init 1 none :: q_ws) { frames := 1, cells := 0, slots := 0, locals := 24 } (va_Pc [.ref h0] q_Ns) q_Sv 0 0 (fun _ => False) := by
  refine Met.ofW (cc := b_E_init) (maxL := 1) (ret := none) (by decide) rfl ?_
  intro p e s m args below meth c s₁ B hml hv
  obtain ⟨rfl, hN⟩ := hv
  have hts0 := atoms_spec (ws := Cond.code y_E_init b_E_init 1 none :: q_ws) B.pre
  have hts : ∀ w ∈ q_ws, w.before ([Value.ref h0] : List Value).toArray s = true := fun w hw => hts0 w (List.mem_cons_of_mem _ hw)
  have hown : s.vm.findClass R_E = some m.cls := findClass_of_methodNamed B.named
  have hx := B.exec
  have hb := B.bytes
  have hr := B.returns
  have hlk := B.notSynchronized
  have hl := lv_entry ([.ref h0]) (n := 1) (Nat.le_of_ble_eq_true rfl)
  rw [lg_entry_eq]
  generalize (lg_sl ([.ref h0]) ++ List.replicate (1 - (lg_sl ([.ref h0])).length) Slot.unset).toArray = ls at hl ⊢
  have hl : lv_has ls 1 [(0, .ref h0)] := hl
  refine lv_aload_n hx hb d_E_init_0 rfl (lv_at hl 0 rfl) ?_
  refine W.objInit hx hb hown (hts _ k_E_3) (hts _ k_im_obj) (hts _ k_co_obj) rfl (by rw [hml]; exact hl.1) rfl d_E_init_1 (Nat.le_of_ble_eq_true rfl) (Nat.le_of_ble_eq_true rfl) ?_
  refine W.eq (g2 := F0 m 4 ls []) rfl ?_
  exact W.vret hx hb hr (fun t ht hW => ⟨rfl, ht⟩) (fun q h => by cases h) d_E_init_4 hlk

set_option maxHeartbeats 40000000 in
set_option maxRecDepth 100000 in
theorem c_T_unusedEntry (l : Launch) (D : va_G) (b ad : Nat → Nat) (cs : Nat → ClassId) (N : Nat) (σ : x_T) (r : Option Nat) (σ' : x_T) (h : f_T_unusedEntry N σ = some (r, σ')) : x_Dq l y_T_unusedEntry b_T_unusedEntry 1 (some (.object "TabletCells$Entry")) { frames := 2, cells := 1, slots := 12, locals := 44 } D b ad cs σ [.ref (b 0)] 1 12 r σ' := by
  refine x_dmet_q (own := R_T) (by decide) rfl (Nat.le_of_ble_eq_true rfl) ?_
  intro p e s m args below meth c A G hr hlk hml ls hl V
  have hx := G.1
  have hb := G.2.1
  have hown := G.2.2.1
  have hts := G.2.2.2.1
  have hN := G.2.2.2.2.2
  have hl : lv_has ls 1 [(0, .ref (b 0))] := hl
  unfold f_T_unusedEntry at h
  refine lv_aload_n hx hb d_T_unusedEntry_0 rfl (lv_at hl 0 rfl) ?_
  refine x_get (v := .ref (b 3)) G V 0 0 3 x_w0 rfl in_T (by decide) k_T_22 rfl d_T_unusedEntry_1 ?_
  refine lv_aload_n hx hb d_T_unusedEntry_4 rfl (lv_at hl 0 rfl) ?_
  refine x_get (v := .int (x_S σ 4)) G V 0 0 4 x_w0 rfl in_T (by decide) k_T_26 rfl d_T_unusedEntry_5 ?_
  obtain ⟨g1, h⟩ := q_gd_h h
  refine x_aald G V g1 d_T_unusedEntry_8 (fun hE => ?_) (fun k hE => ?_)
  · replace h := q_omn hE h
    obtain ⟨hok, h⟩ := q_gp_h h
    obtain ⟨s1, e1, h⟩ := q_let_h h
    refine lv_ifnonnullN hx hb d_T_unusedEntry_9 ?_
    refine lv_aload_n hx hb d_T_unusedEntry_12 rfl (lv_at hl 0 rfl) ?_
    refine x_get (v := .ref (b 3)) G V 0 0 3 x_w0 rfl in_T (by decide) k_T_22 rfl d_T_unusedEntry_13 ?_
    refine lv_aload_n hx hb d_T_unusedEntry_16 rfl (lv_at hl 0 rfl) ?_
    refine x_get (v := .int (x_S σ 4)) G V 0 0 4 x_w0 rfl in_T (by decide) k_T_26 rfl d_T_unusedEntry_17 ?_
    refine va_new (ci := 1) (fs := x_fE (fun _ => 0)) (C := R_E) (T := F_E) (N := 12) hx hb hts in_E tt_E tt_E_ok hown (hts _ k_T_20) (hts _ k_ii_E) (hts _ k_in_E) G.2.2.2.2.1 V.1 V.2.1 V.2.2.1 V.2.2.2 rfl (fun j hj => n_def_E j hj) (by decide) (by decide) d_T_unusedEntry_20 (fun q H hP hD hS => ?_)
    obtain ⟨ad1, ha1, V⟩ : ∃ ad1 : Nat → Nat, ad1 (x_N σ) = q ∧ x_V D b ad1 cs (x_sN σ) A s.heap H [] := ⟨va_up ad (x_N σ) q, if_pos rfl, (x_grow hok) ▸ hP, (x_grow hok) ▸ hD, hS, V.2.2.2⟩
    subst ha1
    refine W.widen (k := 1) (n := 12) (by decide) (by decide) ?_
    refine lv_dup hx hb d_T_unusedEntry_23 rfl ?_
    refine q_run_v (va_runIN (As := []) (rest := [.ref (ad1 (x_N σ)), .int (x_S σ 4), .ref (b 3)]) ⟨hx, hb, hml, hown, hts⟩ (c_E_init l (ad1 (x_N σ))) ⟨va_cnB 0 hts (q_good k_co_E_init) rfl rfl rfl (G.2.2.2.2.2.1 _ k_T_287 rfl) (hts _ k_in_E) (e_E_init).2 ⟨Nat.le_of_ble_eq_true rfl, Nat.le_of_ble_eq_true rfl⟩, rfl, hts _ k_im_E_init⟩ (q_preS hN) rfl rfl hl.1 rfl (lv_room (Nat.le_of_ble_eq_true rfl)) d_T_unusedEntry_24 ⟨Nat.le_of_ble_eq_true rfl, Nat.le_of_ble_eq_true rfl⟩) ?_
    refine x_aast (σ' := s1) G V (show x_N σ < x_N (x_sN σ) from Nat.lt_succ_self _) (x_u3.trans (congrArg (x_W b ad1 cs) e1.symm)) g1 d_T_unusedEntry_27 (fun H locs V => ?_)
    refine lv_aload_n hx hb d_T_unusedEntry_28 rfl (lv_at hl 0 rfl) ?_
    refine x_get (v := .ref (b 3)) G V 0 0 3 x_w0 rfl in_T (by decide) k_T_22 rfl d_T_unusedEntry_29 ?_
    refine lv_aload_n hx hb d_T_unusedEntry_32 rfl (lv_at hl 0 rfl) ?_
    refine x_get (v := .int (x_S s1 4)) G V 0 0 4 x_w0 rfl in_T (by decide) k_T_26 rfl d_T_unusedEntry_33 ?_
    have hE1 : x_E s1 (x_S s1 4).toNatClampNeg = some (x_N σ) := by
      rw [e1]
      exact if_pos rfl
    refine x_aald G V (by rw [e1]; exact g1) d_T_unusedEntry_36 (fun hE => ?_) (fun k hE => ?_)
    · rw [hE1] at hE
      cases hE
    · rw [hE1] at hE
      cases hE
      exact x_dret_q (r0 := some (x_N σ)) G hr hlk h rfl V d_T_unusedEntry_37
  · replace h := q_oms hE h
    refine lv_ifnonnull (tgt := 28) hx hb d_T_unusedEntry_9 (by decide) ?_
    refine lv_aload_n hx hb d_T_unusedEntry_28 rfl (lv_at hl 0 rfl) ?_
    refine x_get (v := .ref (b 3)) G V 0 0 3 x_w0 rfl in_T (by decide) k_T_22 rfl d_T_unusedEntry_29 ?_
    refine lv_aload_n hx hb d_T_unusedEntry_32 rfl (lv_at hl 0 rfl) ?_
    refine x_get (v := .int (x_S σ 4)) G V 0 0 4 x_w0 rfl in_T (by decide) k_T_26 rfl d_T_unusedEntry_33 ?_
    refine x_aald G V g1 d_T_unusedEntry_36 (fun hE2 => ?_) (fun k2 hE2 => ?_)
    · rw [hE] at hE2
      cases hE2
    · rw [hE] at hE2
      cases hE2
      refine W.widen (k := 1) (n := 12) (by decide) (by decide) ?_
      exact x_dret_q (r0 := some k) G hr hlk h rfl V d_T_unusedEntry_37

set_option maxHeartbeats 40000000 in
set_option maxRecDepth 100000 in
theorem c_T_makeEntry (l : Launch) (D : va_G) (b ad : Nat → Nat) (cs : Nat → ClassId) (N : Nat) (σ : x_T) (a1 : Int32) (a2 : Int32) (a3 : Int32) (a4 : Int32) (r : Option Nat) (σ' : x_T) (h : f_T_makeEntry N σ a1 a2 a3 a4 = some (r, σ')) : x_Dq l y_T_makeEntry b_T_makeEntry 7 (some (.object "TabletCells$Entry")) { frames := 3, cells := 1, slots := 12, locals := 64 } D b ad cs σ [.ref (b 0), .int (a1), .int (a2), .int (a3), .int (a4)] 1 12 r σ' := by
  refine x_dmet_q (own := R_T) (by decide) rfl (Nat.le_of_ble_eq_true rfl) ?_
  intro p e s m args below meth c A G hr hlk hml ls hl V
  have hx := G.1
  have hb := G.2.1
  have hown := G.2.2.1
  have hts := G.2.2.2.1
  have hN := G.2.2.2.2.2
  have hl : lv_has ls 7 [(0, .ref (b 0)), (1, .int (a1)), (2, .int (a2)), (3, .int (a3)), (4, .int (a4))] := hl
  unfold f_T_makeEntry at h
  refine lv_aload_n hx hb d_T_makeEntry_0 rfl (lv_at hl 0 rfl) ?_
  refine x_get (v := .int (x_S σ 4)) G V 0 0 4 x_w0 rfl in_T (by decide) k_T_26 rfl d_T_makeEntry_1 ?_
  refine lv_aload_n hx hb d_T_makeEntry_4 rfl (lv_at hl 0 rfl) ?_
  refine x_get (v := .ref (b 3)) G V 0 0 3 x_w0 rfl in_T (by decide) k_T_22 rfl d_T_makeEntry_5 ?_
  refine x_alen (v := 247) G V 3 3 x_w3 rfl rfl d_T_makeEntry_8 ?_
  refine lv_icmp_lt (tgt := 14) hx hb d_T_makeEntry_9 (by decide) (fun hc => ?_) (fun hc => ?_)
  · replace h := q_ifp hc h
    refine lv_aload_n hx hb d_T_makeEntry_14 rfl (lv_at hl 0 rfl) ?_
    obtain ⟨q2, h1, h⟩ := q_bind h
    refine x_dcV_q (As := []) (rest := []) G V hml (c_T_unusedEntry l D b ad cs N σ q2.1 q2.2 h1) g_T_274 e_T_unusedEntry ⟨Nat.le_of_ble_eq_true rfl, Nat.le_of_ble_eq_true rfl⟩ ⟨rfl, rfl⟩ ⟨Nat.le_of_ble_eq_true rfl, Nat.le_of_ble_eq_true rfl⟩ rfl hl.1 rfl (Nat.le_of_ble_eq_true rfl) d_T_makeEntry_15 (fun hE ad4 H locs V => ?_) (fun k3 hE ad4 H locs V => ?_)
    · replace h := q_omn hE h
      refine W.widen (k := 1) (n := 12) (by decide) (by decide) ?_
      refine lv_astoreN (lv' := [(5, .null), (0, .ref (b 0)), (1, .int (a1)), (2, .int (a2)), (3, .int (a3)), (4, .int (a4))]) hx hb d_T_makeEntry_18 hl (by decide) rfl (fun ls hl => ?_)
      refine lv_aload_n hx hb d_T_makeEntry_20 rfl (lv_at hl 1 rfl) ?_
      refine lv_dup hx hb d_T_makeEntry_21 rfl ?_
      refine x_get (v := .int (x_S q2.2 5)) G V 0 0 5 x_w0 rfl in_T (by decide) k_T_29 rfl d_T_makeEntry_22 ?_
      refine lv_iconst (v := 1) hx hb d_T_makeEntry_25 (by decide) ?_
      refine lv_iadd hx hb d_T_makeEntry_26 ?_
      obtain ⟨s5, e5, h⟩ := q_let_h h
      refine x_put (σ' := s5) (ty := .int) G V 0 0 5 x_w0 rfl in_T tt_T_ok n_T (by decide) k_T_29 rfl rfl rfl rfl (Nat.le_of_ble_eq_true rfl) (x_uT5.trans (congrArg (x_W b ad4 cs) e5.symm)) d_T_makeEntry_27 (fun H locs V => ?_)
      refine lv_aloadN hx hb d_T_makeEntry_30 (lv_at hl 0 rfl) ?_
      refine lv_iload_n hx hb d_T_makeEntry_32 rfl (lv_at hl 2 rfl) ?_
      refine lv_iload_n hx hb d_T_makeEntry_33 rfl (lv_at hl 3 rfl) ?_
      refine lv_iload_n hx hb d_T_makeEntry_34 rfl (lv_at hl 4 rfl) ?_
      refine lv_iload hx hb d_T_makeEntry_35 (lv_at hl 5 rfl) ?_
      refine lv_aload_n hx hb d_T_makeEntry_37 rfl (lv_at hl 1 rfl) ?_
      refine x_get (v := .int (x_S s5 5)) G V 0 0 5 x_w0 rfl in_T (by decide) k_T_29 rfl d_T_makeEntry_38 ?_
      cases h
    · replace h := q_oms hE h
      refine W.widen (k := 1) (n := 12) (by decide) (by decide) ?_
      refine lv_astore (lv' := [(5, .ref (ad4 k3)), (0, .ref (b 0)), (1, .int (a1)), (2, .int (a2)), (3, .int (a3)), (4, .int (a4))]) hx hb d_T_makeEntry_18 hl (by decide) rfl (fun ls hl => ?_)
      refine lv_aload_n hx hb d_T_makeEntry_20 rfl (lv_at hl 1 rfl) ?_
      refine lv_dup hx hb d_T_makeEntry_21 rfl ?_
      refine x_get (v := .int (x_S q2.2 5)) G V 0 0 5 x_w0 rfl in_T (by decide) k_T_29 rfl d_T_makeEntry_22 ?_
      refine lv_iconst (v := 1) hx hb d_T_makeEntry_25 (by decide) ?_
      refine lv_iadd hx hb d_T_makeEntry_26 ?_
      obtain ⟨s7, e7, h⟩ := q_let_h h
      refine x_put (σ' := s7) (ty := .int) G V 0 0 5 x_w0 rfl in_T tt_T_ok n_T (by decide) k_T_29 rfl rfl rfl rfl (Nat.le_of_ble_eq_true rfl) (x_uT5.trans (congrArg (x_W b ad4 cs) e7.symm)) d_T_makeEntry_27 (fun H locs V => ?_)
      refine lv_aload hx hb d_T_makeEntry_30 (lv_at hl 0 rfl) ?_
      refine lv_iload_n hx hb d_T_makeEntry_32 rfl (lv_at hl 2 rfl) ?_
      refine lv_iload_n hx hb d_T_makeEntry_33 rfl (lv_at hl 3 rfl) ?_
      refine lv_iload_n hx hb d_T_makeEntry_34 rfl (lv_at hl 4 rfl) ?_
      refine lv_iload hx hb d_T_makeEntry_35 (lv_at hl 5 rfl) ?_
      refine lv_aload_n hx hb d_T_makeEntry_37 rfl (lv_at hl 1 rfl) ?_
      refine x_get (v := .int (x_S s7 5)) G V 0 0 5 x_w0 rfl in_T (by decide) k_T_29 rfl d_T_makeEntry_38 ?_
      obtain ⟨b9, h⟩ := q_gd_h h
      replace b9 := q_lt_h b9
      obtain ⟨s10, h8, h⟩ := q_bind h
      refine x_cN_v (As := [.int (a1), .int (a2), .int (a3), .int (a4), .int (x_S s7 5)]) (rest := []) G V hml (c_E_begin l D b ad4 cs N s7 k3 a1 a2 a3 a4 (x_S s7 5) s10 h8) (15 + k3) 1 rfl (x_wE b9) k_co_E_begin k_T_278 k_in_E k_im_E_begin k_se_E_begin (e_E_begin).2 ⟨Nat.le_of_ble_eq_true rfl, Nat.le_of_ble_eq_true rfl⟩ ⟨rfl, rfl⟩ ⟨Nat.le_of_ble_eq_true rfl, Nat.le_of_ble_eq_true rfl⟩ rfl hl.1 rfl (Nat.le_of_ble_eq_true rfl) d_T_makeEntry_41 (fun H locs V => ?_)
      refine lv_iconst (v := 0) hx hb d_T_makeEntry_44 (by decide) ?_
      refine lv_istore (lv' := [(6, .int (0)), (5, .ref (ad4 k3)), (0, .ref (b 0)), (1, .int (a1)), (2, .int (a2)), (3, .int (a3)), (4, .int (a4))]) hx hb d_T_makeEntry_45 hl (by decide) rfl (fun ls hl => ?_)
      have lp47 : ∀ (u5 : Nat) (K : x_T → Option (Option Nat × x_T)) (_ : ∀ (σ : x_T) (H : Heap) (locs : List Loc) (ls : Array Slot), K σ = some (r, σ') → lv_has ls 7 [(0, .ref (b 0)), (5, .ref (ad4 u5))] → x_V D b ad4 cs σ A s.heap H locs → W p l e { frames := 3, cells := 1, slots := 12, locals := 64 } s m args below meth c H locs 1 12 (x_Eq below args s D b cs A 1 12 r σ') (F0 m 88 ls [])) (n : Nat) (v6 : Int32) (σ : x_T) (H : Heap) (locs : List Loc) (ls : Array Slot), f_T_makeEntry_L47 N u5 K n v6 σ = some (r, σ') → lv_has ls 7 [(0, .ref (b 0)), (5, .ref (ad4 u5)), (6, .int (v6))] → x_V D b ad4 cs σ A s.heap H locs → W p l e { frames := 3, cells := 1, slots := 12, locals := 64 } s m args below meth c H locs 1 12 (x_Eq below args s D b cs A 1 12 r σ') (F0 m 47 ls []) := by
        intro u5 K hK n
        induction n with
        | zero => intro v6 σ H locs ls h hl V; cases h
        | succ n ih =>
          intro v6 σ H locs ls h hl V
          rw [f_T_makeEntry_L47] at h
          refine lv_iload hx hb d_T_makeEntry_47 (lv_at hl 2 rfl) ?_
          refine lv_aload_n hx hb d_T_makeEntry_49 rfl (lv_at hl 0 rfl) ?_
          refine x_get (v := .int (x_S σ 4)) G V 0 0 4 x_w0 rfl in_T (by decide) k_T_26 rfl d_T_makeEntry_50 ?_
          refine lv_icmp_ge (tgt := 88) hx hb d_T_makeEntry_53 (by decide) (fun hc => ?_) (fun hc => ?_)
          · replace h := q_ifp hc h
            exact hK _ _ _ ls h (lv_sub hl [0, 1] rfl) V
          · replace h := q_ifn hc h
            refine lv_aload hx hb d_T_makeEntry_56 (lv_at hl 1 rfl) ?_
            refine lv_aload_n hx hb d_T_makeEntry_58 rfl (lv_at hl 0 rfl) ?_
            refine x_get (v := .ref (b 3)) G V 0 0 3 x_w0 rfl in_T (by decide) k_T_22 rfl d_T_makeEntry_59 ?_
            refine lv_iload hx hb d_T_makeEntry_62 (lv_at hl 2 rfl) ?_
            obtain ⟨g11, h⟩ := q_gd_h h
            refine x_aald G V g11 d_T_makeEntry_64 (fun hE => ?_) (fun k12 hE => ?_)
            · replace h := q_omn hE h
              cases h
            · replace h := q_oms hE h
              obtain ⟨b14, h⟩ := q_gd_h h
              replace b14 := q_lt_h b14
              obtain ⟨r15, h13, h⟩ := q_bind h
              refine x_cN_i (As := [.ref (ad4 k12)]) (rest := []) G V hml (c_E_covers l D b ad4 cs N σ u5 k12 r15 h13) (15 + u5) 1 rfl (x_wE b14) k_co_E_covers k_T_259 k_in_E k_im_E_covers k_se_E_covers (e_E_covers).2 ⟨Nat.le_of_ble_eq_true rfl, Nat.le_of_ble_eq_true rfl⟩ ⟨rfl, rfl⟩ ⟨Nat.le_of_ble_eq_true rfl, Nat.le_of_ble_eq_true rfl⟩ rfl hl.1 rfl (Nat.le_of_ble_eq_true rfl) d_T_makeEntry_65 (fun H locs V => ?_)
              refine lv_if_eq (tgt := 82) hx hb d_T_makeEntry_68 (by decide) (fun hc => ?_) (fun hc => ?_)
              · replace h := q_ifp hc h
                refine lv_iinc (k := 2) (v := v6 + 1) (lv' := [(6, .int (v6 + 1)), (0, .ref (b 0)), (5, .ref (ad4 u5))]) hx hb d_T_makeEntry_82 hl rfl rfl (by decide) rfl (fun ls hl => ?_)
                refine lv_goto (tgt := 47) hx hb d_T_makeEntry_85 (by decide) ?_
                exact ih _ _ _ _ ls h (lv_sub hl [1, 2, 0] rfl) V
              · replace h := q_ifn hc h
                refine lv_aload_n hx hb d_T_makeEntry_71 rfl (lv_at hl 0 rfl) ?_
                refine x_get (v := .ref (b 3)) G V 0 0 3 x_w0 rfl in_T (by decide) k_T_22 rfl d_T_makeEntry_72 ?_
                refine lv_iload hx hb d_T_makeEntry_75 (lv_at hl 2 rfl) ?_
                obtain ⟨g16, h⟩ := q_gd_h h
                refine x_aald G V g16 d_T_makeEntry_77 (fun hE => ?_) (fun k17 hE => ?_)
                · replace h := q_omn hE h
                  cases h
                · replace h := q_oms hE h
                  refine lv_iconst (v := 1) hx hb d_T_makeEntry_78 (by decide) ?_
                  obtain ⟨b18, h⟩ := q_gd_h h
                  replace b18 := q_lt_h b18
                  obtain ⟨s19, e19, h⟩ := q_let_h h
                  refine x_putN (σ' := s19) (ty := .boolean) G V (15 + k17) 1 10 (x_wE b18) rfl in_E tt_E_ok n_E (by decide) k_T_281 rfl rfl rfl rfl (Nat.le_of_ble_eq_true rfl) (x_uE10.trans (congrArg (x_W b ad4 cs) e19.symm)) d_T_makeEntry_79 (fun H locs V => ?_)
                  have b20 : u5 < x_N s19 := by rw [e19]; exact b14
                  have b21 : k17 < x_N s19 := by rw [e19]; exact b18
                  refine lv_iinc (k := 2) (v := v6 + 1) (lv' := [(6, .int (v6 + 1)), (0, .ref (b 0)), (5, .ref (ad4 u5))]) hx hb d_T_makeEntry_82 hl rfl rfl (by decide) rfl (fun ls hl => ?_)
                  refine lv_goto (tgt := 47) hx hb d_T_makeEntry_85 (by decide) ?_
                  exact ih _ _ _ _ ls h (lv_sub hl [1, 2, 0] rfl) V
      replace hl := lv_sub (l' := [(0, .ref (b 0)), (5, .ref (ad4 k3)), (6, .int (0))]) hl [2, 1, 0] rfl
      refine lp47 _ _ ?_ _ _ _ _ _ ls h hl V
      intro t22 H locs ls h hl V
      refine lv_aload_n hx hb d_T_makeEntry_88 rfl (lv_at hl 0 rfl) ?_
      refine lv_aload hx hb d_T_makeEntry_89 (lv_at hl 1 rfl) ?_
      obtain ⟨s24, h23, h⟩ := q_bind h
      refine x_cV_v (As := [.ref (ad4 k3)]) (rest := []) G V hml (c_T_insert l D b ad4 cs N t22 k3 s24 h23) 0 0 rfl x_w0 g_T_284 e_T_insert ⟨Nat.le_of_ble_eq_true rfl, Nat.le_of_ble_eq_true rfl⟩ ⟨rfl, rfl⟩ ⟨Nat.le_of_ble_eq_true rfl, Nat.le_of_ble_eq_true rfl⟩ rfl hl.1 rfl (Nat.le_of_ble_eq_true rfl) d_T_makeEntry_91 (fun H locs V => ?_)
      refine lv_aload hx hb d_T_makeEntry_94 (lv_at hl 1 rfl) ?_
      exact x_dret_q (r0 := (some k3)) G hr hlk h rfl V d_T_makeEntry_96
  · replace h := q_ifn hc h
    refine lv_null hx hb d_T_makeEntry_12 ?_
    refine W.widen (k := 1) (n := 12) (by decide) (by decide) ?_
    exact x_dret_q (r0 := none) G hr hlk h rfl V d_T_makeEntry_13

set_option maxHeartbeats 40000000 in
set_option maxRecDepth 100000 in
theorem c_T_eraseBeyondNumber (l : Launch) (D : va_G) (b ad : Nat → Nat) (cs : Nat → ClassId) (N : Nat) (σ : x_T) (a1 : Int32) (a2 : Int32) (σ' : x_T) (h : f_T_eraseBeyondNumber N σ a1 a2 = some σ') : x_Dv l y_T_eraseBeyondNumber b_T_eraseBeyondNumber 5 none { frames := 4, cells := 1, slots := 12, locals := 90 } D b ad cs σ [.ref (b 0), .int (a1), .int (a2)] 1 12 σ' := by
  refine x_dmet_v (own := R_T) (by decide) rfl (Nat.le_of_ble_eq_true rfl) ?_
  intro p e s m args below meth c A G hr hlk hml ls hl V
  have hx := G.1
  have hb := G.2.1
  have hown := G.2.2.1
  have hts := G.2.2.2.1
  have hN := G.2.2.2.2.2
  have hl : lv_has ls 5 [(0, .ref (b 0)), (1, .int (a1)), (2, .int (a2))] := hl
  unfold f_T_eraseBeyondNumber at h
  refine lv_aload_n hx hb d_T_eraseBeyondNumber_0 rfl (lv_at hl 0 rfl) ?_
  refine x_get (v := .ref (b 1)) G V 0 0 0 x_w0 rfl in_T (by decide) k_T_9 rfl d_T_eraseBeyondNumber_1 ?_
  refine lv_iload_n hx hb d_T_eraseBeyondNumber_4 rfl (lv_at hl 2 rfl) ?_
  obtain ⟨r2, h1, h⟩ := q_bind h
  refine q_cS_i (As := [.int (a2)]) (rest := [.ref (b 1)]) hx hb hown hts hN hml (c_T_familyOf l a2 r2 h1) g_T_179 e_T_familyOf ⟨Nat.le_of_ble_eq_true rfl, Nat.le_of_ble_eq_true rfl⟩ ⟨rfl, rfl⟩ ⟨Nat.le_of_ble_eq_true rfl, Nat.le_of_ble_eq_true rfl⟩ rfl hl.1 rfl (Nat.le_of_ble_eq_true rfl) d_T_eraseBeyondNumber_5 ?_
  obtain ⟨g3, h⟩ := q_gd_h h
  refine x_iald G V 1 x_w1 g3 d_T_eraseBeyondNumber_8 ?_
  refine lv_istore_n (lv' := [(3, .int (x_I σ 1 ((r2 : Int32).toNatClampNeg))), (0, .ref (b 0)), (1, .int (a1)), (2, .int (a2))]) hx hb d_T_eraseBeyondNumber_9 rfl hl (by decide) rfl (fun ls hl => ?_)
  refine lv_iload_n hx hb d_T_eraseBeyondNumber_10 rfl (lv_at hl 0 rfl) ?_
  refine lv_if_ne (tgt := 15) hx hb d_T_eraseBeyondNumber_11 (by decide) (fun hc => ?_) (fun hc => ?_)
  · replace h := q_ifn hc h
    refine lv_aload_n hx hb d_T_eraseBeyondNumber_15 rfl (lv_at hl 1 rfl) ?_
    refine lv_iload_n hx hb d_T_eraseBeyondNumber_16 rfl (lv_at hl 2 rfl) ?_
    refine lv_iload_n hx hb d_T_eraseBeyondNumber_17 rfl (lv_at hl 3 rfl) ?_
    refine lv_sipush (v := 10000) hx hb d_T_eraseBeyondNumber_18 (by decide) ?_
    refine lv_iload_n hx hb d_T_eraseBeyondNumber_21 rfl (lv_at hl 0 rfl) ?_
    obtain ⟨r5, h4, h⟩ := q_bind h
    refine x_cV_q (As := [.int (a1), .int (a2), .int (10000), .int (x_I σ 1 ((r2 : Int32).toNatClampNeg))]) (rest := []) G V hml (c_T_liveCell l D b ad cs N σ a1 a2 10000 (x_I σ 1 ((r2 : Int32).toNatClampNeg)) r5 h4) 0 0 rfl x_w0 g_T_125 e_T_liveCell ⟨Nat.le_of_ble_eq_true rfl, Nat.le_of_ble_eq_true rfl⟩ ⟨rfl, rfl⟩ ⟨Nat.le_of_ble_eq_true rfl, Nat.le_of_ble_eq_true rfl⟩ rfl hl.1 rfl (Nat.le_of_ble_eq_true rfl) d_T_eraseBeyondNumber_22 (fun hE H locs V => ?_) (fun k6 hE H locs V => ?_)
    · replace h := q_omn hE h
      refine lv_astoreN (lv' := [(4, .null), (3, .int (x_I σ 1 ((r2 : Int32).toNatClampNeg))), (0, .ref (b 0)), (1, .int (a1)), (2, .int (a2))]) hx hb d_T_eraseBeyondNumber_25 hl (by decide) rfl (fun ls hl => ?_)
      refine lv_aloadN hx hb d_T_eraseBeyondNumber_27 (lv_at hl 0 rfl) ?_
      refine lv_ifnullN (tgt := 45) hx hb d_T_eraseBeyondNumber_29 (by decide) ?_
      refine W.widen (k := 1) (n := 12) (by decide) (by decide) ?_
      exact x_dret_v G hr hlk h V d_T_eraseBeyondNumber_45
    · replace h := q_oms hE h
      refine lv_astore (lv' := [(4, .ref (ad k6)), (3, .int (x_I σ 1 ((r2 : Int32).toNatClampNeg))), (0, .ref (b 0)), (1, .int (a1)), (2, .int (a2))]) hx hb d_T_eraseBeyondNumber_25 hl (by decide) rfl (fun ls hl => ?_)
      refine lv_aload hx hb d_T_eraseBeyondNumber_27 (lv_at hl 0 rfl) ?_
      refine lv_ifnull hx hb d_T_eraseBeyondNumber_29 ?_
      refine lv_aload_n hx hb d_T_eraseBeyondNumber_32 rfl (lv_at hl 2 rfl) ?_
      refine lv_iload_n hx hb d_T_eraseBeyondNumber_33 rfl (lv_at hl 3 rfl) ?_
      refine lv_iload_n hx hb d_T_eraseBeyondNumber_34 rfl (lv_at hl 4 rfl) ?_
      refine lv_aload hx hb d_T_eraseBeyondNumber_35 (lv_at hl 0 rfl) ?_
      obtain ⟨b7, h⟩ := q_gd_h h
      replace b7 := q_lt_h b7
      refine x_getN (v := .int (x_P σ k6 3)) G V (15 + k6) 1 3 (x_wE b7) rfl in_E (by decide) k_T_182 rfl d_T_eraseBeyondNumber_37 ?_
      refine lv_iconst (v := 1) hx hb d_T_eraseBeyondNumber_40 (by decide) ?_
      obtain ⟨q9, h8, h⟩ := q_bind h
      refine x_dcV_q (As := [.int (a1), .int (a2), .int (x_P σ k6 3), .int (1)]) (rest := []) G V hml (c_T_makeEntry l D b ad cs N σ a1 a2 (x_P σ k6 3) 1 q9.1 q9.2 h8) g_T_165 e_T_makeEntry ⟨Nat.le_of_ble_eq_true rfl, Nat.le_of_ble_eq_true rfl⟩ ⟨rfl, rfl⟩ ⟨Nat.le_of_ble_eq_true rfl, Nat.le_of_ble_eq_true rfl⟩ rfl hl.1 rfl (Nat.le_of_ble_eq_true rfl) d_T_eraseBeyondNumber_41 (fun hE ad11 H locs V => ?_) (fun k10 hE ad11 H locs V => ?_)
      · replace h := q_omn hE h
        refine W.widen (k := 1) (n := 12) (by decide) (by decide) ?_
        replace hl := lv_sub (l' := [(3, .int (x_I σ 1 ((r2 : Int32).toNatClampNeg))), (0, .ref (b 0)), (1, .int (a1)), (2, .int (a2))]) hl [1, 2, 3, 4] rfl
        refine lv_pop hx hb d_T_eraseBeyondNumber_44 rfl ?_
        exact x_dret_v G hr hlk h V d_T_eraseBeyondNumber_45
      · replace h := q_oms hE h
        refine W.widen (k := 1) (n := 12) (by decide) (by decide) ?_
        replace hl := lv_sub (l' := [(3, .int (x_I σ 1 ((r2 : Int32).toNatClampNeg))), (0, .ref (b 0)), (1, .int (a1)), (2, .int (a2))]) hl [1, 2, 3, 4] rfl
        refine lv_pop hx hb d_T_eraseBeyondNumber_44 rfl ?_
        exact x_dret_v G hr hlk h V d_T_eraseBeyondNumber_45
  · replace h := q_ifp hc h
    refine W.widen (k := 1) (n := 12) (by decide) (by decide) ?_
    exact x_dret_v G hr hlk h V d_T_eraseBeyondNumber_14

set_option maxHeartbeats 40000000 in
set_option maxRecDepth 100000 in
theorem c_T_applyChange (l : Launch) (D : va_G) (b ad : Nat → Nat) (cs : Nat → ClassId) (N : Nat) (σ : x_T) (a1 : Int32) (σ' : x_T) (h : f_T_applyChange N σ a1 = some σ') : x_Dv l y_T_applyChange b_T_applyChange 5 none { frames := 5, cells := 2, slots := 24, locals := 114 } D b ad cs σ [.ref (b 0), .int (a1)] 2 24 σ' := by
  refine x_dmet_v (own := R_T) (by decide) rfl (Nat.le_of_ble_eq_true rfl) ?_
  intro p e s m args below meth c A G hr hlk hml ls hl V
  have hx := G.1
  have hb := G.2.1
  have hown := G.2.2.1
  have hts := G.2.2.2.1
  have hN := G.2.2.2.2.2
  have hl : lv_has ls 5 [(0, .ref (b 0)), (1, .int (a1))] := hl
  unfold f_T_applyChange at h
  refine lv_aload_n hx hb d_T_applyChange_0 rfl (lv_at hl 0 rfl) ?_
  refine x_get (v := .ref (b 5)) G V 0 0 8 x_w0 rfl in_T (by decide) k_T_41 rfl d_T_applyChange_1 ?_
  refine x_getN (v := .ref (b 6)) G V 5 2 2 x_w5 rfl in_B (by decide) k_T_155 rfl d_T_applyChange_4 ?_
  refine lv_iload_n hx hb d_T_applyChange_7 rfl (lv_at hl 1 rfl) ?_
  obtain ⟨g1, h⟩ := q_gd_h h
  refine x_iald G V 6 x_w6 g1 d_T_applyChange_8 ?_
  refine lv_istore_n (lv' := [(2, .int (x_I σ 6 ((a1 : Int32).toNatClampNeg))), (0, .ref (b 0)), (1, .int (a1))]) hx hb d_T_applyChange_9 rfl hl (by decide) rfl (fun ls hl => ?_)
  refine lv_aload_n hx hb d_T_applyChange_10 rfl (lv_at hl 1 rfl) ?_
  refine x_get (v := .ref (b 5)) G V 0 0 8 x_w0 rfl in_T (by decide) k_T_41 rfl d_T_applyChange_11 ?_
  refine x_getN (v := .ref (b 9)) G V 5 2 5 x_w5 rfl in_B (by decide) k_T_158 rfl d_T_applyChange_14 ?_
  refine lv_iload_n hx hb d_T_applyChange_17 rfl (lv_at hl 2 rfl) ?_
  obtain ⟨g2, h⟩ := q_gd_h h
  refine x_zald G V 9 x_w9 g2 d_T_applyChange_18 ?_
  refine lv_istore_n (lv' := [(3, .int (x_I σ 9 ((a1 : Int32).toNatClampNeg))), (2, .int (x_I σ 6 ((a1 : Int32).toNatClampNeg))), (0, .ref (b 0)), (1, .int (a1))]) hx hb d_T_applyChange_19 rfl hl (by decide) rfl (fun ls hl => ?_)
  refine lv_aload_n hx hb d_T_applyChange_20 rfl (lv_at hl 2 rfl) ?_
  refine lv_aload_n hx hb d_T_applyChange_21 rfl (lv_at hl 2 rfl) ?_
  refine x_get (v := .ref (b 5)) G V 0 0 8 x_w0 rfl in_T (by decide) k_T_41 rfl d_T_applyChange_22 ?_
  refine x_getN (v := .int (x_S σ 20)) G V 5 2 0 x_w5 rfl in_B (by decide) k_T_142 rfl d_T_applyChange_25 ?_
  refine lv_iload_n hx hb d_T_applyChange_28 rfl (lv_at hl 1 rfl) ?_
  refine lv_aload_n hx hb d_T_applyChange_29 rfl (lv_at hl 2 rfl) ?_
  refine x_get (v := .ref (b 5)) G V 0 0 8 x_w0 rfl in_T (by decide) k_T_41 rfl d_T_applyChange_30 ?_
  refine x_getN (v := .ref (b 7)) G V 5 2 3 x_w5 rfl in_B (by decide) k_T_162 rfl d_T_applyChange_33 ?_
  refine lv_iload_n hx hb d_T_applyChange_36 rfl (lv_at hl 3 rfl) ?_
  obtain ⟨g3, h⟩ := q_gd_h h
  refine x_iald G V 7 x_w7 g3 d_T_applyChange_37 ?_
  refine lv_iload_n hx hb d_T_applyChange_38 rfl (lv_at hl 0 rfl) ?_
  obtain ⟨q5, h4, h⟩ := q_bind h
  refine x_dcV_q (As := [.int (x_S σ 20), .int (x_I σ 6 ((a1 : Int32).toNatClampNeg)), .int (x_I σ 7 ((a1 : Int32).toNatClampNeg)), .int (x_I σ 9 ((a1 : Int32).toNatClampNeg))]) (rest := []) G V hml (c_T_makeEntry l D b ad cs N σ (x_S σ 20) (x_I σ 6 ((a1 : Int32).toNatClampNeg)) (x_I σ 7 ((a1 : Int32).toNatClampNeg)) (x_I σ 9 ((a1 : Int32).toNatClampNeg)) q5.1 q5.2 h4) g_T_165 e_T_makeEntry ⟨Nat.le_of_ble_eq_true rfl, Nat.le_of_ble_eq_true rfl⟩ ⟨rfl, rfl⟩ ⟨Nat.le_of_ble_eq_true rfl, Nat.le_of_ble_eq_true rfl⟩ rfl hl.1 rfl (Nat.le_of_ble_eq_true rfl) d_T_applyChange_39 (fun hE ad7 H locs V => ?_) (fun k6 hE ad7 H locs V => ?_)
  · replace h := q_omn hE h
    refine W.widen (k := 1) (n := 12) (by decide) (by decide) ?_
    refine lv_astoreN (lv' := [(4, .null), (3, .int (x_I σ 9 ((a1 : Int32).toNatClampNeg))), (2, .int (x_I σ 6 ((a1 : Int32).toNatClampNeg))), (0, .ref (b 0)), (1, .int (a1))]) hx hb d_T_applyChange_42 hl (by decide) rfl (fun ls hl => ?_)
    refine lv_aloadN hx hb d_T_applyChange_44 (lv_at hl 0 rfl) ?_
    refine lv_ifnonnullN hx hb d_T_applyChange_46 ?_
    refine W.widen (k := 2) (n := 24) (by decide) (by decide) ?_
    exact x_dret_v G hr hlk h V d_T_applyChange_49
  · replace h := q_oms hE h
    refine W.widen (k := 1) (n := 12) (by decide) (by decide) ?_
    refine lv_astore (lv' := [(4, .ref (ad7 k6)), (3, .int (x_I σ 9 ((a1 : Int32).toNatClampNeg))), (2, .int (x_I σ 6 ((a1 : Int32).toNatClampNeg))), (0, .ref (b 0)), (1, .int (a1))]) hx hb d_T_applyChange_42 hl (by decide) rfl (fun ls hl => ?_)
    refine lv_aload hx hb d_T_applyChange_44 (lv_at hl 0 rfl) ?_
    refine lv_ifnonnull (tgt := 50) hx hb d_T_applyChange_46 (by decide) ?_
    refine lv_aload hx hb d_T_applyChange_50 (lv_at hl 0 rfl) ?_
    refine lv_aload_n hx hb d_T_applyChange_52 rfl (lv_at hl 3 rfl) ?_
    refine x_get (v := .ref (b 5)) G V 0 0 8 x_w0 rfl in_T (by decide) k_T_41 rfl d_T_applyChange_53 ?_
    refine x_getN (v := .ref (b 8)) G V 5 2 4 x_w5 rfl in_B (by decide) k_T_169 rfl d_T_applyChange_56 ?_
    refine lv_iload_n hx hb d_T_applyChange_59 rfl (lv_at hl 4 rfl) ?_
    obtain ⟨g8, h⟩ := q_gd_h h
    refine x_iald G V 8 x_w8 g8 d_T_applyChange_60 ?_
    obtain ⟨b9, h⟩ := q_gd_h h
    replace b9 := q_lt_h b9
    obtain ⟨s10, e10, h⟩ := q_let_h h
    refine x_putN (σ' := s10) (ty := .int) G V (15 + k6) 1 5 (x_wE b9) rfl in_E tt_E_ok n_E (by decide) k_T_132 rfl rfl rfl rfl (Nat.le_of_ble_eq_true rfl) (x_uE5.trans (congrArg (x_W b ad7 cs) e10.symm)) d_T_applyChange_61 (fun H locs V => ?_)
    have b11 : k6 < x_N s10 := by rw [e10]; exact b9
    refine lv_aload hx hb d_T_applyChange_64 (lv_at hl 0 rfl) ?_
    refine lv_iload_n hx hb d_T_applyChange_66 rfl (lv_at hl 4 rfl) ?_
    refine lv_if_ne (tgt := 74) hx hb d_T_applyChange_67 (by decide) (fun hc => ?_) (fun hc => ?_)
    · replace h := q_ifn hc h
      refine lv_iconst (v := 0) hx hb d_T_applyChange_74 (by decide) ?_
      obtain ⟨s12, e12, h⟩ := q_let_h h
      refine x_putN (σ' := s12) (ty := .boolean) G V (15 + k6) 1 9 (x_wE b11) rfl in_E tt_E_ok n_E (by decide) k_T_172 rfl rfl rfl rfl (Nat.le_of_ble_eq_true rfl) (x_uE9.trans (congrArg (x_W b ad7 cs) e12.symm)) d_T_applyChange_75 (fun H locs V => ?_)
      have b13 : k6 < x_N s12 := by rw [e12]; exact b11
      refine lv_iload_n hx hb d_T_applyChange_78 rfl (lv_at hl 1 rfl) ?_
      refine lv_if_ne (tgt := 94) hx hb d_T_applyChange_79 (by decide) (fun hc => ?_) (fun hc => ?_)
      · replace h := q_ifn hc h
        refine W.widen (k := 2) (n := 24) (by decide) (by decide) ?_
        exact x_dret_v G hr hlk h V d_T_applyChange_94
      · replace h := q_ifp hc h
        refine lv_aload_n hx hb d_T_applyChange_82 rfl (lv_at hl 3 rfl) ?_
        refine lv_aload_n hx hb d_T_applyChange_83 rfl (lv_at hl 3 rfl) ?_
        refine x_get (v := .ref (b 5)) G V 0 0 8 x_w0 rfl in_T (by decide) k_T_41 rfl d_T_applyChange_84 ?_
        refine x_getN (v := .int (x_S s12 20)) G V 5 2 0 x_w5 rfl in_B (by decide) k_T_142 rfl d_T_applyChange_87 ?_
        refine lv_iload_n hx hb d_T_applyChange_90 rfl (lv_at hl 2 rfl) ?_
        obtain ⟨s15, h14, h⟩ := q_bind h
        refine x_dcV_v (As := [.int (x_S s12 20), .int (x_I σ 6 ((a1 : Int32).toNatClampNeg))]) (rest := []) G V hml (c_T_eraseBeyondNumber l D b ad7 cs N s12 (x_S s12 20) (x_I σ 6 ((a1 : Int32).toNatClampNeg)) s15 h14) g_T_175 e_T_eraseBeyondNumber ⟨Nat.le_of_ble_eq_true rfl, Nat.le_of_ble_eq_true rfl⟩ ⟨rfl, rfl⟩ ⟨Nat.le_of_ble_eq_true rfl, Nat.le_of_ble_eq_true rfl⟩ rfl hl.1 rfl (Nat.le_of_ble_eq_true rfl) d_T_applyChange_91 (fun ad16 H locs V => ?_)
        refine W.widen (k := 2) (n := 24) (by decide) (by decide) ?_
        replace hl := lv_sub (l' := [(3, .int (x_I σ 9 ((a1 : Int32).toNatClampNeg))), (2, .int (x_I σ 6 ((a1 : Int32).toNatClampNeg))), (0, .ref (b 0)), (1, .int (a1))]) hl [1, 2, 3, 4] rfl
        exact x_dret_v G hr hlk h V d_T_applyChange_94
    · replace h := q_ifp hc h
      refine lv_iconst (v := 1) hx hb d_T_applyChange_70 (by decide) ?_
      refine lv_goto (tgt := 75) hx hb d_T_applyChange_71 (by decide) ?_
      obtain ⟨s17, e17, h⟩ := q_let_h h
      refine x_putN (σ' := s17) (ty := .boolean) G V (15 + k6) 1 9 (x_wE b11) rfl in_E tt_E_ok n_E (by decide) k_T_172 rfl rfl rfl rfl (Nat.le_of_ble_eq_true rfl) (x_uE9.trans (congrArg (x_W b ad7 cs) e17.symm)) d_T_applyChange_75 (fun H locs V => ?_)
      have b18 : k6 < x_N s17 := by rw [e17]; exact b11
      refine lv_iload_n hx hb d_T_applyChange_78 rfl (lv_at hl 1 rfl) ?_
      refine lv_if_ne (tgt := 94) hx hb d_T_applyChange_79 (by decide) (fun hc => ?_) (fun hc => ?_)
      · replace h := q_ifn hc h
        refine W.widen (k := 2) (n := 24) (by decide) (by decide) ?_
        exact x_dret_v G hr hlk h V d_T_applyChange_94
      · replace h := q_ifp hc h
        refine lv_aload_n hx hb d_T_applyChange_82 rfl (lv_at hl 3 rfl) ?_
        refine lv_aload_n hx hb d_T_applyChange_83 rfl (lv_at hl 3 rfl) ?_
        refine x_get (v := .ref (b 5)) G V 0 0 8 x_w0 rfl in_T (by decide) k_T_41 rfl d_T_applyChange_84 ?_
        refine x_getN (v := .int (x_S s17 20)) G V 5 2 0 x_w5 rfl in_B (by decide) k_T_142 rfl d_T_applyChange_87 ?_
        refine lv_iload_n hx hb d_T_applyChange_90 rfl (lv_at hl 2 rfl) ?_
        obtain ⟨s20, h19, h⟩ := q_bind h
        refine x_dcV_v (As := [.int (x_S s17 20), .int (x_I σ 6 ((a1 : Int32).toNatClampNeg))]) (rest := []) G V hml (c_T_eraseBeyondNumber l D b ad7 cs N s17 (x_S s17 20) (x_I σ 6 ((a1 : Int32).toNatClampNeg)) s20 h19) g_T_175 e_T_eraseBeyondNumber ⟨Nat.le_of_ble_eq_true rfl, Nat.le_of_ble_eq_true rfl⟩ ⟨rfl, rfl⟩ ⟨Nat.le_of_ble_eq_true rfl, Nat.le_of_ble_eq_true rfl⟩ rfl hl.1 rfl (Nat.le_of_ble_eq_true rfl) d_T_applyChange_91 (fun ad21 H locs V => ?_)
        refine W.widen (k := 2) (n := 24) (by decide) (by decide) ?_
        replace hl := lv_sub (l' := [(3, .int (x_I σ 9 ((a1 : Int32).toNatClampNeg))), (2, .int (x_I σ 6 ((a1 : Int32).toNatClampNeg))), (0, .ref (b 0)), (1, .int (a1))]) hl [1, 2, 3, 4] rfl
        exact x_dret_v G hr hlk h V d_T_applyChange_94

set_option maxHeartbeats 40000000 in
set_option maxRecDepth 100000 in
theorem c_T_applyChanges (l : Launch) (D : va_G) (b ad : Nat → Nat) (cs : Nat → ClassId) (N : Nat) (σ : x_T) (r : Int32) (σ' : x_T) (h : f_T_applyChanges N σ = some (r, σ')) : x_Di l y_T_applyChanges b_T_applyChanges 4 (some .int) { frames := 6, cells := 8, slots := 96, locals := 138 } D b ad cs σ [.ref (b 0)] 8 96 r σ' := by
  refine x_dmet_i (own := R_T) (by decide) rfl (Nat.le_of_ble_eq_true rfl) ?_
  intro p e s m args below meth c A G hr hlk hml ls hl V
  have hx := G.1
  have hb := G.2.1
  have hown := G.2.2.1
  have hts := G.2.2.2.1
  have hN := G.2.2.2.2.2
  have hl : lv_has ls 4 [(0, .ref (b 0))] := hl
  unfold f_T_applyChanges at h
  refine lv_aload_n hx hb d_T_applyChanges_0 rfl (lv_at hl 0 rfl) ?_
  refine x_get (v := .int (x_S σ 4)) G V 0 0 4 x_w0 rfl in_T (by decide) k_T_26 rfl d_T_applyChanges_1 ?_
  refine lv_istore_n (lv' := [(1, .int (x_S σ 4)), (0, .ref (b 0))]) hx hb d_T_applyChanges_4 rfl hl (by decide) rfl (fun ls hl => ?_)
  refine lv_iconst (v := 0) hx hb d_T_applyChanges_5 (by decide) ?_
  refine lv_istore_n (lv' := [(2, .int (0)), (1, .int (x_S σ 4)), (0, .ref (b 0))]) hx hb d_T_applyChanges_6 rfl hl (by decide) rfl (fun ls hl => ?_)
  have lp7 : ∀ (u1 : Int32) (K : x_T → Option (Int32 × x_T)) (_ : ∀ (σ : x_T) (ad : Nat → Nat) (H : Heap) (locs : List Loc) (ls : Array Slot), K σ = some (r, σ') → lv_has ls 4 [(0, .ref (b 0)), (1, .int (u1))] → x_V D b ad cs σ A s.heap H locs → W p l e { frames := 6, cells := 8, slots := 96, locals := 138 } s m args below meth c H locs 8 96 (x_Ei below args s D b cs A 8 96 r σ') (F0 m 29 ls [])) (n j cl sl : Nat) (ad : Nat → Nat) (v2 : Int32) (σ : x_T) (H : Heap) (locs : List Loc) (ls : Array Slot), v2 = nI j → j ≤ 4 → cl ≤ 2 * j → sl ≤ 24 * j → f_T_applyChanges_L7 N u1 K n v2 σ = some (r, σ') → lv_has ls 4 [(0, .ref (b 0)), (1, .int (u1)), (2, .int (v2))] → x_V D b ad cs σ A s.heap H locs → W p l e { frames := 6, cells := 8, slots := 96, locals := 138 } s m args below meth c H locs cl sl (x_Ei below args s D b cs A 8 96 r σ') (F0 m 7 ls []) := by
    intro u1 K hK n
    induction n with
    | zero => intro j cl sl ad v2 σ H locs ls hv hj hcl hsl h hl V; cases h
    | succ n ih =>
      intro j cl sl ad v2 σ H locs ls hv hj hcl hsl h hl V
      rw [f_T_applyChanges_L7] at h
      refine lv_iload_n hx hb d_T_applyChanges_7 rfl (lv_at hl 2 rfl) ?_
      refine lv_aload_n hx hb d_T_applyChanges_8 rfl (lv_at hl 0 rfl) ?_
      refine x_get (v := .ref (b 5)) G V 0 0 8 x_w0 rfl in_T (by decide) k_T_41 rfl d_T_applyChanges_9 ?_
      refine x_getN (v := .int (x_S σ 21)) G V 5 2 1 x_w5 rfl in_B (by decide) k_T_99 rfl d_T_applyChanges_12 ?_
      refine lv_icmp_ge (tgt := 29) hx hb d_T_applyChanges_15 (by decide) (fun hc => ?_) (fun hc => ?_)
      · replace h := q_ifp hc h
        refine W.widen (k := 8) (n := 96) (by omega) (by omega) ?_
        exact hK _ _ _ _ ls h (lv_sub hl [0, 1] rfl) V
      · replace h := q_ifn hc h
        refine lv_aload_n hx hb d_T_applyChanges_18 rfl (lv_at hl 0 rfl) ?_
        refine lv_iload_n hx hb d_T_applyChanges_19 rfl (lv_at hl 2 rfl) ?_
        obtain ⟨s2, h1, h⟩ := q_bind h
        have hj4 : j < 4 := q_in_nI (by omega) (hv ▸ f_T_applyChange_in h1)
        refine x_dcV_v (As := [.int (v2)]) (rest := []) G V hml (c_T_applyChange l D b ad cs N σ v2 s2 h1) g_T_138 e_T_applyChange ⟨Nat.le_of_ble_eq_true rfl, Nat.le_of_ble_eq_true rfl⟩ ⟨rfl, rfl⟩ ⟨by show cl + 2 ≤ 8; omega, by show sl + 24 ≤ 96; omega⟩ rfl hl.1 rfl (Nat.le_of_ble_eq_true rfl) d_T_applyChanges_20 (fun ad3 H locs V => ?_)
        refine lv_iinc (k := 2) (v := v2 + 1) (lv' := [(2, .int (v2 + 1)), (0, .ref (b 0)), (1, .int (u1))]) hx hb d_T_applyChanges_23 hl rfl rfl (by decide) rfl (fun ls hl => ?_)
        refine lv_goto (tgt := 7) hx hb d_T_applyChanges_26 (by decide) ?_
        exact ih (j + 1) (cl + 2) (sl + 24) _ _ _ _ _ ls (by rw [hv]; exact (nI_succ j).symm) (by omega) (by omega) (by omega) h (lv_sub hl [1, 2, 0] rfl) V
  replace hl := lv_sub (l' := [(0, .ref (b 0)), (1, .int (x_S σ 4)), (2, .int (0))]) hl [2, 1, 0] rfl
  refine lp7 _ _ ?_ _ 0 0 0 _ _ _ _ _ ls nI_0.symm (by omega) (by omega) (by omega) h hl V
  intro t4 ad9 H locs ls h hl V
  refine lv_aload_n hx hb d_T_applyChanges_29 rfl (lv_at hl 0 rfl) ?_
  refine x_get (v := .int (x_S t4 4)) G V 0 0 4 x_w0 rfl in_T (by decide) k_T_26 rfl d_T_applyChanges_30 ?_
  refine lv_iload_n hx hb d_T_applyChanges_33 rfl (lv_at hl 1 rfl) ?_
  refine lv_isub hx hb d_T_applyChanges_34 ?_
  refine lv_istore_n (lv' := [(2, .int ((x_S t4 4) - (x_S σ 4))), (0, .ref (b 0)), (1, .int (x_S σ 4))]) hx hb d_T_applyChanges_35 rfl hl (by decide) rfl (fun ls hl => ?_)
  refine lv_aload_n hx hb d_T_applyChanges_36 rfl (lv_at hl 1 rfl) ?_
  refine lv_aload_n hx hb d_T_applyChanges_37 rfl (lv_at hl 1 rfl) ?_
  refine x_get (v := .ref (b 5)) G V 0 0 8 x_w0 rfl in_T (by decide) k_T_41 rfl d_T_applyChanges_38 ?_
  refine x_getN (v := .int (x_S t4 20)) G V 5 2 0 x_w5 rfl in_B (by decide) k_T_142 rfl d_T_applyChanges_41 ?_
  obtain ⟨r6, h5, h⟩ := q_bind h
  refine x_cV_i (As := [.int (x_S t4 20)]) (rest := []) G V hml (c_T_tabletOf l D b ad9 cs N t4 (x_S t4 20) r6 h5) 0 0 rfl x_w0 g_T_145 e_T_tabletOf ⟨Nat.le_of_ble_eq_true rfl, Nat.le_of_ble_eq_true rfl⟩ ⟨rfl, rfl⟩ ⟨Nat.le_of_ble_eq_true rfl, Nat.le_of_ble_eq_true rfl⟩ rfl hl.1 rfl (Nat.le_of_ble_eq_true rfl) d_T_applyChanges_44 (fun H locs V => ?_)
  refine lv_istore_n (lv' := [(3, .int (r6)), (2, .int ((x_S t4 4) - (x_S σ 4))), (0, .ref (b 0)), (1, .int (x_S σ 4))]) hx hb d_T_applyChanges_47 rfl hl (by decide) rfl (fun ls hl => ?_)
  refine lv_aload_n hx hb d_T_applyChanges_48 rfl (lv_at hl 2 rfl) ?_
  refine lv_iload_n hx hb d_T_applyChanges_49 rfl (lv_at hl 0 rfl) ?_
  refine lv_iconst (v := (-1)) hx hb d_T_applyChanges_50 (by decide) ?_
  obtain ⟨r8, h7, h⟩ := q_bind h
  refine x_cV_i (As := [.int (r6), .int ((-1))]) (rest := []) G V hml (c_T_entriesIn l D b ad9 cs N t4 r6 (-1) r8 h7) 0 0 rfl x_w0 g_T_149 e_T_entriesIn ⟨Nat.le_of_ble_eq_true rfl, Nat.le_of_ble_eq_true rfl⟩ ⟨rfl, rfl⟩ ⟨Nat.le_of_ble_eq_true rfl, Nat.le_of_ble_eq_true rfl⟩ rfl hl.1 rfl (Nat.le_of_ble_eq_true rfl) d_T_applyChanges_51 (fun H locs V => ?_)
  refine lv_bipush (v := 16) hx hb d_T_applyChanges_54 (by decide) ?_
  refine lv_icmp_lt (tgt := 65) hx hb d_T_applyChanges_56 (by decide) (fun hc => ?_) (fun hc => ?_)
  · replace h := q_ifp hc h
    refine lv_iload_n hx hb d_T_applyChanges_65 rfl (lv_at hl 1 rfl) ?_
    exact x_dret_i G hr hlk h V d_T_applyChanges_66
  · replace h := q_ifn hc h
    refine lv_aload_n hx hb d_T_applyChanges_59 rfl (lv_at hl 2 rfl) ?_
    refine lv_iload_n hx hb d_T_applyChanges_60 rfl (lv_at hl 0 rfl) ?_
    obtain ⟨q10, h9, h⟩ := q_bind h
    refine x_cV_i (As := [.int (r6)]) (rest := []) G V hml (c_T_flushTablet l D b ad9 cs N t4 r6 q10.1 q10.2 h9) 0 0 rfl x_w0 g_T_152 e_T_flushTablet ⟨Nat.le_of_ble_eq_true rfl, Nat.le_of_ble_eq_true rfl⟩ ⟨rfl, rfl⟩ ⟨Nat.le_of_ble_eq_true rfl, Nat.le_of_ble_eq_true rfl⟩ rfl hl.1 rfl (Nat.le_of_ble_eq_true rfl) d_T_applyChanges_61 (fun H locs V => ?_)
    refine lv_pop hx hb d_T_applyChanges_64 rfl ?_
    refine lv_iload_n hx hb d_T_applyChanges_65 rfl (lv_at hl 1 rfl) ?_
    exact x_dret_i G hr hlk h V d_T_applyChanges_66

set_option maxHeartbeats 40000000 in
set_option maxRecDepth 100000 in
theorem c_T_apply (l : Launch) (D : va_G) (b ad : Nat → Nat) (cs : Nat → ClassId) (N : Nat) (σ : x_T) (r : Int32) (σ' : x_T) (h : f_T_apply N σ = some (r, σ')) : x_Di l y_T_apply b_T_apply 2 (some .int) { frames := 7, cells := 8, slots := 96, locals := 161 } D b ad cs σ [.ref (b 0)] 8 96 r σ' := by
  refine x_dmet_i (own := R_T) (by decide) rfl (Nat.le_of_ble_eq_true rfl) ?_
  intro p e s m args below meth c A G hr hlk hml ls hl V
  have hx := G.1
  have hb := G.2.1
  have hown := G.2.2.1
  have hts := G.2.2.2.1
  have hN := G.2.2.2.2.2
  have hl : lv_has ls 2 [(0, .ref (b 0))] := hl
  unfold f_T_apply at h
  refine lv_aload_n hx hb d_T_apply_0 rfl (lv_at hl 0 rfl) ?_
  refine x_get (v := .ref (b 5)) G V 0 0 8 x_w0 rfl in_T (by decide) k_T_41 rfl d_T_apply_1 ?_
  refine x_getN (v := .int (x_S σ 21)) G V 5 2 1 x_w5 rfl in_B (by decide) k_T_99 rfl d_T_apply_4 ?_
  refine lv_if_ne (tgt := 12) hx hb d_T_apply_7 (by decide) (fun hc => ?_) (fun hc => ?_)
  · replace h := q_ifn hc h
    refine lv_aload_n hx hb d_T_apply_12 rfl (lv_at hl 0 rfl) ?_
    refine x_get (v := .int (x_S σ 4)) G V 0 0 4 x_w0 rfl in_T (by decide) k_T_26 rfl d_T_apply_13 ?_
    refine lv_sipush (v := 240) hx hb d_T_apply_16 (by decide) ?_
    refine lv_icmp_lt (tgt := 25) hx hb d_T_apply_19 (by decide) (fun hc => ?_) (fun hc => ?_)
    · replace h := q_ifp hc h
      refine lv_aload_n hx hb d_T_apply_25 rfl (lv_at hl 0 rfl) ?_
      refine x_get (v := .int (x_S σ 9)) G V 0 0 9 x_w0 rfl in_T (by decide) k_T_45 rfl d_T_apply_26 ?_
      refine lv_if_eq (tgt := 44) hx hb d_T_apply_29 (by decide) (fun hc => ?_) (fun hc => ?_)
      · replace h := q_ifp hc h
        refine lv_aload_n hx hb d_T_apply_44 rfl (lv_at hl 0 rfl) ?_
        obtain ⟨r2, h1, h⟩ := q_bind h
        refine x_cV_i (As := []) (rest := []) G V hml (c_T_isExpectationMet l D b ad cs N σ r2 h1) 0 0 rfl x_w0 g_T_105 e_T_isExpectationMet ⟨Nat.le_of_ble_eq_true rfl, Nat.le_of_ble_eq_true rfl⟩ ⟨rfl, rfl⟩ ⟨Nat.le_of_ble_eq_true rfl, Nat.le_of_ble_eq_true rfl⟩ rfl hl.1 rfl (Nat.le_of_ble_eq_true rfl) d_T_apply_45 (fun H locs V => ?_)
        refine lv_if_eq (tgt := 58) hx hb d_T_apply_48 (by decide) (fun hc => ?_) (fun hc => ?_)
        · replace h := q_ifp hc h
          refine lv_iconst (v := 0) hx hb d_T_apply_58 (by decide) ?_
          refine lv_istore_n (lv' := [(1, .int (0)), (0, .ref (b 0))]) hx hb d_T_apply_59 rfl hl (by decide) rfl (fun ls hl => ?_)
          refine lv_aload_n hx hb d_T_apply_60 rfl (lv_at hl 1 rfl) ?_
          refine x_get (v := .ref (b 5)) G V 0 0 8 x_w0 rfl in_T (by decide) k_T_41 rfl d_T_apply_61 ?_
          obtain ⟨s4, h3, h⟩ := q_bind h
          refine x_cN_v (As := []) (rest := []) G V hml (c_B_empty l D b ad cs N σ s4 h3) 5 2 rfl x_w5 k_co_B_empty k_T_113 k_in_B k_im_B_empty k_se_B_empty (e_B_empty).2 ⟨Nat.le_of_ble_eq_true rfl, Nat.le_of_ble_eq_true rfl⟩ ⟨rfl, rfl⟩ ⟨Nat.le_of_ble_eq_true rfl, Nat.le_of_ble_eq_true rfl⟩ rfl hl.1 rfl (Nat.le_of_ble_eq_true rfl) d_T_apply_64 (fun H locs V => ?_)
          refine lv_iload_n hx hb d_T_apply_67 rfl (lv_at hl 0 rfl) ?_
          refine W.widen (k := 8) (n := 96) (by decide) (by decide) ?_
          exact x_dret_i G hr hlk h V d_T_apply_68
        · replace h := q_ifn hc h
          refine lv_aload_n hx hb d_T_apply_51 rfl (lv_at hl 0 rfl) ?_
          obtain ⟨q6, h5, h⟩ := q_bind h
          refine x_dcV_i (As := []) (rest := []) G V hml (c_T_applyChanges l D b ad cs N σ q6.1 q6.2 h5) g_T_109 e_T_applyChanges ⟨Nat.le_of_ble_eq_true rfl, Nat.le_of_ble_eq_true rfl⟩ ⟨rfl, rfl⟩ ⟨Nat.le_of_ble_eq_true rfl, Nat.le_of_ble_eq_true rfl⟩ rfl hl.1 rfl (Nat.le_of_ble_eq_true rfl) d_T_apply_52 (fun ad7 H locs V => ?_)
          refine W.widen (k := 8) (n := 96) (by decide) (by decide) ?_
          refine lv_goto (tgt := 59) hx hb d_T_apply_55 (by decide) ?_
          refine lv_istore_n (lv' := [(1, .int (q6.1)), (0, .ref (b 0))]) hx hb d_T_apply_59 rfl hl (by decide) rfl (fun ls hl => ?_)
          refine lv_aload_n hx hb d_T_apply_60 rfl (lv_at hl 1 rfl) ?_
          refine x_get (v := .ref (b 5)) G V 0 0 8 x_w0 rfl in_T (by decide) k_T_41 rfl d_T_apply_61 ?_
          obtain ⟨s9, h8, h⟩ := q_bind h
          refine x_cN_v (As := []) (rest := []) G V hml (c_B_empty l D b ad7 cs N q6.2 s9 h8) 5 2 rfl x_w5 k_co_B_empty k_T_113 k_in_B k_im_B_empty k_se_B_empty (e_B_empty).2 ⟨Nat.le_of_ble_eq_true rfl, Nat.le_of_ble_eq_true rfl⟩ ⟨rfl, rfl⟩ ⟨Nat.le_of_ble_eq_true rfl, Nat.le_of_ble_eq_true rfl⟩ rfl hl.1 rfl (Nat.le_of_ble_eq_true rfl) d_T_apply_64 (fun H locs V => ?_)
          refine lv_iload_n hx hb d_T_apply_67 rfl (lv_at hl 0 rfl) ?_
          exact x_dret_i G hr hlk h V d_T_apply_68
      · replace h := q_ifn hc h
        refine lv_aload_n hx hb d_T_apply_32 rfl (lv_at hl 0 rfl) ?_
        refine lv_iconst (v := 0) hx hb d_T_apply_33 (by decide) ?_
        obtain ⟨s10, e10, h⟩ := q_let_h h
        refine x_put (σ' := s10) (ty := .boolean) G V 0 0 9 x_w0 rfl in_T tt_T_ok n_T (by decide) k_T_45 rfl rfl rfl rfl (Nat.le_of_ble_eq_true rfl) (x_uT9.trans (congrArg (x_W b ad cs) e10.symm)) d_T_apply_34 (fun H locs V => ?_)
        refine lv_aload_n hx hb d_T_apply_37 rfl (lv_at hl 0 rfl) ?_
        obtain ⟨s12, h11, h⟩ := q_bind h
        refine x_cV_v (As := []) (rest := []) G V hml (c_T_crash l D b ad cs N s10 s12 h11) 0 0 rfl x_w0 g_T_102 e_T_crash ⟨Nat.le_of_ble_eq_true rfl, Nat.le_of_ble_eq_true rfl⟩ ⟨rfl, rfl⟩ ⟨Nat.le_of_ble_eq_true rfl, Nat.le_of_ble_eq_true rfl⟩ rfl hl.1 rfl (Nat.le_of_ble_eq_true rfl) d_T_apply_38 (fun H locs V => ?_)
        refine lv_bipush (v := (-3)) hx hb d_T_apply_41 (by decide) ?_
        refine W.widen (k := 8) (n := 96) (by decide) (by decide) ?_
        exact x_dret_i G hr hlk h V d_T_apply_43
    · replace h := q_ifn hc h
      refine lv_bipush (v := (-2)) hx hb d_T_apply_22 (by decide) ?_
      refine W.widen (k := 8) (n := 96) (by decide) (by decide) ?_
      exact x_dret_i G hr hlk h V d_T_apply_24
  · replace h := q_ifp hc h
    refine lv_iconst (v := (-1)) hx hb d_T_apply_10 (by decide) ?_
    refine W.widen (k := 8) (n := 96) (by decide) (by decide) ?_
    exact x_dret_i G hr hlk h V d_T_apply_11
