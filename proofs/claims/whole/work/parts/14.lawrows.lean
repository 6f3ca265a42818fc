/-! Rows of the law: the class's world and the reference's side by side. Made by wip/whole/lawrows.py. -/
theorem q_Dl {A : Nat → Prop} {w1 w2 : va_W} (h : va_D A (w1 ++ w2)) : va_D A w1 := ⟨fun i j p q hi hj e => h.1 i j p q (by rw [List.getElem?_append_left (List.getElem?_eq_some_iff.mp hi).1]; exact hi) (by rw [List.getElem?_append_left (List.getElem?_eq_some_iff.mp hj).1]; exact hj) e, fun k q hk => h.2 k q (by rw [List.getElem?_append_left (List.getElem?_eq_some_iff.mp hk).1]; exact hk)⟩
theorem q_Dr {A : Nat → Prop} {w1 w2 : va_W} (h : va_D A (w1 ++ w2)) : va_D A w2 := ⟨fun i j p q hi hj e => by
    have := h.1 (w1.length + i) (w1.length + j) p q (by rw [List.getElem?_append_right (Nat.le_add_right _ _), Nat.add_sub_cancel_left]; exact hi) (by rw [List.getElem?_append_right (Nat.le_add_right _ _), Nat.add_sub_cancel_left]; exact hj) e
    omega, fun k q hk => h.2 (w1.length + k) q (by rw [List.getElem?_append_right (Nat.le_add_right _ _), Nat.add_sub_cancel_left]; exact hk)⟩
theorem q_Dx {A : Nat → Prop} {w1 w2 : va_W} (h : va_D A (w1 ++ w2)) {i j : Nat} {p q : Nat × va_E} (hi : w1[i]? = some p) (hj : w2[j]? = some q) : p.1 ≠ q.1 := fun e => by
  have h1 := (List.getElem?_eq_some_iff.mp hi).1
  have := h.1 i (w1.length + j) p q (by rw [List.getElem?_append_left h1]; exact hi) (by rw [List.getElem?_append_right (Nat.le_add_right _ _), Nat.add_sub_cancel_left]; exact hj) e
  omega
/-- what a callee over w1 leaves of w2, and both together -/
theorem q_beside {A : Nat → Prop} {D : va_G} {cl : List vw_C} {w1 w1' w2 : va_W} {H H1 : Heap} (hP2 : va_P D cl w2 H) (hD : va_D A (w1 ++ w2)) (hk : ∀ q : Nat, q < H.size → ¬ va_A w1 H.size q → H1[q]? = H[q]?) (hF : ∀ q, va_A w1 H.size q → A q) (hD1 : va_D (va_A w1 H.size) w1') : va_P D cl w2 H1 ∧ va_D A (w1' ++ w2) := by
  have ha : ∀ (k : Nat) (q : Nat × va_E), w2[k]? = some q → ¬ va_A w1 H.size q.1 := fun k q hq h => by
    rcases h with ⟨i, x, h⟩ | h
    · exact q_Dx hD h hq rfl
    · exact absurd (hP2 k q hq).lt (Nat.not_lt.mpr h)
  refine ⟨hP2.kept (fun k q hq => hk q.1 (hP2 k q hq).lt (ha k q hq)), va_D.app (hD1.weaken (fun k q _ h => hF q.1 h)) (q_Dr hD) (fun i j p q hi hj e => ?_)⟩
  have h1 := hD1.2 i p hi
  rw [e] at h1
  exact ha j q hj h1
theorem q_swap {A : Nat → Prop} {w1 w2 : va_W} (h : va_D A (w1 ++ w2)) : va_D A (w2 ++ w1) := va_D.app (q_Dr h) (q_Dl h) (fun i j p q hi hj e => q_Dx h hj hi e.symm)
def w_A (s : State) : Nat → Prop := fun q => s.heap.size ≤ q
def w_V (D : va_G) (b ad : Nat → Nat) (cs : Nat → ClassId) (σ : x_T) (b' : Nat → Nat) (τ : m_T) (s : State) (H : Heap) (locs : List Loc) : Prop := va_P D q_cl (x_W b ad cs σ) H ∧ va_P D q_cl (m_W b' cs τ) H ∧ va_D (w_A s) (x_W b ad cs σ ++ m_W b' cs τ) ∧ va_S (w_A s) s.heap H locs
section w_ROWS
variable {p : Program} {l : Launch} {e : Env} {R : Room} {s : State} {m : MethodId} {args : Array Value} {below : List Frame} {meth : Method} {c : Code} {H H0 : Heap} {locs : List Loc} {cells slots : Nat} {Q : State → Prop}
variable {cc bytes : ByteArray} {pc nL maxL mc ms : Nat} {ls : Array Slot} {rest st0 : List Value} {D : va_G} {A : Nat → Prop} {b b' ad : Nat → Nat} {cs : Nat → ClassId} {σ σ' : x_T} {τ τ' : m_T} {own : String} {y : MethodName} {rm : Room} {ret : Option FieldType} {as As : List Value} {a0 : Array Value}
theorem w_x (V : w_V D b ad cs σ b' τ s H locs) : x_V D b ad cs σ (w_A s) s.heap H locs := ⟨V.1, q_Dl V.2.2.1, V.2.2.2, fun q h => h⟩
theorem w_m (V : w_V D b ad cs σ b' τ s H locs) : m_V D b' cs τ (w_A s) s.heap H locs := ⟨V.2.1, q_Dr V.2.2.1, V.2.2.2, fun q h => h⟩
theorem w_cX_i {r : Int32} {n index : Nat} (G : q_G p s m args c cc own D cs) (V : w_V D b ad cs σ b' τ s H locs) (hml : c.maxLocals = nL) (hM : x_Ci l y bytes maxL ret rm D b ad cs σ (.ref (b 0) :: As) r σ') (hT : GoodIn q_ws (wsV own index R_T y (Cond.code y bytes maxL ret :: q_ws))) (hd : y.cls = R_T ∧ y.cls ≠ "java/lang/invoke/MethodHandle" ∧ y.cls ≠ "java/lang/invoke/VarHandle" ∧ (parseMethodDescriptor y.desc).map (fun d => d.parameters.length) = some n) (hR : rm.frames + 1 ≤ R.frames ∧ 8 + (maxL + 11) + rm.locals ≤ R.locals) (hrm : rm.cells = 0 ∧ rm.slots = 0) (hRc : cells + 0 ≤ R.cells ∧ slots + 0 ≤ R.slots) (hn : As.length = n) (hsz : ls.size = nL) (hst : st0 = As.reverse ++ .ref (b 0) :: rest) (hW : (rest.map fun v => v.category).sum ≤ 8) (hdg : decode cc pc = .ok (.invokevirtual index, 3)) (kk : ∀ (H1 : Heap) (locs1 : List Loc), w_V D b ad cs σ' b' τ s H1 locs1 → W p l e R s m args below meth c H1 locs1 cells slots Q (F0 m (pc + 3) ls (.int r :: rest))) : W p l e R s m args below meth c H locs cells slots Q (F0 m pc ls st0) := by
  have hFc := x_free (w_x V)
  refine va_calli (va_runV (As := As) (rest := rest) ⟨G.1, G.2.1, hml, G.2.2.1, G.2.2.2.1⟩ (hM H.size) (cwV n G.2.2.2.1 hT rfl hrm.1 hrm.2 hd hR) (x_preV G (w_x V) 0 0 rfl x_w0) rfl hn hsz hst (lv_room hW) hdg hRc) V.2.2.2 (fun q _ h => hFc q h) hFc (fun r' u t H1 locs1 ht hvm hp hB hz hk hS => ?_)
  obtain ⟨rfl, rfl⟩ := hp
  have h2 := q_beside V.2.1 V.2.2.1 hk hFc hB.2
  exact kk H1 locs1 ⟨by rw [← ht]; exact hB.1, h2.1, h2.2, hS⟩
theorem w_cM_i {r : Int32} {n index : Nat} (G : q_G p s m args c cc own D cs) (V : w_V D b ad cs σ b' τ s H locs) (hml : c.maxLocals = nL) (hM : m_Ci l y bytes maxL ret rm D b' cs τ (.ref (b' 0) :: As) r τ') (hT : GoodIn q_ws (wsV own index R_M y (Cond.code y bytes maxL ret :: q_ws))) (hd : y.cls = R_M ∧ y.cls ≠ "java/lang/invoke/MethodHandle" ∧ y.cls ≠ "java/lang/invoke/VarHandle" ∧ (parseMethodDescriptor y.desc).map (fun d => d.parameters.length) = some n) (hR : rm.frames + 1 ≤ R.frames ∧ 8 + (maxL + 11) + rm.locals ≤ R.locals) (hrm : rm.cells = 0 ∧ rm.slots = 0) (hRc : cells + 0 ≤ R.cells ∧ slots + 0 ≤ R.slots) (hn : As.length = n) (hsz : ls.size = nL) (hst : st0 = As.reverse ++ .ref (b' 0) :: rest) (hW : (rest.map fun v => v.category).sum ≤ 8) (hdg : decode cc pc = .ok (.invokevirtual index, 3)) (kk : ∀ (H1 : Heap) (locs1 : List Loc), w_V D b ad cs σ b' τ' s H1 locs1 → W p l e R s m args below meth c H1 locs1 cells slots Q (F0 m (pc + 3) ls (.int r :: rest))) : W p l e R s m args below meth c H locs cells slots Q (F0 m pc ls st0) := by
  have hFc := m_free (w_m V)
  refine va_calli (va_runV (As := As) (rest := rest) ⟨G.1, G.2.1, hml, G.2.2.1, G.2.2.2.1⟩ (hM H.size) (cwV n G.2.2.2.1 hT rfl hrm.1 hrm.2 hd hR) (m_preV G (w_m V) 0 4 rfl m_w0) rfl hn hsz hst (lv_room hW) hdg hRc) V.2.2.2 (fun q _ h => hFc q h) hFc (fun r' u t H1 locs1 ht hvm hp hB hz hk hS => ?_)
  obtain ⟨rfl, rfl⟩ := hp
  have h2 := q_beside V.1 (q_swap V.2.2.1) hk hFc hB.2
  exact kk H1 locs1 ⟨h2.1, by rw [← ht]; exact hB.1, q_swap h2.2, hS⟩
theorem w_cX_l {r : Int64} {n index : Nat} (G : q_G p s m args c cc own D cs) (V : w_V D b ad cs σ b' τ s H locs) (hml : c.maxLocals = nL) (hM : x_Cl l y bytes maxL ret rm D b ad cs σ (.ref (b 0) :: As) r σ') (hT : GoodIn q_ws (wsV own index R_T y (Cond.code y bytes maxL ret :: q_ws))) (hd : y.cls = R_T ∧ y.cls ≠ "java/lang/invoke/MethodHandle" ∧ y.cls ≠ "java/lang/invoke/VarHandle" ∧ (parseMethodDescriptor y.desc).map (fun d => d.parameters.length) = some n) (hR : rm.frames + 1 ≤ R.frames ∧ 8 + (maxL + 11) + rm.locals ≤ R.locals) (hrm : rm.cells = 0 ∧ rm.slots = 0) (hRc : cells + 0 ≤ R.cells ∧ slots + 0 ≤ R.slots) (hn : As.length = n) (hsz : ls.size = nL) (hst : st0 = As.reverse ++ .ref (b 0) :: rest) (hW : (rest.map fun v => v.category).sum ≤ 8) (hdg : decode cc pc = .ok (.invokevirtual index, 3)) (kk : ∀ (H1 : Heap) (locs1 : List Loc), w_V D b ad cs σ' b' τ s H1 locs1 → W p l e R s m args below meth c H1 locs1 cells slots Q (F0 m (pc + 3) ls (.long r :: rest))) : W p l e R s m args below meth c H locs cells slots Q (F0 m pc ls st0) := by
  have hFc := x_free (w_x V)
  refine va_calll (va_runV (As := As) (rest := rest) ⟨G.1, G.2.1, hml, G.2.2.1, G.2.2.2.1⟩ (hM H.size) (cwV n G.2.2.2.1 hT rfl hrm.1 hrm.2 hd hR) (x_preV G (w_x V) 0 0 rfl x_w0) rfl hn hsz hst (lv_room hW) hdg hRc) V.2.2.2 (fun q _ h => hFc q h) hFc (fun r' u t H1 locs1 ht hvm hp hB hz hk hS => ?_)
  obtain ⟨rfl, rfl⟩ := hp
  have h2 := q_beside V.2.1 V.2.2.1 hk hFc hB.2
  exact kk H1 locs1 ⟨by rw [← ht]; exact hB.1, h2.1, h2.2, hS⟩
theorem w_cM_l {r : Int64} {n index : Nat} (G : q_G p s m args c cc own D cs) (V : w_V D b ad cs σ b' τ s H locs) (hml : c.maxLocals = nL) (hM : m_Cl l y bytes maxL ret rm D b' cs τ (.ref (b' 0) :: As) r τ') (hT : GoodIn q_ws (wsV own index R_M y (Cond.code y bytes maxL ret :: q_ws))) (hd : y.cls = R_M ∧ y.cls ≠ "java/lang/invoke/MethodHandle" ∧ y.cls ≠ "java/lang/invoke/VarHandle" ∧ (parseMethodDescriptor y.desc).map (fun d => d.parameters.length) = some n) (hR : rm.frames + 1 ≤ R.frames ∧ 8 + (maxL + 11) + rm.locals ≤ R.locals) (hrm : rm.cells = 0 ∧ rm.slots = 0) (hRc : cells + 0 ≤ R.cells ∧ slots + 0 ≤ R.slots) (hn : As.length = n) (hsz : ls.size = nL) (hst : st0 = As.reverse ++ .ref (b' 0) :: rest) (hW : (rest.map fun v => v.category).sum ≤ 8) (hdg : decode cc pc = .ok (.invokevirtual index, 3)) (kk : ∀ (H1 : Heap) (locs1 : List Loc), w_V D b ad cs σ b' τ' s H1 locs1 → W p l e R s m args below meth c H1 locs1 cells slots Q (F0 m (pc + 3) ls (.long r :: rest))) : W p l e R s m args below meth c H locs cells slots Q (F0 m pc ls st0) := by
  have hFc := m_free (w_m V)
  refine va_calll (va_runV (As := As) (rest := rest) ⟨G.1, G.2.1, hml, G.2.2.1, G.2.2.2.1⟩ (hM H.size) (cwV n G.2.2.2.1 hT rfl hrm.1 hrm.2 hd hR) (m_preV G (w_m V) 0 4 rfl m_w0) rfl hn hsz hst (lv_room hW) hdg hRc) V.2.2.2 (fun q _ h => hFc q h) hFc (fun r' u t H1 locs1 ht hvm hp hB hz hk hS => ?_)
  obtain ⟨rfl, rfl⟩ := hp
  have h2 := q_beside V.1 (q_swap V.2.2.1) hk hFc hB.2
  exact kk H1 locs1 ⟨h2.1, by rw [← ht]; exact hB.1, q_swap h2.2, hS⟩
theorem w_cX_v {n index : Nat} (G : q_G p s m args c cc own D cs) (V : w_V D b ad cs σ b' τ s H locs) (hml : c.maxLocals = nL) (hM : x_Cv l y bytes maxL ret rm D b ad cs σ (.ref (b 0) :: As) σ') (hT : GoodIn q_ws (wsV own index R_T y (Cond.code y bytes maxL ret :: q_ws))) (hd : y.cls = R_T ∧ y.cls ≠ "java/lang/invoke/MethodHandle" ∧ y.cls ≠ "java/lang/invoke/VarHandle" ∧ (parseMethodDescriptor y.desc).map (fun d => d.parameters.length) = some n) (hR : rm.frames + 1 ≤ R.frames ∧ 8 + (maxL + 11) + rm.locals ≤ R.locals) (hrm : rm.cells = 0 ∧ rm.slots = 0) (hRc : cells + 0 ≤ R.cells ∧ slots + 0 ≤ R.slots) (hn : As.length = n) (hsz : ls.size = nL) (hst : st0 = As.reverse ++ .ref (b 0) :: rest) (hW : (rest.map fun v => v.category).sum ≤ 8) (hdg : decode cc pc = .ok (.invokevirtual index, 3)) (kk : ∀ (H1 : Heap) (locs1 : List Loc), w_V D b ad cs σ' b' τ s H1 locs1 → W p l e R s m args below meth c H1 locs1 cells slots Q (F0 m (pc + 3) ls rest)) : W p l e R s m args below meth c H locs cells slots Q (F0 m pc ls st0) := by
  have hFc := x_free (w_x V)
  refine va_callv (va_runV (As := As) (rest := rest) ⟨G.1, G.2.1, hml, G.2.2.1, G.2.2.2.1⟩ (hM H.size) (cwV n G.2.2.2.1 hT rfl hrm.1 hrm.2 hd hR) (x_preV G (w_x V) 0 0 rfl x_w0) rfl hn hsz hst (lv_room hW) hdg hRc) V.2.2.2 (fun q _ h => hFc q h) hFc (fun u t H1 locs1 ht hvm hp hB hz hk hS => ?_)
  subst hp
  have h2 := q_beside V.2.1 V.2.2.1 hk hFc hB.2
  exact kk H1 locs1 ⟨by rw [← ht]; exact hB.1, h2.1, h2.2, hS⟩
theorem w_cM_v {n index : Nat} (G : q_G p s m args c cc own D cs) (V : w_V D b ad cs σ b' τ s H locs) (hml : c.maxLocals = nL) (hM : m_Cv l y bytes maxL ret rm D b' cs τ (.ref (b' 0) :: As) τ') (hT : GoodIn q_ws (wsV own index R_M y (Cond.code y bytes maxL ret :: q_ws))) (hd : y.cls = R_M ∧ y.cls ≠ "java/lang/invoke/MethodHandle" ∧ y.cls ≠ "java/lang/invoke/VarHandle" ∧ (parseMethodDescriptor y.desc).map (fun d => d.parameters.length) = some n) (hR : rm.frames + 1 ≤ R.frames ∧ 8 + (maxL + 11) + rm.locals ≤ R.locals) (hrm : rm.cells = 0 ∧ rm.slots = 0) (hRc : cells + 0 ≤ R.cells ∧ slots + 0 ≤ R.slots) (hn : As.length = n) (hsz : ls.size = nL) (hst : st0 = As.reverse ++ .ref (b' 0) :: rest) (hW : (rest.map fun v => v.category).sum ≤ 8) (hdg : decode cc pc = .ok (.invokevirtual index, 3)) (kk : ∀ (H1 : Heap) (locs1 : List Loc), w_V D b ad cs σ b' τ' s H1 locs1 → W p l e R s m args below meth c H1 locs1 cells slots Q (F0 m (pc + 3) ls rest)) : W p l e R s m args below meth c H locs cells slots Q (F0 m pc ls st0) := by
  have hFc := m_free (w_m V)
  refine va_callv (va_runV (As := As) (rest := rest) ⟨G.1, G.2.1, hml, G.2.2.1, G.2.2.2.1⟩ (hM H.size) (cwV n G.2.2.2.1 hT rfl hrm.1 hrm.2 hd hR) (m_preV G (w_m V) 0 4 rfl m_w0) rfl hn hsz hst (lv_room hW) hdg hRc) V.2.2.2 (fun q _ h => hFc q h) hFc (fun u t H1 locs1 ht hvm hp hB hz hk hS => ?_)
  subst hp
  have h2 := q_beside V.1 (q_swap V.2.2.1) hk hFc hB.2
  exact kk H1 locs1 ⟨h2.1, by rw [← ht]; exact hB.1, q_swap h2.2, hS⟩
theorem w_dX_i {r : Int32} {n index : Nat} (G : q_G p s m args c cc own D cs) (V : w_V D b ad cs σ b' τ s H locs) (hml : c.maxLocals = nL) (hM : x_Di l y bytes maxL ret rm D b ad cs σ (.ref (b 0) :: As) mc ms r σ') (hT : GoodIn q_ws (wsV own index R_T y (Cond.code y bytes maxL ret :: q_ws))) (hd : y.cls = R_T ∧ y.cls ≠ "java/lang/invoke/MethodHandle" ∧ y.cls ≠ "java/lang/invoke/VarHandle" ∧ (parseMethodDescriptor y.desc).map (fun d => d.parameters.length) = some n) (hR : rm.frames + 1 ≤ R.frames ∧ 8 + (maxL + 11) + rm.locals ≤ R.locals) (hrm : rm.cells = mc ∧ rm.slots = ms) (hRc : cells + mc ≤ R.cells ∧ slots + ms ≤ R.slots) (hn : As.length = n) (hsz : ls.size = nL) (hst : st0 = As.reverse ++ .ref (b 0) :: rest) (hW : (rest.map fun v => v.category).sum ≤ 8) (hdg : decode cc pc = .ok (.invokevirtual index, 3)) (kk : ∀ (ad1 : Nat → Nat) (H1 : Heap) (locs1 : List Loc), w_V D b ad1 cs σ' b' τ s H1 locs1 → W p l e R s m args below meth c H1 locs1 (cells + mc) (slots + ms) Q (F0 m (pc + 3) ls (.int r :: rest))) : W p l e R s m args below meth c H locs cells slots Q (F0 m pc ls st0) := by
  have hFc := x_free (w_x V)
  refine va_calli (va_runV (As := As) (rest := rest) ⟨G.1, G.2.1, hml, G.2.2.1, G.2.2.2.1⟩ (hM H.size) (cwV n G.2.2.2.1 hT rfl hrm.1 hrm.2 hd hR) (x_preV G (w_x V) 0 0 rfl x_w0) rfl hn hsz hst (lv_room hW) hdg hRc) V.2.2.2 (fun q _ h => hFc q h) hFc (fun r' u t H1 locs1 ht hvm hp hB hz hk hS => ?_)
  obtain ⟨rfl, rfl⟩ := hp
  have h2 := q_beside V.2.1 V.2.2.1 hk hFc hB.2
  exact kk u.1 H1 locs1 ⟨by rw [← ht]; exact hB.1, h2.1, h2.2, hS⟩
end w_ROWS
theorem q_Pl {D : va_G} {cl : List vw_C} {w1 w2 : va_W} {H : Heap} (h : va_P D cl (w1 ++ w2) H) : va_P D cl w1 H := fun k q hk => h k q (by rw [List.getElem?_append_left (List.getElem?_eq_some_iff.mp hk).1]; exact hk)
theorem q_Pr {D : va_G} {cl : List vw_C} {w1 w2 : va_W} {H : Heap} (h : va_P D cl (w1 ++ w2) H) : va_P D cl w2 H := fun k q hk => h (w1.length + k) q (by rw [List.getElem?_append_right (Nat.le_add_right _ _), Nat.add_sub_cancel_left]; exact hk)
def q_cellv (L : Nat) (xs : Nat → Int32) (k : Int32) : Int32 := if nI L ≤ k then 0 else xs k.toNatClampNeg
def q_CX (b L : Nat) (xs : Nat → Int32) (U : State) : Prop := va_X b L xs U U.heap ∧ b < U.heap.size ∧ q_Ns U
theorem c_L_cell (l : Launch) (b L : Nat) (xs : Nat → Int32) (hL : L < 2 ^ 31) (j : Nat) (hj : j < 4) : Met l y_L_cell (Cond.code y_L_cell b_L_cell 2 (some .int) :: q_ws) { frames := 0, cells := 0, slots := 0, locals := 0 } (va_Pc [.ref b, .int (nI j)] (q_CX b L xs)) (q_Si (q_cellv L xs (nI j))) 0 0 (fun _ => False) := by
  refine Met.ofW (cc := b_L_cell) (maxL := 2) (ret := some .int) (by decide) rfl ?_
  intro p e s m args below meth c s₁ B hml hv
  obtain ⟨rfl, hX, hbl, hN⟩ := hv
  have hx := B.exec
  have hb := B.bytes
  have hr := B.returns
  have hlk := B.notSynchronized
  have hl := lv_entry ([.ref b, .int (nI j)]) (n := 2) (Nat.le_of_ble_eq_true rfl)
  rw [lg_entry_eq]
  generalize (lg_sl ([.ref b, .int (nI j)]) ++ List.replicate (2 - (lg_sl ([.ref b, .int (nI j)])).length) Slot.unset).toArray = ls at hl ⊢
  have hl : lv_has ls 2 [(0, .ref b), (1, .int (nI j))] := hl
  have hS : va_S (fun _ => False) s.heap s.heap [] := va_S.rf
  refine lv_iload_n hx hb d_L_cell_0 rfl (lv_at hl 1 rfl) ?_
  refine lv_aload_n hx hb d_L_cell_1 rfl (lv_at hl 0 rfl) ?_
  refine va_slen hx hb hX hbl (fun q => q) hS d_L_cell_2 ?_
  refine lv_icmp_ge (tgt := 12) hx hb d_L_cell_3 (by decide) (fun hc => ?_) (fun hc => ?_)
  · refine lv_iconst (v := 0) hx hb d_L_cell_12 (by decide) ?_
    exact W.iret hx hb hr (fun t ht hW => ⟨by rw [show q_cellv L xs (nI j) = 0 from if_pos hc], ht⟩) (fun q h => by cases h) d_L_cell_13 hlk
  · have hlt : j < L := Nat.not_le.mp (fun q => hc ((nI_leI hL (by omega)).mpr q))
    refine lv_aload_n hx hb d_L_cell_6 rfl (lv_at hl 0 rfl) ?_
    refine lv_iload_n hx hb d_L_cell_7 rfl (lv_at hl 1 rfl) ?_
    refine va_sld hx hb hX hbl (fun q => q) hS (vp_in_nI hlt hL) d_L_cell_8 ?_
    refine lv_goto (tgt := 13) hx hb d_L_cell_9 (by decide) ?_
    exact W.iret hx hb hr (fun t ht hW => ⟨by rw [show q_cellv L xs (nI j) = xs (nI j).toNatClampNeg from if_neg hc], ht⟩) (fun q h => by cases h) d_L_cell_13 hlk
section l_ROWS
variable {p : Program} {l : Launch} {e : Env} {R : Room} {s : State} {m : MethodId} {args : Array Value} {below : List Frame} {meth : Method} {c : Code} {H H0 : Heap} {locs : List Loc} {cells slots : Nat} {Q : State → Prop}
variable {cc bytes : ByteArray} {pc nL : Nat} {ls : Array Slot} {rest st0 : List Value} {D : va_G} {cs : Nat → ClassId}
theorem l_cell {b L : Nat} {xs : Nat → Int32} (hL : L < 2 ^ 31) (G : q_G p s m args c cc R_L D cs) (hml : c.maxLocals = nL) (hX : va_X b L xs s s.heap) (hbl : b < s.heap.size) (hS : va_S (w_A s) s.heap H locs) (j : Nat) (hj : j < 4) {v : Int32} (hv : v = nI j) (hR : 1 ≤ R.frames ∧ 21 ≤ R.locals) (hRc : cells ≤ R.cells ∧ slots ≤ R.slots) (hsz : ls.size = nL) (hW : (rest.map fun v => v.category).sum ≤ 8) (hdg : decode cc pc = .ok (.invokestatic 9, 3)) (kk : W p l e R s m args below meth c H locs cells slots Q (F0 m (pc + 3) ls (.int (q_cellv L xs (nI j)) :: rest))) : W p l e R s m args below meth c H locs cells slots Q (F0 m pc ls (.int v :: .ref b :: rest)) := by
  subst hv
  have hX2 : va_X b L xs s H := hX.kept (hS.2.1 b hbl (Nat.not_le.mpr hbl))
  refine q_run_i (va_runS (As := [.ref b, .int (nI j)]) (rest := rest) ⟨G.1, G.2.1, hml, G.2.2.1, G.2.2.2.1⟩ (c_L_cell l b L xs hL j hj) (cwS 2 G.2.2.2.1 g_L_9 rfl rfl rfl e_L_cell ⟨hR.1, hR.2⟩) ⟨fun a U g mk q => ⟨q.1, va_X.moved (u := U) (U := U.calling g mk a) (Vm.Alike.refl U.vm) q.2.1, q.2.2.1, q_Ns.same (u := U) (U := U.calling g mk a) rfl q.2.2.2⟩, fun U hU hW => ⟨rfl, by rw [hU]; exact va_X.moved hW.alike hX2, by rw [hU]; exact Nat.lt_of_lt_of_le hbl hS.1, G.2.2.2.2.2.warm hW⟩⟩ rfl rfl hsz rfl (lv_room hW) hdg hRc) kk
end l_ROWS
/-- the tables' classes and array classes, as the worlds name them -/
theorem l_known {args : Array Value} {s : State} (hts : ∀ w ∈ lw_tbl, w.before args s = true) : ∃ (D : va_G) (cs : Nat → ClassId), va_K D q_cl (q_tys cs) s ∧ q_Ns s ∧ ∀ w ∈ q_ws, w.before args s = true := by
  have ht : ∀ w ∈ q_ws, w.before args s = true := fun w hw => hts w (List.mem_filter.mp hw).1
  obtain ⟨c0, i0, h0⟩ := u_known ht in_T (ht _ k_ii_T)
  obtain ⟨c1, i1, h1⟩ := u_known ht in_E (ht _ k_ii_E)
  obtain ⟨c2, i2, h2⟩ := u_known ht in_B (ht _ k_ii_B)
  obtain ⟨c3, i3, h3⟩ := u_known ht in_S (ht _ k_ii_S)
  obtain ⟨c4, i4, h4⟩ := u_known ht in_M (ht _ k_ii_M)
  obtain ⟨e0, k0, p0, f0, f1, f2⟩ := Cond.arrayClass_spec (ht _ k_ac_int)
  obtain ⟨e1, k1, p1, g0, g1, g2⟩ := Cond.arrayClass_spec (ht _ k_ac_long)
  obtain ⟨e2, k2, p2, u0, u1, u2⟩ := Cond.arrayClass_spec (ht _ k_ac_boolean)
  obtain ⟨p3, e3, k3, v0, v1, v2, v3, v4⟩ := Cond.arrayOver_spec (hts _ k_ao_E)
  refine ⟨(fun k => match k with | 0 => c0 | 1 => c1 | 2 => c2 | 3 => c3 | _ => c4, fun k => match k with | 0 => i0 | 1 => i1 | 2 => i2 | 3 => i3 | _ => i4), fun k => match k with | 0 => e0 | 1 => e1 | 2 => e2 | _ => e3, ⟨fun k q hk => ?_, fun k q hk => ?_⟩, ⟨fun w hw hn => ?_, va_AO.of (hts _ k_ao_E)⟩, ht⟩
  · match k, hk with
    | 0, hk => cases hk; exact h0
    | 1, hk => cases hk; exact h1
    | 2, hk => cases hk; exact h2
    | 3, hk => cases hk; exact h3
    | 4, hk => cases hk; exact h4
    | k + 5, hk => cases hk
  · match k, hk with
    | 0, hk => cases hk; exact ⟨fun n z => ⟨fun k h => (by cases h), k0, f1, p0, f2⟩, f0⟩
    | 1, hk => cases hk; exact ⟨fun n z => ⟨fun k h => (by cases h), k1, g1, p1, g2⟩, g0⟩
    | 2, hk => cases hk; exact ⟨fun n z => ⟨fun k h => (by cases h), k2, u1, p2, u2⟩, u0⟩
    | 3, hk => cases hk; exact ⟨fun n z => ⟨fun k h => (by cases h), k3, v2, p3, v3⟩, k3, p3, v2, v3, v0, v4⟩
    | k + 4, hk => cases hk
  · have h9 := hts w hw
    clear hw
    cases w <;> first | (exact Bool.noConfusion hn) | exact va_Nw.of rfl h9
def s_put (Rel : Nat → x_T → m_T → Prop) : Prop := ∀ (j : Nat) (σ : x_T) (τ : m_T), j < 512 → Rel j σ τ → ∀ a1 a2 a3 a4 : Int32, ∃ r σ' τ', f_T_put 1000 σ a1 a2 a3 a4 = some (r, σ') ∧ f_M_put 1000 τ a1 a2 a3 a4 = some (r, τ') ∧ Rel (j + 1) σ' τ'
def s_erase (Rel : Nat → x_T → m_T → Prop) : Prop := ∀ (j : Nat) (σ : x_T) (τ : m_T), j < 512 → Rel j σ τ → ∀ a1 a2 a3 : Int32, ∃ r σ' τ', f_T_erase 1000 σ a1 a2 a3 = some (r, σ') ∧ f_M_erase 1000 τ a1 a2 a3 = some (r, τ') ∧ Rel (j + 1) σ' τ'
def s_expect (Rel : Nat → x_T → m_T → Prop) : Prop := ∀ (j : Nat) (σ : x_T) (τ : m_T), j < 512 → Rel j σ τ → ∀ a1 a2 a3 a4 : Int32, (a3 = 0 ∨ a3 = 1) → ∃ r σ' τ', f_T_expect 1000 σ a1 a2 a3 a4 = some (r, σ') ∧ f_M_expect 1000 τ a1 a2 a3 a4 = some (r, τ') ∧ Rel (j + 1) σ' τ'
def s_apply (Rel : Nat → x_T → m_T → Prop) : Prop := ∀ (j : Nat) (σ : x_T) (τ : m_T), j < 512 → Rel j σ τ → ∃ r σ' τ', f_T_apply 1000 σ = some (r, σ') ∧ f_M_apply 1000 τ = some (r, τ') ∧ Rel (j + 1) σ' τ'
def s_tear (Rel : Nat → x_T → m_T → Prop) : Prop := ∀ (j : Nat) (σ : x_T) (τ : m_T), j < 512 → Rel j σ τ → ∃ σ' τ', f_T_tear 1000 σ = some σ' ∧ f_M_tear 1000 τ = some τ' ∧ Rel (j + 1) σ' τ'
def s_crash (Rel : Nat → x_T → m_T → Prop) : Prop := ∀ (j : Nat) (σ : x_T) (τ : m_T), j < 512 → Rel j σ τ → ∃ σ' τ', f_T_crash 1000 σ = some σ' ∧ f_M_crash 1000 τ = some τ' ∧ Rel (j + 1) σ' τ'
def s_tick (Rel : Nat → x_T → m_T → Prop) : Prop := ∀ (j : Nat) (σ : x_T) (τ : m_T), j < 512 → Rel j σ τ → ∀ a1 : Int32, ∃ r σ' τ', f_T_tick 1000 σ a1 = some (r, σ') ∧ f_M_tick 1000 τ a1 = some (r, τ') ∧ Rel (j + 1) σ' τ'
def s_get (Rel : Nat → x_T → m_T → Prop) : Prop := ∀ (j : Nat) (σ : x_T) (τ : m_T), j < 512 → Rel j σ τ → ∀ a1 a2 a3 a4 : Int32, ∃ r σ' τ', f_T_get 1000 σ a1 a2 a3 a4 = some (r, σ') ∧ f_M_get 1000 τ a1 a2 a3 a4 = some (r, τ') ∧ Rel (j + 1) σ' τ'
def s_scan (Rel : Nat → x_T → m_T → Prop) : Prop := ∀ (j : Nat) (σ : x_T) (τ : m_T), j < 512 → Rel j σ τ → ∀ a1 a2 a3 a4 a5 : Int32, ∃ r σ' τ', f_T_scan 1000 σ a1 a2 a3 a4 a5 = some (r, σ') ∧ f_M_scan 1000 τ a1 a2 a3 a4 a5 = some (r, τ') ∧ Rel (j + 1) σ' τ'
def s_found (Rel : Nat → x_T → m_T → Prop) : Prop := ∀ (j : Nat) (σ : x_T) (τ : m_T), j < 512 → Rel j σ τ → ∀ a1 : Int32, ∃ r, f_T_found 1000 σ a1 = some r ∧ f_M_found 1000 τ a1 = some r
def s_flush (Rel : Nat → x_T → m_T → Prop) : Prop := ∀ (j : Nat) (σ : x_T) (τ : m_T), j < 512 → Rel j σ τ → ∀ a1 : Int32, ∃ r σ' τ', f_T_flush 1000 σ a1 = some (r, σ') ∧ f_M_flush 1000 τ a1 = some (r, τ') ∧ Rel (j + 1) σ' τ'
def s_compact (Rel : Nat → x_T → m_T → Prop) : Prop := ∀ (j : Nat) (σ : x_T) (τ : m_T), j < 512 → Rel j σ τ → ∀ a1 a2 : Int32, ∃ r σ' τ', f_T_compact 1000 σ a1 a2 = some (r, σ') ∧ f_M_compact 1000 τ a1 a2 = some (r, τ') ∧ Rel (j + 1) σ' τ'
def s_major (Rel : Nat → x_T → m_T → Prop) : Prop := ∀ (j : Nat) (σ : x_T) (τ : m_T), j < 512 → Rel j σ τ → ∀ a1 : Int32, ∃ r σ' τ', f_T_major 1000 σ a1 = some (r, σ') ∧ f_M_major 1000 τ a1 = some (r, τ') ∧ Rel (j + 1) σ' τ'
def s_split (Rel : Nat → x_T → m_T → Prop) : Prop := ∀ (j : Nat) (σ : x_T) (τ : m_T), j < 512 → Rel j σ τ → ∀ a1 a2 : Int32, ∃ r σ' τ', f_T_split 1000 σ a1 a2 = some (r, σ') ∧ f_M_split 1000 τ a1 a2 = some (r, τ') ∧ Rel (j + 1) σ' τ'
def s_join (Rel : Nat → x_T → m_T → Prop) : Prop := ∀ (j : Nat) (σ : x_T) (τ : m_T), j < 512 → Rel j σ τ → ∀ a1 : Int32, ∃ r σ' τ', f_T_join 1000 σ a1 = some (r, σ') ∧ f_M_join 1000 τ a1 = some (r, τ') ∧ Rel (j + 1) σ' τ'
def s_tablet (Rel : Nat → x_T → m_T → Prop) : Prop := ∀ (j : Nat) (σ : x_T) (τ : m_T), j < 512 → Rel j σ τ → ∀ a1 a2 : Int32, ∃ r, f_T_tablet 1000 σ a1 a2 = some r ∧ f_M_tablet 1000 τ a1 a2 = some r
def s_table (Rel : Nat → x_T → m_T → Prop) : Prop := ∀ (j : Nat) (σ : x_T) (τ : m_T), j < 512 → Rel j σ τ → ∀ a1 a2 a3 : Int32, ∃ r, f_T_table 1000 σ a1 a2 a3 = some r ∧ f_M_table 1000 τ a1 a2 a3 = some r
def s_log (Rel : Nat → x_T → m_T → Prop) : Prop := ∀ (j : Nat) (σ : x_T) (τ : m_T), j < 512 → Rel j σ τ → ∃ r, f_T_log 1000 σ = some r ∧ f_M_log 1000 τ = some r
def s_looked (Rel : Nat → x_T → m_T → Prop) : Prop := ∀ (j : Nat) (σ : x_T) (τ : m_T), j < 512 → Rel j σ τ → ∃ r, f_T_looked 1000 σ = some r ∧ f_M_looked 1000 τ = some r
def s_mono (Rel : Nat → x_T → m_T → Prop) : Prop := ∀ (j : Nat) (σ : x_T) (τ : m_T), Rel j σ τ → Rel (j + 1) σ τ
def s_init (Rel : Nat → x_T → m_T → Prop) : Prop := ∀ a1 a2 a3 a4 : Int32, ∃ r1 r2 r3 r4, f_T_nearest a1 5 = some r1 ∧ f_T_nearest a2 9999 = some r2 ∧ f_T_nearest a3 5 = some r3 ∧ f_T_nearest a4 9999 = some r4 ∧ f_M_nearest a1 5 = some r1 ∧ f_M_nearest a2 9999 = some r2 ∧ f_M_nearest a3 5 = some r3 ∧ f_M_nearest a4 9999 = some r4 ∧ Rel 0 (x_init r1 r2 r3 r4) (m_init r1 r3 r2 r4)
def s_all (Rel : Nat → x_T → m_T → Prop) : Prop := s_init Rel ∧ s_mono Rel ∧ s_put Rel ∧ s_erase Rel ∧ s_expect Rel ∧ s_apply Rel ∧ s_tear Rel ∧ s_crash Rel ∧ s_tick Rel ∧ s_get Rel ∧ s_scan Rel ∧ s_found Rel ∧ s_flush Rel ∧ s_compact Rel ∧ s_major Rel ∧ s_split Rel ∧ s_join Rel ∧ s_tablet Rel ∧ s_table Rel ∧ s_log Rel ∧ s_looked Rel
-- ===== end of PART A; then your names; then what follows =====
/-! THE CLAIM OUT OF ONE WALK OF THE LAW'S BODY. Your part is whole_start (and what it stands on); all else here is the same for every law, but numbers. -/
def R_law : String := "TabletCellsLaw"
def lw_P (b : Addr) (xs : List Int32) (args : Array Value) (s : State) : Prop := args = #[.ref b] ∧ s.IntsAt b xs ∧ xs.length ≤ 3076 ∧ (Jvm.Cond.and given_1 narrow_1).before args s = true
def lw_Q (_ : Array Value) (s : State) (o : Outcome) (t : State) : Prop := o = .returned (some (.int 1)) ∧ Framed s o t [] 600000 7302250
def lw_Z (below : List Frame) (a : Array Value) (s : State) : State → Prop := fun t => ∃ o, t.status = .running ∧ Ended t below o ∧ lw_Q a s o t
/-- the law's own end, with 1 on the stack, nothing written that was there before, its room as the claim has it -/
theorem lw_ret {p : Program} {l : Launch} {e : Env} {s : State} {m : MethodId} {below : List Frame} {meth : Method} {c : Code} {b : Nat} (hx : p.tables.exec = Jvm.exec) (hb : c.code = code) (hr : meth.sig.returnType = ret) (hlocks : meth.locks = false) {pc : Nat} {H : Heap} {ls : Array Slot} (hdg : decode code pc = .ok (.ireturn, 1)) : W p l e room_1 s m #[Value.ref b] below meth c H [] 600000 7302250 (lw_Z below #[Value.ref b] s) (F0 m pc ls [.int 1]) := by
  intro T hT X
  obtain ⟨fs, hret, hrun, hended, hW, hframe⟩ := X.leave (v := some (.int 1)) (hlocks := hlocks) (fun h => by rw [hr] at h; cases h)
  have hmeth' : T.vm.method? m = some meth := X.method'
  refine ⟨T.setFrames fs, ?_, .returned (some (.int 1)), hrun, hended, rfl, ⟨_, rfl⟩, hW, hframe⟩
  jvm_step X.here [X.here.top, hx, hb, hdg, hmeth', hr, ret, narrow_b1]
  (try refine ⟨rfl, ?_⟩); (try refine ⟨rfl, ?_⟩)
  first | (intro acts; rw [hret _ acts rfl rfl rfl]) | rw [hret _ _ rfl rfl rfl]
  exact Steps.refl _
/-- what holds at the law's entry: the machine, the code, the tables' words (any of lw_tbl by 'hts w (by decide +kernel)'), the script of L ints xs at the cell b, what the Statement gives of the start (any of its parts by flat_of_before) -/
def lw_At (p : Program) (s : State) (m : MethodId) (meth : Method) (c : Code) (b L : Nat) (xs : Nat → Int32) : Prop :=
  p.tables.exec = Jvm.exec ∧ c.code = code ∧ meth.sig.returnType = ret ∧ c.maxLocals = 4 ∧ s.vm.findClass R_law = some m.cls ∧ (∀ w ∈ lw_tbl, w.before #[Value.ref b] s = true) ∧ va_X b L xs s s.heap ∧ b < s.heap.size ∧ meth.locks = false ∧ (Jvm.Cond.and given_1 narrow_1).before #[Value.ref b] s = true
