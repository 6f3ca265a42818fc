/-! Rows for methods that make entries. Made by wip/whole/alloc.py. -/
noncomputable def q_gp {α : Type} (P : Prop) (x : Option α) : Option α := @ite _ P (Classical.propDecidable P) x none
theorem q_gp_h {α : Type} {P : Prop} {x : Option α} {y : α} (h : q_gp P x = some y) : P ∧ x = some y := by
  unfold q_gp at h
  by_cases hp : P
  · rw [if_pos hp] at h; exact ⟨hp, h⟩
  · rw [if_neg hp] at h; cases h
theorem q_gp_of {α : Type} {P : Prop} {x : Option α} (hp : P) : q_gp P x = x := by
  unfold q_gp
  rw [if_pos hp]
def x_ok (σ : x_T) : Prop := ∀ j k : Nat, x_E σ j = some k → k < x_N σ
theorem x_grow {b ad : Nat → Nat} {cs : Nat → ClassId} {σ : x_T} {q : Nat} (h : x_ok σ) : x_W b ad cs σ ++ [(q, .inr (1, x_fE (fun _ => 0)))] = x_W b (va_up ad (x_N σ) q) cs (x_sN σ) := by
  have e1 : (fun j => (x_E σ j).map ad) = fun j => (x_E (x_sN σ) j).map (va_up ad (x_N σ) q) := by
    funext j
    show (x_E σ j).map ad = (x_E σ j).map (va_up ad (x_N σ) q)
    cases hj : x_E σ j with
    | none => rfl
    | some k =>
      show some (ad k) = some (if k = x_N σ then q else ad k)
      rw [if_neg (Nat.ne_of_lt (h j k hj))]
  have e2 : x_X b ad cs σ = x_X b (va_up ad (x_N σ) q) cs (x_sN σ) := by
    unfold x_X
    rw [e1]
    rfl
  have e3 : x_pl ad σ ++ [(q, .inr (1, x_fE (fun _ => 0)))] = x_pl (va_up ad (x_N σ) q) (x_sN σ) := by
    unfold x_pl
    show _ = (List.range (x_N σ + 1)).map _
    rw [List.range_succ, List.map_append]
    refine congr (congrArg HAppend.hAppend (List.map_congr_left (fun k hk => ?_))) ?_
    · have hk : k < x_N σ := List.mem_range.mp hk
      show _ = ((if k = x_N σ then q else ad k), Sum.inr (1, x_fE (if k = x_N σ then _ else _)))
      rw [if_neg (Nat.ne_of_lt hk), if_neg (Nat.ne_of_lt hk)]
      rfl
    · show _ = [((if x_N σ = x_N σ then q else ad (x_N σ)), Sum.inr (1, x_fE (if x_N σ = x_N σ then _ else _)))]
      rw [if_pos rfl, if_pos rfl]
  unfold x_W
  rw [List.append_assoc, e3, e2]
def x_At2 (D : va_G) (b : Nat → Nat) (cs : Nat → ClassId) (A : Nat → Prop) (u : (Nat → Nat) × x_T) (U : State) : Prop := va_P D q_cl (x_W b u.1 cs u.2) U.heap ∧ va_D A (x_W b u.1 cs u.2)
def q_Sv : Array Value → State → Outcome → State → Prop := fun _ st oc t => oc = .returned none ∧ t.heap = st.heap
section d_ROWS
variable {p : Program} {l : Launch} {e : Env} {R : Room} {s : State} {m : MethodId} {args : Array Value} {below : List Frame} {meth : Method} {c : Code} {H H0 : Heap} {locs : List Loc} {cells slots : Nat} {Q : State → Prop}
variable {cc bytes : ByteArray} {pc nL maxL mc ms : Nat} {ls : Array Slot} {rest st0 : List Value} {D : va_G} {A : Nat → Prop} {b ad : Nat → Nat} {cs : Nat → ClassId} {σ σ' : x_T} {own : String} {y : MethodName} {rm : Room} {ret : Option FieldType} {as As : List Value} {a0 : Array Value}
def x_Di (l : Launch) (y : MethodName) (cc : ByteArray) (nL : Nat) (ret : Option FieldType) (rm : Room) (D : va_G) (b ad : Nat → Nat) (cs : Nat → ClassId) (σ : x_T) (as : List Value) (mc ms : Nat) (r : Int32) (σ' : x_T) : Prop := ∀ sz : Nat, Met l y (Cond.code y cc nL ret :: q_ws) rm (va_Pc as (x_Pre D b ad cs σ sz)) (va_Qi (fun (r' : Int32) (u : (Nat → Nat) × x_T) => r' = r ∧ u.2 = σ') (x_At2 D b cs (va_A (x_W b ad cs σ) sz)) (va_A (x_W b ad cs σ) sz)) mc ms (va_A (x_W b ad cs σ) sz)
abbrev x_Ei (below : List Frame) (args : Array Value) (s : State) (D : va_G) (b : Nat → Nat) (cs : Nat → ClassId) (A : Nat → Prop) (mc ms : Nat) (r : Int32) (σ' : x_T) : State → Prop := MQ below (va_Qi (fun (r' : Int32) (u : (Nat → Nat) × x_T) => r' = r ∧ u.2 = σ') (x_At2 D b cs A) A) args s mc ms A
theorem x_dmet_i {r : Int32} (hy : plainName y.cls = true) (ho : y.cls = own) (hn : (lg_sl as).length ≤ nL) (body : ∀ (p : Program) (e : Env) (s : State) (m : MethodId) (args : Array Value) (below : List Frame) (meth : Method) (c : Code) (A : Nat → Prop), q_G p s m args c cc own D cs → meth.sig.returnType = ret → meth.locks = false → c.maxLocals = nL → ∀ ls : Array Slot, lv_has ls nL (lv_args 0 as) → x_V D b ad cs σ A s.heap s.heap [] → W p l e rm s m args below meth c s.heap [] 0 0 (x_Ei below args s D b cs A mc ms r σ') (F0 m 0 ls [])) : x_Di l y cc nL ret rm D b ad cs σ as mc ms r σ' := by
  intro sz
  refine Met.ofW (cc := cc) (maxL := nL) (ret := ret) hy rfl ?_
  intro p e s m args below meth c s₁ B hml hv
  obtain ⟨rfl, hsz, hP, hK, hD0, hN⟩ := hv
  have hts := atoms_spec (ws := Cond.code y cc nL ret :: q_ws) B.pre
  have hown : s.vm.findClass own = some m.cls := ho ▸ findClass_of_methodNamed B.named
  subst hsz
  have hl := lv_entry as (n := nL) hn
  rw [lg_entry_eq]
  exact body p e s m _ below meth c _ ⟨B.exec, B.bytes, hown, fun w hw => hts w (List.mem_cons_of_mem _ hw), hK, hN⟩ B.returns B.notSynchronized hml _ hl ⟨hP, hD0.self, va_S.rf, fun q h => Or.inr h⟩
theorem x_dcall_i {r : Int32} (V : x_V D b ad cs σ A s.heap H locs) (hr : va_Run p l e R s m args below meth c H locs cells slots mc ms (F0 m pc ls st0) rest (va_Qi (fun (r' : Int32) (u : (Nat → Nat) × x_T) => r' = r ∧ u.2 = σ') (x_At2 D b cs (va_A (x_W b ad cs σ) H.size)) (va_A (x_W b ad cs σ) H.size) a0) (va_A (x_W b ad cs σ) H.size)) (kk : ∀ (ad1 : Nat → Nat) (H1 : Heap) (locs1 : List Loc), x_V D b ad1 cs σ' A s.heap H1 locs1 → W p l e R s m args below meth c H1 locs1 (cells + mc) (slots + ms) Q (F0 m (pc + 3) ls (.int r :: rest))) : W p l e R s m args below meth c H locs cells slots Q (F0 m pc ls st0) := by
  have hFc := x_free V
  refine va_calli hr V.2.2.1 (fun q _ h => hFc q h) hFc (fun r' u t H1 locs1 ht hvm hp hB hz hk hS => ?_)
  obtain ⟨rfl, rfl⟩ := hp
  exact kk u.1 H1 locs1 ⟨by rw [← ht]; exact hB.1, hB.2.weaken (fun k q _ h => hFc q.1 h), hS, V.2.2.2⟩
theorem x_dcV_i {r : Int32} {n index : Nat} (G : q_G p s m args c cc own D cs) (V : x_V D b ad cs σ A s.heap H locs) (hml : c.maxLocals = nL) (hM : x_Di l y bytes maxL ret rm D b ad cs σ (.ref (b 0) :: As) mc ms r σ') (hT : GoodIn q_ws (wsV own index R_T y (Cond.code y bytes maxL ret :: q_ws))) (hd : y.cls = R_T ∧ y.cls ≠ "java/lang/invoke/MethodHandle" ∧ y.cls ≠ "java/lang/invoke/VarHandle" ∧ (parseMethodDescriptor y.desc).map (fun d => d.parameters.length) = some n) (hR : rm.frames + 1 ≤ R.frames ∧ 8 + (maxL + 11) + rm.locals ≤ R.locals) (hrm : rm.cells = mc ∧ rm.slots = ms) (hRc : cells + mc ≤ R.cells ∧ slots + ms ≤ R.slots) (hn : As.length = n) (hsz : ls.size = nL) (hst : st0 = As.reverse ++ .ref (b 0) :: rest) (hW : (rest.map fun v => v.category).sum ≤ 8) (hdg : decode cc pc = .ok (.invokevirtual index, 3)) (kk : ∀ (ad1 : Nat → Nat) (H1 : Heap) (locs1 : List Loc), x_V D b ad1 cs σ' A s.heap H1 locs1 → W p l e R s m args below meth c H1 locs1 (cells + mc) (slots + ms) Q (F0 m (pc + 3) ls (.int r :: rest))) : W p l e R s m args below meth c H locs cells slots Q (F0 m pc ls st0) :=
  x_dcall_i V (va_runV (As := As) (rest := rest) ⟨G.1, G.2.1, hml, G.2.2.1, G.2.2.2.1⟩ (hM H.size) (cwV n G.2.2.2.1 hT rfl hrm.1 hrm.2 hd hR) (x_preV G V 0 0 rfl x_w0) rfl hn hsz hst (lv_room hW) hdg hRc) kk
def x_Dv (l : Launch) (y : MethodName) (cc : ByteArray) (nL : Nat) (ret : Option FieldType) (rm : Room) (D : va_G) (b ad : Nat → Nat) (cs : Nat → ClassId) (σ : x_T) (as : List Value) (mc ms : Nat) (σ' : x_T) : Prop := ∀ sz : Nat, Met l y (Cond.code y cc nL ret :: q_ws) rm (va_Pc as (x_Pre D b ad cs σ sz)) (va_Qv (fun (u : (Nat → Nat) × x_T) => u.2 = σ') (x_At2 D b cs (va_A (x_W b ad cs σ) sz)) (va_A (x_W b ad cs σ) sz)) mc ms (va_A (x_W b ad cs σ) sz)
abbrev x_Ev (below : List Frame) (args : Array Value) (s : State) (D : va_G) (b : Nat → Nat) (cs : Nat → ClassId) (A : Nat → Prop) (mc ms : Nat) (σ' : x_T) : State → Prop := MQ below (va_Qv (fun (u : (Nat → Nat) × x_T) => u.2 = σ') (x_At2 D b cs A) A) args s mc ms A
theorem x_dmet_v (hy : plainName y.cls = true) (ho : y.cls = own) (hn : (lg_sl as).length ≤ nL) (body : ∀ (p : Program) (e : Env) (s : State) (m : MethodId) (args : Array Value) (below : List Frame) (meth : Method) (c : Code) (A : Nat → Prop), q_G p s m args c cc own D cs → meth.sig.returnType = ret → meth.locks = false → c.maxLocals = nL → ∀ ls : Array Slot, lv_has ls nL (lv_args 0 as) → x_V D b ad cs σ A s.heap s.heap [] → W p l e rm s m args below meth c s.heap [] 0 0 (x_Ev below args s D b cs A mc ms σ') (F0 m 0 ls [])) : x_Dv l y cc nL ret rm D b ad cs σ as mc ms σ' := by
  intro sz
  refine Met.ofW (cc := cc) (maxL := nL) (ret := ret) hy rfl ?_
  intro p e s m args below meth c s₁ B hml hv
  obtain ⟨rfl, hsz, hP, hK, hD0, hN⟩ := hv
  have hts := atoms_spec (ws := Cond.code y cc nL ret :: q_ws) B.pre
  have hown : s.vm.findClass own = some m.cls := ho ▸ findClass_of_methodNamed B.named
  subst hsz
  have hl := lv_entry as (n := nL) hn
  rw [lg_entry_eq]
  exact body p e s m _ below meth c _ ⟨B.exec, B.bytes, hown, fun w hw => hts w (List.mem_cons_of_mem _ hw), hK, hN⟩ B.returns B.notSynchronized hml _ hl ⟨hP, hD0.self, va_S.rf, fun q h => Or.inr h⟩
theorem x_dcall_v (V : x_V D b ad cs σ A s.heap H locs) (hr : va_Run p l e R s m args below meth c H locs cells slots mc ms (F0 m pc ls st0) rest (va_Qv (fun (u : (Nat → Nat) × x_T) => u.2 = σ') (x_At2 D b cs (va_A (x_W b ad cs σ) H.size)) (va_A (x_W b ad cs σ) H.size) a0) (va_A (x_W b ad cs σ) H.size)) (kk : ∀ (ad1 : Nat → Nat) (H1 : Heap) (locs1 : List Loc), x_V D b ad1 cs σ' A s.heap H1 locs1 → W p l e R s m args below meth c H1 locs1 (cells + mc) (slots + ms) Q (F0 m (pc + 3) ls rest)) : W p l e R s m args below meth c H locs cells slots Q (F0 m pc ls st0) := by
  have hFc := x_free V
  refine va_callv hr V.2.2.1 (fun q _ h => hFc q h) hFc (fun u t H1 locs1 ht hvm hp hB hz hk hS => ?_)
  subst hp
  exact kk u.1 H1 locs1 ⟨by rw [← ht]; exact hB.1, hB.2.weaken (fun k q _ h => hFc q.1 h), hS, V.2.2.2⟩
theorem x_dcV_v {n index : Nat} (G : q_G p s m args c cc own D cs) (V : x_V D b ad cs σ A s.heap H locs) (hml : c.maxLocals = nL) (hM : x_Dv l y bytes maxL ret rm D b ad cs σ (.ref (b 0) :: As) mc ms σ') (hT : GoodIn q_ws (wsV own index R_T y (Cond.code y bytes maxL ret :: q_ws))) (hd : y.cls = R_T ∧ y.cls ≠ "java/lang/invoke/MethodHandle" ∧ y.cls ≠ "java/lang/invoke/VarHandle" ∧ (parseMethodDescriptor y.desc).map (fun d => d.parameters.length) = some n) (hR : rm.frames + 1 ≤ R.frames ∧ 8 + (maxL + 11) + rm.locals ≤ R.locals) (hrm : rm.cells = mc ∧ rm.slots = ms) (hRc : cells + mc ≤ R.cells ∧ slots + ms ≤ R.slots) (hn : As.length = n) (hsz : ls.size = nL) (hst : st0 = As.reverse ++ .ref (b 0) :: rest) (hW : (rest.map fun v => v.category).sum ≤ 8) (hdg : decode cc pc = .ok (.invokevirtual index, 3)) (kk : ∀ (ad1 : Nat → Nat) (H1 : Heap) (locs1 : List Loc), x_V D b ad1 cs σ' A s.heap H1 locs1 → W p l e R s m args below meth c H1 locs1 (cells + mc) (slots + ms) Q (F0 m (pc + 3) ls rest)) : W p l e R s m args below meth c H locs cells slots Q (F0 m pc ls st0) :=
  x_dcall_v V (va_runV (As := As) (rest := rest) ⟨G.1, G.2.1, hml, G.2.2.1, G.2.2.2.1⟩ (hM H.size) (cwV n G.2.2.2.1 hT rfl hrm.1 hrm.2 hd hR) (x_preV G V 0 0 rfl x_w0) rfl hn hsz hst (lv_room hW) hdg hRc) kk
def x_Dq (l : Launch) (y : MethodName) (cc : ByteArray) (nL : Nat) (ret : Option FieldType) (rm : Room) (D : va_G) (b ad : Nat → Nat) (cs : Nat → ClassId) (σ : x_T) (as : List Value) (mc ms : Nat) (r : Option Nat) (σ' : x_T) : Prop := ∀ sz : Nat, Met l y (Cond.code y cc nL ret :: q_ws) rm (va_Pc as (x_Pre D b ad cs σ sz)) (va_Qq (fun (r' : Option Nat) (u : (Nat → Nat) × x_T) => r' = r.map u.1 ∧ u.2 = σ') (x_At2 D b cs (va_A (x_W b ad cs σ) sz)) (va_A (x_W b ad cs σ) sz)) mc ms (va_A (x_W b ad cs σ) sz)
abbrev x_Eq (below : List Frame) (args : Array Value) (s : State) (D : va_G) (b : Nat → Nat) (cs : Nat → ClassId) (A : Nat → Prop) (mc ms : Nat) (r : Option Nat) (σ' : x_T) : State → Prop := MQ below (va_Qq (fun (r' : Option Nat) (u : (Nat → Nat) × x_T) => r' = r.map u.1 ∧ u.2 = σ') (x_At2 D b cs A) A) args s mc ms A
theorem x_dmet_q {r : Option Nat} (hy : plainName y.cls = true) (ho : y.cls = own) (hn : (lg_sl as).length ≤ nL) (body : ∀ (p : Program) (e : Env) (s : State) (m : MethodId) (args : Array Value) (below : List Frame) (meth : Method) (c : Code) (A : Nat → Prop), q_G p s m args c cc own D cs → meth.sig.returnType = ret → meth.locks = false → c.maxLocals = nL → ∀ ls : Array Slot, lv_has ls nL (lv_args 0 as) → x_V D b ad cs σ A s.heap s.heap [] → W p l e rm s m args below meth c s.heap [] 0 0 (x_Eq below args s D b cs A mc ms r σ') (F0 m 0 ls [])) : x_Dq l y cc nL ret rm D b ad cs σ as mc ms r σ' := by
  intro sz
  refine Met.ofW (cc := cc) (maxL := nL) (ret := ret) hy rfl ?_
  intro p e s m args below meth c s₁ B hml hv
  obtain ⟨rfl, hsz, hP, hK, hD0, hN⟩ := hv
  have hts := atoms_spec (ws := Cond.code y cc nL ret :: q_ws) B.pre
  have hown : s.vm.findClass own = some m.cls := ho ▸ findClass_of_methodNamed B.named
  subst hsz
  have hl := lv_entry as (n := nL) hn
  rw [lg_entry_eq]
  exact body p e s m _ below meth c _ ⟨B.exec, B.bytes, hown, fun w hw => hts w (List.mem_cons_of_mem _ hw), hK, hN⟩ B.returns B.notSynchronized hml _ hl ⟨hP, hD0.self, va_S.rf, fun q h => Or.inr h⟩
theorem x_dcall_q {r : Option Nat} (V : x_V D b ad cs σ A s.heap H locs) (hr : va_Run p l e R s m args below meth c H locs cells slots mc ms (F0 m pc ls st0) rest (va_Qq (fun (r' : Option Nat) (u : (Nat → Nat) × x_T) => r' = r.map u.1 ∧ u.2 = σ') (x_At2 D b cs (va_A (x_W b ad cs σ) H.size)) (va_A (x_W b ad cs σ) H.size) a0) (va_A (x_W b ad cs σ) H.size)) (kn : r = none → ∀ (ad1 : Nat → Nat) (H1 : Heap) (locs1 : List Loc), x_V D b ad1 cs σ' A s.heap H1 locs1 → W p l e R s m args below meth c H1 locs1 (cells + mc) (slots + ms) Q (F0 m (pc + 3) ls (.null :: rest))) (ks : ∀ k : Nat, r = some k → ∀ (ad1 : Nat → Nat) (H1 : Heap) (locs1 : List Loc), x_V D b ad1 cs σ' A s.heap H1 locs1 → W p l e R s m args below meth c H1 locs1 (cells + mc) (slots + ms) Q (F0 m (pc + 3) ls (.ref (ad1 k) :: rest))) : W p l e R s m args below meth c H locs cells slots Q (F0 m pc ls st0) := by
  have hFc := x_free V
  refine va_callq hr V.2.2.1 (fun q _ h => hFc q h) hFc (fun r' u t H1 locs1 ht hvm hp hB hz hk hS => ?_)
  obtain ⟨rfl, rfl⟩ := hp
  have V1 : x_V D b u.1 cs u.2 A s.heap H1 locs1 := ⟨by rw [← ht]; exact hB.1, hB.2.weaken (fun k q _ h => hFc q.1 h), hS, V.2.2.2⟩
  cases r with
  | none => exact kn rfl u.1 H1 locs1 V1
  | some k => exact ks k rfl u.1 H1 locs1 V1
theorem x_dcV_q {r : Option Nat} {n index : Nat} (G : q_G p s m args c cc own D cs) (V : x_V D b ad cs σ A s.heap H locs) (hml : c.maxLocals = nL) (hM : x_Dq l y bytes maxL ret rm D b ad cs σ (.ref (b 0) :: As) mc ms r σ') (hT : GoodIn q_ws (wsV own index R_T y (Cond.code y bytes maxL ret :: q_ws))) (hd : y.cls = R_T ∧ y.cls ≠ "java/lang/invoke/MethodHandle" ∧ y.cls ≠ "java/lang/invoke/VarHandle" ∧ (parseMethodDescriptor y.desc).map (fun d => d.parameters.length) = some n) (hR : rm.frames + 1 ≤ R.frames ∧ 8 + (maxL + 11) + rm.locals ≤ R.locals) (hrm : rm.cells = mc ∧ rm.slots = ms) (hRc : cells + mc ≤ R.cells ∧ slots + ms ≤ R.slots) (hn : As.length = n) (hsz : ls.size = nL) (hst : st0 = As.reverse ++ .ref (b 0) :: rest) (hW : (rest.map fun v => v.category).sum ≤ 8) (hdg : decode cc pc = .ok (.invokevirtual index, 3)) (kn : r = none → ∀ (ad1 : Nat → Nat) (H1 : Heap) (locs1 : List Loc), x_V D b ad1 cs σ' A s.heap H1 locs1 → W p l e R s m args below meth c H1 locs1 (cells + mc) (slots + ms) Q (F0 m (pc + 3) ls (.null :: rest))) (ks : ∀ k : Nat, r = some k → ∀ (ad1 : Nat → Nat) (H1 : Heap) (locs1 : List Loc), x_V D b ad1 cs σ' A s.heap H1 locs1 → W p l e R s m args below meth c H1 locs1 (cells + mc) (slots + ms) Q (F0 m (pc + 3) ls (.ref (ad1 k) :: rest))) : W p l e R s m args below meth c H locs cells slots Q (F0 m pc ls st0) :=
  x_dcall_q V (va_runV (As := As) (rest := rest) ⟨G.1, G.2.1, hml, G.2.2.1, G.2.2.2.1⟩ (hM H.size) (cwV n G.2.2.2.1 hT rfl hrm.1 hrm.2 hd hR) (x_preV G V 0 0 rfl x_w0) rfl hn hsz hst (lv_room hW) hdg hRc) kn ks
theorem x_dret_v (G : q_G p s m args c cc own D cs) (hr : meth.sig.returnType = none) (hlk : meth.locks = false) (h : (some σ : Option x_T) = some σ') (V : x_V D b ad cs σ A s.heap H locs) (hdg : decode cc pc = .ok (.return_, 1)) : W p l e R s m args below meth c H locs mc ms (x_Ev below args s D b cs A mc ms σ') (F0 m pc ls []) := by
  cases h
  exact W.vret G.1 G.2.1 hr (fun t ht hW => ⟨⟨(ad, σ), rfl, rfl, by rw [ht]; exact V.1, V.2.1⟩, V.2.2.1.F ht⟩) V.2.2.1.2.2 hdg hlk
theorem x_dret_i {r0 r : Int32} (G : q_G p s m args c cc own D cs) (hr : meth.sig.returnType = some .int) (hlk : meth.locks = false) (h : (some (r0, σ) : Option (Int32 × x_T)) = some (r, σ')) (V : x_V D b ad cs σ A s.heap H locs) (hdg : decode cc pc = .ok (.ireturn, 1)) : W p l e R s m args below meth c H locs mc ms (x_Ei below args s D b cs A mc ms r σ') (F0 m pc ls [.int r0]) := by
  cases h
  exact W.iret G.1 G.2.1 hr (fun t ht hW => ⟨⟨r0, (ad, σ), rfl, ⟨rfl, rfl⟩, by rw [ht]; exact V.1, V.2.1⟩, V.2.2.1.F ht⟩) V.2.2.1.2.2 hdg hlk
theorem x_dret_q {r0 r : Option Nat} {C : String} {v : Value} (G : q_G p s m args c cc own D cs) (hr : meth.sig.returnType = some (.object C)) (hlk : meth.locks = false) (h : (some (r0, σ) : Option (Option Nat × x_T)) = some (r, σ')) (hv : v = va_rf (r0.map ad)) (V : x_V D b ad cs σ A s.heap H locs) (hdg : decode cc pc = .ok (.areturn, 1)) : W p l e R s m args below meth c H locs mc ms (x_Eq below args s D b cs A mc ms r σ') (F0 m pc ls [v]) := by
  cases h
  subst hv
  exact W.aret G.1 G.2.1 hr (Or.inl ⟨_, rfl⟩) (by cases r0 with
    | none => exact Or.inl rfl
    | some k => exact Or.inr ⟨_, rfl⟩) (fun t ht hW => ⟨⟨r0.map ad, (ad, σ), rfl, ⟨rfl, rfl⟩, by rw [ht]; exact V.1, V.2.1⟩, V.2.2.1.F ht⟩) V.2.2.1.2.2 hdg hlk
theorem q_run_v (hr : va_Run p l e R s m args below meth c H locs cells slots 0 0 (F0 m pc ls st0) rest (q_Sv a0) (fun _ => False)) (kk : W p l e R s m args below meth c H locs cells slots Q (F0 m (pc + 3) ls rest)) : W p l e R s m args below meth c H locs cells slots Q (F0 m pc ls st0) := by
  intro T hT X
  obtain ⟨v, st₀, t, T', L, h0, X', hL, e1, e2, ⟨hv, hh⟩, st⟩ := hr T hT X
  cases hv
  obtain ⟨t2, a1, b1⟩ := kk T' (by rw [e1, hh, h0]) (Stand.forget X' (fun q h => (hL q h).elim))
  exact ⟨t2, st t2 a1, b1⟩
end d_ROWS
