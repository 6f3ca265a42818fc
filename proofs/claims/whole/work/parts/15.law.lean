theorem q_lg (r : Int64) : lg_cmp r r = 0 := by simp [lg_cmp]
set_option maxHeartbeats 40000000 in
set_option maxRecDepth 100000 in
theorem l_case_put {p : Program} {e : Env} {s : State} {m : MethodId} {below : List Frame} {meth : Method} {c : Code} (l : Launch) {b0 L : Nat} {xs : Nat → Int32} (hL : L ≤ 3076) {D : va_G} {cs : Nat → ClassId} (G : q_G p s m #[Value.ref b0] c code R_L D cs) (hr : meth.sig.returnType = ret) (hlk : meth.locks = false) (hml : c.maxLocals = 4) (hX : va_X b0 L xs s s.heap) (hbl : b0 < s.heap.size) (Rel : Nat → x_T → m_T → Prop) (hs_put : s_put Rel) {b ad b' : Nat → Nat} {σ : x_T} {τ : m_T} {H : Heap} {locs : List Loc} {ls : Array Slot} {cl sl jj : Nat} (hjj : jj < 512) (hs_mono : s_mono Rel) (hcl : cl + 8 ≤ 600000) (hsl : sl + 96 ≤ 7302250) (hRel : Rel jj σ τ) (V : w_V D b ad cs σ b' τ s H locs) {v : Int32} (hl : lv_has ls 4 [(0, .ref b0), (1, .ref (b 0)), (2, .ref (b' 0)), (3, .int v)]) (i1 : vp_in (v + 1) L) (i2 : vp_in (v + 2) L) (i3 : vp_in (v + 3) L) (i4 : vp_in (v + 4) L) (i5 : vp_in (v + 5) L) (kk : ∀ (ad : Nat → Nat) (σ : x_T) (τ : m_T) (H : Heap) (locs : List Loc) (cl2 sl2 : Nat), Rel (jj + 1) σ τ → w_V D b ad cs σ b' τ s H locs → cl2 ≤ cl + 8 → sl2 ≤ sl + 96 → W p l e room_1 s m #[Value.ref b0] below meth c H locs cl2 sl2 (lw_Z below #[Value.ref b0] s) (F0 m 765 ls [])) : W p l e room_1 s m #[Value.ref b0] below meth c H locs cl sl (lw_Z below #[Value.ref b0] s) (F0 m 164 ls []) := by
  have hx := G.1
  have hb := G.2.1
  have hbA : ¬ w_A s b0 := Nat.not_le.mpr hbl
  refine lv_aload_n hx hb d_L_law_164 rfl (lv_at hl 1 rfl) ?_
  refine lv_aload_n hx hb d_L_law_165 rfl (lv_at hl 0 rfl) ?_
  refine lv_iload_n hx hb d_L_law_166 rfl (lv_at hl 3 rfl) ?_
  refine lv_iconst (v := 1) hx hb d_L_law_167 (by decide) ?_
  refine lv_iadd hx hb d_L_law_168 ?_
  refine va_sld hx hb hX hbl hbA V.2.2.2 i1 d_L_law_169 ?_
  refine lv_aload_n hx hb d_L_law_170 rfl (lv_at hl 0 rfl) ?_
  refine lv_iload_n hx hb d_L_law_171 rfl (lv_at hl 3 rfl) ?_
  refine lv_iconst (v := 2) hx hb d_L_law_172 (by decide) ?_
  refine lv_iadd hx hb d_L_law_173 ?_
  refine va_sld hx hb hX hbl hbA V.2.2.2 i2 d_L_law_174 ?_
  refine lv_aload_n hx hb d_L_law_175 rfl (lv_at hl 0 rfl) ?_
  refine lv_iload_n hx hb d_L_law_176 rfl (lv_at hl 3 rfl) ?_
  refine lv_iconst (v := 3) hx hb d_L_law_177 (by decide) ?_
  refine lv_iadd hx hb d_L_law_178 ?_
  refine va_sld hx hb hX hbl hbA V.2.2.2 i3 d_L_law_179 ?_
  refine lv_aload_n hx hb d_L_law_180 rfl (lv_at hl 0 rfl) ?_
  refine lv_iload_n hx hb d_L_law_181 rfl (lv_at hl 3 rfl) ?_
  refine lv_iconst (v := 4) hx hb d_L_law_182 (by decide) ?_
  refine lv_iadd hx hb d_L_law_183 ?_
  refine va_sld hx hb hX hbl hbA V.2.2.2 i4 d_L_law_184 ?_
  obtain ⟨r, σ', τ', h1, h2, hRel⟩ := hs_put jj σ τ hjj hRel (xs (v + 1 : Int32).toNatClampNeg) (xs (v + 2 : Int32).toNatClampNeg) (xs (v + 3 : Int32).toNatClampNeg) (xs (v + 4 : Int32).toNatClampNeg)
  refine w_cX_i (As := [.int (xs (v + 1 : Int32).toNatClampNeg), .int (xs (v + 2 : Int32).toNatClampNeg), .int (xs (v + 3 : Int32).toNatClampNeg), .int (xs (v + 4 : Int32).toNatClampNeg)]) (rest := []) G V hml (c_T_put l D b ad cs 1000 σ (xs (v + 1 : Int32).toNatClampNeg) (xs (v + 2 : Int32).toNatClampNeg) (xs (v + 3 : Int32).toNatClampNeg) (xs (v + 4 : Int32).toNatClampNeg) r σ' h1) g_L_21 e_T_put ⟨Nat.le_of_ble_eq_true rfl, Nat.le_of_ble_eq_true rfl⟩ ⟨rfl, rfl⟩ ⟨by show _ + 0 ≤ 600000; omega, by show _ + 0 ≤ 7302250; omega⟩ rfl hl.1 rfl (Nat.le_of_ble_eq_true rfl) d_L_law_185 (fun H locs V => ?_)
  refine lv_aload_n hx hb d_L_law_188 rfl (lv_at hl 2 rfl) ?_
  refine lv_aload_n hx hb d_L_law_189 rfl (lv_at hl 0 rfl) ?_
  refine lv_iload_n hx hb d_L_law_190 rfl (lv_at hl 3 rfl) ?_
  refine lv_iconst (v := 1) hx hb d_L_law_191 (by decide) ?_
  refine lv_iadd hx hb d_L_law_192 ?_
  refine va_sld hx hb hX hbl hbA V.2.2.2 i1 d_L_law_193 ?_
  refine lv_aload_n hx hb d_L_law_194 rfl (lv_at hl 0 rfl) ?_
  refine lv_iload_n hx hb d_L_law_195 rfl (lv_at hl 3 rfl) ?_
  refine lv_iconst (v := 2) hx hb d_L_law_196 (by decide) ?_
  refine lv_iadd hx hb d_L_law_197 ?_
  refine va_sld hx hb hX hbl hbA V.2.2.2 i2 d_L_law_198 ?_
  refine lv_aload_n hx hb d_L_law_199 rfl (lv_at hl 0 rfl) ?_
  refine lv_iload_n hx hb d_L_law_200 rfl (lv_at hl 3 rfl) ?_
  refine lv_iconst (v := 3) hx hb d_L_law_201 (by decide) ?_
  refine lv_iadd hx hb d_L_law_202 ?_
  refine va_sld hx hb hX hbl hbA V.2.2.2 i3 d_L_law_203 ?_
  refine lv_aload_n hx hb d_L_law_204 rfl (lv_at hl 0 rfl) ?_
  refine lv_iload_n hx hb d_L_law_205 rfl (lv_at hl 3 rfl) ?_
  refine lv_iconst (v := 4) hx hb d_L_law_206 (by decide) ?_
  refine lv_iadd hx hb d_L_law_207 ?_
  refine va_sld hx hb hX hbl hbA V.2.2.2 i4 d_L_law_208 ?_
  refine w_cM_i (As := [.int (xs (v + 1 : Int32).toNatClampNeg), .int (xs (v + 2 : Int32).toNatClampNeg), .int (xs (v + 3 : Int32).toNatClampNeg), .int (xs (v + 4 : Int32).toNatClampNeg)]) (rest := [.int (r)]) G V hml (c_M_put l D b' cs 1000 τ (xs (v + 1 : Int32).toNatClampNeg) (xs (v + 2 : Int32).toNatClampNeg) (xs (v + 3 : Int32).toNatClampNeg) (xs (v + 4 : Int32).toNatClampNeg) r τ' h2) g_L_25 e_M_put ⟨Nat.le_of_ble_eq_true rfl, Nat.le_of_ble_eq_true rfl⟩ ⟨rfl, rfl⟩ ⟨by show _ + 0 ≤ 600000; omega, by show _ + 0 ≤ 7302250; omega⟩ rfl hl.1 rfl (Nat.le_of_ble_eq_true rfl) d_L_law_209 (fun H locs V => ?_)
  refine lv_icmp_eq (tgt := 765) hx hb d_L_law_212 (by decide) (fun _ => ?_) (fun h9 => absurd rfl h9)
  exact kk _ _ _ _ _ _ _ hRel V (by omega) (by omega)
set_option maxHeartbeats 40000000 in
set_option maxRecDepth 100000 in
theorem l_case_erase {p : Program} {e : Env} {s : State} {m : MethodId} {below : List Frame} {meth : Method} {c : Code} (l : Launch) {b0 L : Nat} {xs : Nat → Int32} (hL : L ≤ 3076) {D : va_G} {cs : Nat → ClassId} (G : q_G p s m #[Value.ref b0] c code R_L D cs) (hr : meth.sig.returnType = ret) (hlk : meth.locks = false) (hml : c.maxLocals = 4) (hX : va_X b0 L xs s s.heap) (hbl : b0 < s.heap.size) (Rel : Nat → x_T → m_T → Prop) (hs_erase : s_erase Rel) {b ad b' : Nat → Nat} {σ : x_T} {τ : m_T} {H : Heap} {locs : List Loc} {ls : Array Slot} {cl sl jj : Nat} (hjj : jj < 512) (hs_mono : s_mono Rel) (hcl : cl + 8 ≤ 600000) (hsl : sl + 96 ≤ 7302250) (hRel : Rel jj σ τ) (V : w_V D b ad cs σ b' τ s H locs) {v : Int32} (hl : lv_has ls 4 [(0, .ref b0), (1, .ref (b 0)), (2, .ref (b' 0)), (3, .int v)]) (i1 : vp_in (v + 1) L) (i2 : vp_in (v + 2) L) (i3 : vp_in (v + 3) L) (i4 : vp_in (v + 4) L) (i5 : vp_in (v + 5) L) (kk : ∀ (ad : Nat → Nat) (σ : x_T) (τ : m_T) (H : Heap) (locs : List Loc) (cl2 sl2 : Nat), Rel (jj + 1) σ τ → w_V D b ad cs σ b' τ s H locs → cl2 ≤ cl + 8 → sl2 ≤ sl + 96 → W p l e room_1 s m #[Value.ref b0] below meth c H locs cl2 sl2 (lw_Z below #[Value.ref b0] s) (F0 m 765 ls [])) : W p l e room_1 s m #[Value.ref b0] below meth c H locs cl sl (lw_Z below #[Value.ref b0] s) (F0 m 217 ls []) := by
  have hx := G.1
  have hb := G.2.1
  have hbA : ¬ w_A s b0 := Nat.not_le.mpr hbl
  refine lv_aload_n hx hb d_L_law_217 rfl (lv_at hl 1 rfl) ?_
  refine lv_aload_n hx hb d_L_law_218 rfl (lv_at hl 0 rfl) ?_
  refine lv_iload_n hx hb d_L_law_219 rfl (lv_at hl 3 rfl) ?_
  refine lv_iconst (v := 1) hx hb d_L_law_220 (by decide) ?_
  refine lv_iadd hx hb d_L_law_221 ?_
  refine va_sld hx hb hX hbl hbA V.2.2.2 i1 d_L_law_222 ?_
  refine lv_aload_n hx hb d_L_law_223 rfl (lv_at hl 0 rfl) ?_
  refine lv_iload_n hx hb d_L_law_224 rfl (lv_at hl 3 rfl) ?_
  refine lv_iconst (v := 2) hx hb d_L_law_225 (by decide) ?_
  refine lv_iadd hx hb d_L_law_226 ?_
  refine va_sld hx hb hX hbl hbA V.2.2.2 i2 d_L_law_227 ?_
  refine lv_aload_n hx hb d_L_law_228 rfl (lv_at hl 0 rfl) ?_
  refine lv_iload_n hx hb d_L_law_229 rfl (lv_at hl 3 rfl) ?_
  refine lv_iconst (v := 3) hx hb d_L_law_230 (by decide) ?_
  refine lv_iadd hx hb d_L_law_231 ?_
  refine va_sld hx hb hX hbl hbA V.2.2.2 i3 d_L_law_232 ?_
  obtain ⟨r, σ', τ', h1, h2, hRel⟩ := hs_erase jj σ τ hjj hRel (xs (v + 1 : Int32).toNatClampNeg) (xs (v + 2 : Int32).toNatClampNeg) (xs (v + 3 : Int32).toNatClampNeg)
  refine w_cX_i (As := [.int (xs (v + 1 : Int32).toNatClampNeg), .int (xs (v + 2 : Int32).toNatClampNeg), .int (xs (v + 3 : Int32).toNatClampNeg)]) (rest := []) G V hml (c_T_erase l D b ad cs 1000 σ (xs (v + 1 : Int32).toNatClampNeg) (xs (v + 2 : Int32).toNatClampNeg) (xs (v + 3 : Int32).toNatClampNeg) r σ' h1) g_L_26 e_T_erase ⟨Nat.le_of_ble_eq_true rfl, Nat.le_of_ble_eq_true rfl⟩ ⟨rfl, rfl⟩ ⟨by show _ + 0 ≤ 600000; omega, by show _ + 0 ≤ 7302250; omega⟩ rfl hl.1 rfl (Nat.le_of_ble_eq_true rfl) d_L_law_233 (fun H locs V => ?_)
  refine lv_aload_n hx hb d_L_law_236 rfl (lv_at hl 2 rfl) ?_
  refine lv_aload_n hx hb d_L_law_237 rfl (lv_at hl 0 rfl) ?_
  refine lv_iload_n hx hb d_L_law_238 rfl (lv_at hl 3 rfl) ?_
  refine lv_iconst (v := 1) hx hb d_L_law_239 (by decide) ?_
  refine lv_iadd hx hb d_L_law_240 ?_
  refine va_sld hx hb hX hbl hbA V.2.2.2 i1 d_L_law_241 ?_
  refine lv_aload_n hx hb d_L_law_242 rfl (lv_at hl 0 rfl) ?_
  refine lv_iload_n hx hb d_L_law_243 rfl (lv_at hl 3 rfl) ?_
  refine lv_iconst (v := 2) hx hb d_L_law_244 (by decide) ?_
  refine lv_iadd hx hb d_L_law_245 ?_
  refine va_sld hx hb hX hbl hbA V.2.2.2 i2 d_L_law_246 ?_
  refine lv_aload_n hx hb d_L_law_247 rfl (lv_at hl 0 rfl) ?_
  refine lv_iload_n hx hb d_L_law_248 rfl (lv_at hl 3 rfl) ?_
  refine lv_iconst (v := 3) hx hb d_L_law_249 (by decide) ?_
  refine lv_iadd hx hb d_L_law_250 ?_
  refine va_sld hx hb hX hbl hbA V.2.2.2 i3 d_L_law_251 ?_
  refine w_cM_i (As := [.int (xs (v + 1 : Int32).toNatClampNeg), .int (xs (v + 2 : Int32).toNatClampNeg), .int (xs (v + 3 : Int32).toNatClampNeg)]) (rest := [.int (r)]) G V hml (c_M_erase l D b' cs 1000 τ (xs (v + 1 : Int32).toNatClampNeg) (xs (v + 2 : Int32).toNatClampNeg) (xs (v + 3 : Int32).toNatClampNeg) r τ' h2) g_L_30 e_M_erase ⟨Nat.le_of_ble_eq_true rfl, Nat.le_of_ble_eq_true rfl⟩ ⟨rfl, rfl⟩ ⟨by show _ + 0 ≤ 600000; omega, by show _ + 0 ≤ 7302250; omega⟩ rfl hl.1 rfl (Nat.le_of_ble_eq_true rfl) d_L_law_252 (fun H locs V => ?_)
  refine lv_icmp_eq (tgt := 765) hx hb d_L_law_255 (by decide) (fun _ => ?_) (fun h9 => absurd rfl h9)
  exact kk _ _ _ _ _ _ _ hRel V (by omega) (by omega)
set_option maxHeartbeats 40000000 in
set_option maxRecDepth 100000 in
theorem l_case_expect {p : Program} {e : Env} {s : State} {m : MethodId} {below : List Frame} {meth : Method} {c : Code} (l : Launch) {b0 L : Nat} {xs : Nat → Int32} (hL : L ≤ 3076) {D : va_G} {cs : Nat → ClassId} (G : q_G p s m #[Value.ref b0] c code R_L D cs) (hr : meth.sig.returnType = ret) (hlk : meth.locks = false) (hml : c.maxLocals = 4) (hX : va_X b0 L xs s s.heap) (hbl : b0 < s.heap.size) (Rel : Nat → x_T → m_T → Prop) (hs_expect : s_expect Rel) {b ad b' : Nat → Nat} {σ : x_T} {τ : m_T} {H : Heap} {locs : List Loc} {ls : Array Slot} {cl sl jj : Nat} (hjj : jj < 512) (hs_mono : s_mono Rel) (hcl : cl + 8 ≤ 600000) (hsl : sl + 96 ≤ 7302250) (hRel : Rel jj σ τ) (V : w_V D b ad cs σ b' τ s H locs) {v : Int32} (hl : lv_has ls 4 [(0, .ref b0), (1, .ref (b 0)), (2, .ref (b' 0)), (3, .int v)]) (i1 : vp_in (v + 1) L) (i2 : vp_in (v + 2) L) (i3 : vp_in (v + 3) L) (i4 : vp_in (v + 4) L) (i5 : vp_in (v + 5) L) (kk : ∀ (ad : Nat → Nat) (σ : x_T) (τ : m_T) (H : Heap) (locs : List Loc) (cl2 sl2 : Nat), Rel (jj + 1) σ τ → w_V D b ad cs σ b' τ s H locs → cl2 ≤ cl + 8 → sl2 ≤ sl + 96 → W p l e room_1 s m #[Value.ref b0] below meth c H locs cl2 sl2 (lw_Z below #[Value.ref b0] s) (F0 m 765 ls [])) : W p l e room_1 s m #[Value.ref b0] below meth c H locs cl sl (lw_Z below #[Value.ref b0] s) (F0 m 260 ls []) := by
  have hx := G.1
  have hb := G.2.1
  have hbA : ¬ w_A s b0 := Nat.not_le.mpr hbl
  refine lv_aload_n hx hb d_L_law_260 rfl (lv_at hl 1 rfl) ?_
  refine lv_aload_n hx hb d_L_law_261 rfl (lv_at hl 0 rfl) ?_
  refine lv_iload_n hx hb d_L_law_262 rfl (lv_at hl 3 rfl) ?_
  refine lv_iconst (v := 1) hx hb d_L_law_263 (by decide) ?_
  refine lv_iadd hx hb d_L_law_264 ?_
  refine va_sld hx hb hX hbl hbA V.2.2.2 i1 d_L_law_265 ?_
  refine lv_aload_n hx hb d_L_law_266 rfl (lv_at hl 0 rfl) ?_
  refine lv_iload_n hx hb d_L_law_267 rfl (lv_at hl 3 rfl) ?_
  refine lv_iconst (v := 2) hx hb d_L_law_268 (by decide) ?_
  refine lv_iadd hx hb d_L_law_269 ?_
  refine va_sld hx hb hX hbl hbA V.2.2.2 i2 d_L_law_270 ?_
  refine lv_aload_n hx hb d_L_law_271 rfl (lv_at hl 0 rfl) ?_
  refine lv_iload_n hx hb d_L_law_272 rfl (lv_at hl 3 rfl) ?_
  refine lv_iconst (v := 3) hx hb d_L_law_273 (by decide) ?_
  refine lv_iadd hx hb d_L_law_274 ?_
  refine va_sld hx hb hX hbl hbA V.2.2.2 i3 d_L_law_275 ?_
  refine lv_if_eq (tgt := 283) hx hb d_L_law_276 (by decide) (fun hc => ?_) (fun hc => ?_)
  · refine lv_iconst (v := 0) hx hb d_L_law_283 (by decide) ?_
    refine lv_aload_n hx hb d_L_law_284 rfl (lv_at hl 0 rfl) ?_
    refine lv_iload_n hx hb d_L_law_285 rfl (lv_at hl 3 rfl) ?_
    refine lv_iconst (v := 4) hx hb d_L_law_286 (by decide) ?_
    refine lv_iadd hx hb d_L_law_287 ?_
    refine va_sld hx hb hX hbl hbA V.2.2.2 i4 d_L_law_288 ?_
    obtain ⟨r, σ', τ', h1, h2, hRel⟩ := hs_expect jj σ τ hjj hRel (xs (v + 1 : Int32).toNatClampNeg) (xs (v + 2 : Int32).toNatClampNeg) (0) (xs (v + 4 : Int32).toNatClampNeg) (Or.inl rfl)
    refine w_cX_i (As := [.int (xs (v + 1 : Int32).toNatClampNeg), .int (xs (v + 2 : Int32).toNatClampNeg), .int (0), .int (xs (v + 4 : Int32).toNatClampNeg)]) (rest := []) G V hml (c_T_expect l D b ad cs 1000 σ (xs (v + 1 : Int32).toNatClampNeg) (xs (v + 2 : Int32).toNatClampNeg) (0) (xs (v + 4 : Int32).toNatClampNeg) r σ' h1) g_L_31 e_T_expect ⟨Nat.le_of_ble_eq_true rfl, Nat.le_of_ble_eq_true rfl⟩ ⟨rfl, rfl⟩ ⟨by show _ + 0 ≤ 600000; omega, by show _ + 0 ≤ 7302250; omega⟩ rfl hl.1 rfl (Nat.le_of_ble_eq_true rfl) d_L_law_289 (fun H locs V => ?_)
    refine lv_aload_n hx hb d_L_law_292 rfl (lv_at hl 2 rfl) ?_
    refine lv_aload_n hx hb d_L_law_293 rfl (lv_at hl 0 rfl) ?_
    refine lv_iload_n hx hb d_L_law_294 rfl (lv_at hl 3 rfl) ?_
    refine lv_iconst (v := 1) hx hb d_L_law_295 (by decide) ?_
    refine lv_iadd hx hb d_L_law_296 ?_
    refine va_sld hx hb hX hbl hbA V.2.2.2 i1 d_L_law_297 ?_
    refine lv_aload_n hx hb d_L_law_298 rfl (lv_at hl 0 rfl) ?_
    refine lv_iload_n hx hb d_L_law_299 rfl (lv_at hl 3 rfl) ?_
    refine lv_iconst (v := 2) hx hb d_L_law_300 (by decide) ?_
    refine lv_iadd hx hb d_L_law_301 ?_
    refine va_sld hx hb hX hbl hbA V.2.2.2 i2 d_L_law_302 ?_
    refine lv_aload_n hx hb d_L_law_303 rfl (lv_at hl 0 rfl) ?_
    refine lv_iload_n hx hb d_L_law_304 rfl (lv_at hl 3 rfl) ?_
    refine lv_iconst (v := 3) hx hb d_L_law_305 (by decide) ?_
    refine lv_iadd hx hb d_L_law_306 ?_
    refine va_sld hx hb hX hbl hbA V.2.2.2 i3 d_L_law_307 ?_
    refine lv_if_eq (tgt := 315) hx hb d_L_law_308 (by decide) (fun _ => ?_) (fun h9 => absurd hc h9)
    refine lv_iconst (v := 0) hx hb d_L_law_315 (by decide) ?_
    refine lv_aload_n hx hb d_L_law_316 rfl (lv_at hl 0 rfl) ?_
    refine lv_iload_n hx hb d_L_law_317 rfl (lv_at hl 3 rfl) ?_
    refine lv_iconst (v := 4) hx hb d_L_law_318 (by decide) ?_
    refine lv_iadd hx hb d_L_law_319 ?_
    refine va_sld hx hb hX hbl hbA V.2.2.2 i4 d_L_law_320 ?_
    refine w_cM_i (As := [.int (xs (v + 1 : Int32).toNatClampNeg), .int (xs (v + 2 : Int32).toNatClampNeg), .int (0), .int (xs (v + 4 : Int32).toNatClampNeg)]) (rest := [.int (r)]) G V hml (c_M_expect l D b' cs 1000 τ (xs (v + 1 : Int32).toNatClampNeg) (xs (v + 2 : Int32).toNatClampNeg) (0) (xs (v + 4 : Int32).toNatClampNeg) r τ' h2) g_L_35 e_M_expect ⟨Nat.le_of_ble_eq_true rfl, Nat.le_of_ble_eq_true rfl⟩ ⟨rfl, rfl⟩ ⟨by show _ + 0 ≤ 600000; omega, by show _ + 0 ≤ 7302250; omega⟩ rfl hl.1 rfl (Nat.le_of_ble_eq_true rfl) d_L_law_321 (fun H locs V => ?_)
    refine lv_icmp_eq (tgt := 765) hx hb d_L_law_324 (by decide) (fun _ => ?_) (fun h9 => absurd rfl h9)
    exact kk _ _ _ _ _ _ _ hRel V (by omega) (by omega)
  · refine lv_iconst (v := 1) hx hb d_L_law_279 (by decide) ?_
    refine lv_goto (tgt := 284) hx hb d_L_law_280 (by decide) ?_
    refine lv_aload_n hx hb d_L_law_284 rfl (lv_at hl 0 rfl) ?_
    refine lv_iload_n hx hb d_L_law_285 rfl (lv_at hl 3 rfl) ?_
    refine lv_iconst (v := 4) hx hb d_L_law_286 (by decide) ?_
    refine lv_iadd hx hb d_L_law_287 ?_
    refine va_sld hx hb hX hbl hbA V.2.2.2 i4 d_L_law_288 ?_
    obtain ⟨r, σ', τ', h1, h2, hRel⟩ := hs_expect jj σ τ hjj hRel (xs (v + 1 : Int32).toNatClampNeg) (xs (v + 2 : Int32).toNatClampNeg) (1) (xs (v + 4 : Int32).toNatClampNeg) (Or.inr rfl)
    refine w_cX_i (As := [.int (xs (v + 1 : Int32).toNatClampNeg), .int (xs (v + 2 : Int32).toNatClampNeg), .int (1), .int (xs (v + 4 : Int32).toNatClampNeg)]) (rest := []) G V hml (c_T_expect l D b ad cs 1000 σ (xs (v + 1 : Int32).toNatClampNeg) (xs (v + 2 : Int32).toNatClampNeg) (1) (xs (v + 4 : Int32).toNatClampNeg) r σ' h1) g_L_31 e_T_expect ⟨Nat.le_of_ble_eq_true rfl, Nat.le_of_ble_eq_true rfl⟩ ⟨rfl, rfl⟩ ⟨by show _ + 0 ≤ 600000; omega, by show _ + 0 ≤ 7302250; omega⟩ rfl hl.1 rfl (Nat.le_of_ble_eq_true rfl) d_L_law_289 (fun H locs V => ?_)
    refine lv_aload_n hx hb d_L_law_292 rfl (lv_at hl 2 rfl) ?_
    refine lv_aload_n hx hb d_L_law_293 rfl (lv_at hl 0 rfl) ?_
    refine lv_iload_n hx hb d_L_law_294 rfl (lv_at hl 3 rfl) ?_
    refine lv_iconst (v := 1) hx hb d_L_law_295 (by decide) ?_
    refine lv_iadd hx hb d_L_law_296 ?_
    refine va_sld hx hb hX hbl hbA V.2.2.2 i1 d_L_law_297 ?_
    refine lv_aload_n hx hb d_L_law_298 rfl (lv_at hl 0 rfl) ?_
    refine lv_iload_n hx hb d_L_law_299 rfl (lv_at hl 3 rfl) ?_
    refine lv_iconst (v := 2) hx hb d_L_law_300 (by decide) ?_
    refine lv_iadd hx hb d_L_law_301 ?_
    refine va_sld hx hb hX hbl hbA V.2.2.2 i2 d_L_law_302 ?_
    refine lv_aload_n hx hb d_L_law_303 rfl (lv_at hl 0 rfl) ?_
    refine lv_iload_n hx hb d_L_law_304 rfl (lv_at hl 3 rfl) ?_
    refine lv_iconst (v := 3) hx hb d_L_law_305 (by decide) ?_
    refine lv_iadd hx hb d_L_law_306 ?_
    refine va_sld hx hb hX hbl hbA V.2.2.2 i3 d_L_law_307 ?_
    refine lv_if_eq (tgt := 315) hx hb d_L_law_308 (by decide) (fun h9 => absurd h9 hc) (fun _ => ?_)
    refine lv_iconst (v := 1) hx hb d_L_law_311 (by decide) ?_
    refine lv_goto (tgt := 316) hx hb d_L_law_312 (by decide) ?_
    refine lv_aload_n hx hb d_L_law_316 rfl (lv_at hl 0 rfl) ?_
    refine lv_iload_n hx hb d_L_law_317 rfl (lv_at hl 3 rfl) ?_
    refine lv_iconst (v := 4) hx hb d_L_law_318 (by decide) ?_
    refine lv_iadd hx hb d_L_law_319 ?_
    refine va_sld hx hb hX hbl hbA V.2.2.2 i4 d_L_law_320 ?_
    refine w_cM_i (As := [.int (xs (v + 1 : Int32).toNatClampNeg), .int (xs (v + 2 : Int32).toNatClampNeg), .int (1), .int (xs (v + 4 : Int32).toNatClampNeg)]) (rest := [.int (r)]) G V hml (c_M_expect l D b' cs 1000 τ (xs (v + 1 : Int32).toNatClampNeg) (xs (v + 2 : Int32).toNatClampNeg) (1) (xs (v + 4 : Int32).toNatClampNeg) r τ' h2) g_L_35 e_M_expect ⟨Nat.le_of_ble_eq_true rfl, Nat.le_of_ble_eq_true rfl⟩ ⟨rfl, rfl⟩ ⟨by show _ + 0 ≤ 600000; omega, by show _ + 0 ≤ 7302250; omega⟩ rfl hl.1 rfl (Nat.le_of_ble_eq_true rfl) d_L_law_321 (fun H locs V => ?_)
    refine lv_icmp_eq (tgt := 765) hx hb d_L_law_324 (by decide) (fun _ => ?_) (fun h9 => absurd rfl h9)
    exact kk _ _ _ _ _ _ _ hRel V (by omega) (by omega)
set_option maxHeartbeats 40000000 in
set_option maxRecDepth 100000 in
theorem l_case_apply {p : Program} {e : Env} {s : State} {m : MethodId} {below : List Frame} {meth : Method} {c : Code} (l : Launch) {b0 L : Nat} {xs : Nat → Int32} (hL : L ≤ 3076) {D : va_G} {cs : Nat → ClassId} (G : q_G p s m #[Value.ref b0] c code R_L D cs) (hr : meth.sig.returnType = ret) (hlk : meth.locks = false) (hml : c.maxLocals = 4) (hX : va_X b0 L xs s s.heap) (hbl : b0 < s.heap.size) (Rel : Nat → x_T → m_T → Prop) (hs_apply : s_apply Rel) {b ad b' : Nat → Nat} {σ : x_T} {τ : m_T} {H : Heap} {locs : List Loc} {ls : Array Slot} {cl sl jj : Nat} (hjj : jj < 512) (hs_mono : s_mono Rel) (hcl : cl + 8 ≤ 600000) (hsl : sl + 96 ≤ 7302250) (hRel : Rel jj σ τ) (V : w_V D b ad cs σ b' τ s H locs) {v : Int32} (hl : lv_has ls 4 [(0, .ref b0), (1, .ref (b 0)), (2, .ref (b' 0)), (3, .int v)]) (i1 : vp_in (v + 1) L) (i2 : vp_in (v + 2) L) (i3 : vp_in (v + 3) L) (i4 : vp_in (v + 4) L) (i5 : vp_in (v + 5) L) (kk : ∀ (ad : Nat → Nat) (σ : x_T) (τ : m_T) (H : Heap) (locs : List Loc) (cl2 sl2 : Nat), Rel (jj + 1) σ τ → w_V D b ad cs σ b' τ s H locs → cl2 ≤ cl + 8 → sl2 ≤ sl + 96 → W p l e room_1 s m #[Value.ref b0] below meth c H locs cl2 sl2 (lw_Z below #[Value.ref b0] s) (F0 m 765 ls [])) : W p l e room_1 s m #[Value.ref b0] below meth c H locs cl sl (lw_Z below #[Value.ref b0] s) (F0 m 329 ls []) := by
  have hx := G.1
  have hb := G.2.1
  have hbA : ¬ w_A s b0 := Nat.not_le.mpr hbl
  refine lv_aload_n hx hb d_L_law_329 rfl (lv_at hl 1 rfl) ?_
  obtain ⟨r, σ', τ', h1, h2, hRel⟩ := hs_apply jj σ τ hjj hRel
  refine w_dX_i (As := []) (rest := []) G V hml (c_T_apply l D b ad cs 1000 σ r σ' h1) g_L_36 e_T_apply ⟨Nat.le_of_ble_eq_true rfl, Nat.le_of_ble_eq_true rfl⟩ ⟨rfl, rfl⟩ ⟨by show _ + 8 ≤ 600000; omega, by show _ + 96 ≤ 7302250; omega⟩ rfl hl.1 rfl (Nat.le_of_ble_eq_true rfl) d_L_law_330 (fun ad H locs V => ?_)
  refine lv_aload_n hx hb d_L_law_333 rfl (lv_at hl 2 rfl) ?_
  refine w_cM_i (As := []) (rest := [.int (r)]) G V hml (c_M_apply l D b' cs 1000 τ r τ' h2) g_L_40 e_M_apply ⟨Nat.le_of_ble_eq_true rfl, Nat.le_of_ble_eq_true rfl⟩ ⟨rfl, rfl⟩ ⟨by show _ + 0 ≤ 600000; omega, by show _ + 0 ≤ 7302250; omega⟩ rfl hl.1 rfl (Nat.le_of_ble_eq_true rfl) d_L_law_334 (fun H locs V => ?_)
  refine lv_icmp_eq (tgt := 765) hx hb d_L_law_337 (by decide) (fun _ => ?_) (fun h9 => absurd rfl h9)
  exact kk _ _ _ _ _ _ _ hRel V (by omega) (by omega)
set_option maxHeartbeats 40000000 in
set_option maxRecDepth 100000 in
theorem l_case_tear {p : Program} {e : Env} {s : State} {m : MethodId} {below : List Frame} {meth : Method} {c : Code} (l : Launch) {b0 L : Nat} {xs : Nat → Int32} (hL : L ≤ 3076) {D : va_G} {cs : Nat → ClassId} (G : q_G p s m #[Value.ref b0] c code R_L D cs) (hr : meth.sig.returnType = ret) (hlk : meth.locks = false) (hml : c.maxLocals = 4) (hX : va_X b0 L xs s s.heap) (hbl : b0 < s.heap.size) (Rel : Nat → x_T → m_T → Prop) (hs_tear : s_tear Rel) {b ad b' : Nat → Nat} {σ : x_T} {τ : m_T} {H : Heap} {locs : List Loc} {ls : Array Slot} {cl sl jj : Nat} (hjj : jj < 512) (hs_mono : s_mono Rel) (hcl : cl + 8 ≤ 600000) (hsl : sl + 96 ≤ 7302250) (hRel : Rel jj σ τ) (V : w_V D b ad cs σ b' τ s H locs) {v : Int32} (hl : lv_has ls 4 [(0, .ref b0), (1, .ref (b 0)), (2, .ref (b' 0)), (3, .int v)]) (i1 : vp_in (v + 1) L) (i2 : vp_in (v + 2) L) (i3 : vp_in (v + 3) L) (i4 : vp_in (v + 4) L) (i5 : vp_in (v + 5) L) (kk : ∀ (ad : Nat → Nat) (σ : x_T) (τ : m_T) (H : Heap) (locs : List Loc) (cl2 sl2 : Nat), Rel (jj + 1) σ τ → w_V D b ad cs σ b' τ s H locs → cl2 ≤ cl + 8 → sl2 ≤ sl + 96 → W p l e room_1 s m #[Value.ref b0] below meth c H locs cl2 sl2 (lw_Z below #[Value.ref b0] s) (F0 m 765 ls [])) : W p l e room_1 s m #[Value.ref b0] below meth c H locs cl sl (lw_Z below #[Value.ref b0] s) (F0 m 342 ls []) := by
  have hx := G.1
  have hb := G.2.1
  have hbA : ¬ w_A s b0 := Nat.not_le.mpr hbl
  refine lv_aload_n hx hb d_L_law_342 rfl (lv_at hl 1 rfl) ?_
  obtain ⟨σ', τ', h1, h2, hRel⟩ := hs_tear jj σ τ hjj hRel
  refine w_cX_v (As := []) (rest := []) G V hml (c_T_tear l D b ad cs 1000 σ σ' h1) g_L_41 e_T_tear ⟨Nat.le_of_ble_eq_true rfl, Nat.le_of_ble_eq_true rfl⟩ ⟨rfl, rfl⟩ ⟨by show _ + 0 ≤ 600000; omega, by show _ + 0 ≤ 7302250; omega⟩ rfl hl.1 rfl (Nat.le_of_ble_eq_true rfl) d_L_law_343 (fun H locs V => ?_)
  refine lv_aload_n hx hb d_L_law_346 rfl (lv_at hl 2 rfl) ?_
  refine w_cM_v (As := []) (rest := []) G V hml (c_M_tear l D b' cs 1000 τ τ' h2) g_L_44 e_M_tear ⟨Nat.le_of_ble_eq_true rfl, Nat.le_of_ble_eq_true rfl⟩ ⟨rfl, rfl⟩ ⟨by show _ + 0 ≤ 600000; omega, by show _ + 0 ≤ 7302250; omega⟩ rfl hl.1 rfl (Nat.le_of_ble_eq_true rfl) d_L_law_347 (fun H locs V => ?_)
  refine lv_goto (tgt := 765) hx hb d_L_law_350 (by decide) ?_
  exact kk _ _ _ _ _ _ _ hRel V (by omega) (by omega)
set_option maxHeartbeats 40000000 in
set_option maxRecDepth 100000 in
theorem l_case_crash {p : Program} {e : Env} {s : State} {m : MethodId} {below : List Frame} {meth : Method} {c : Code} (l : Launch) {b0 L : Nat} {xs : Nat → Int32} (hL : L ≤ 3076) {D : va_G} {cs : Nat → ClassId} (G : q_G p s m #[Value.ref b0] c code R_L D cs) (hr : meth.sig.returnType = ret) (hlk : meth.locks = false) (hml : c.maxLocals = 4) (hX : va_X b0 L xs s s.heap) (hbl : b0 < s.heap.size) (Rel : Nat → x_T → m_T → Prop) (hs_crash : s_crash Rel) {b ad b' : Nat → Nat} {σ : x_T} {τ : m_T} {H : Heap} {locs : List Loc} {ls : Array Slot} {cl sl jj : Nat} (hjj : jj < 512) (hs_mono : s_mono Rel) (hcl : cl + 8 ≤ 600000) (hsl : sl + 96 ≤ 7302250) (hRel : Rel jj σ τ) (V : w_V D b ad cs σ b' τ s H locs) {v : Int32} (hl : lv_has ls 4 [(0, .ref b0), (1, .ref (b 0)), (2, .ref (b' 0)), (3, .int v)]) (i1 : vp_in (v + 1) L) (i2 : vp_in (v + 2) L) (i3 : vp_in (v + 3) L) (i4 : vp_in (v + 4) L) (i5 : vp_in (v + 5) L) (kk : ∀ (ad : Nat → Nat) (σ : x_T) (τ : m_T) (H : Heap) (locs : List Loc) (cl2 sl2 : Nat), Rel (jj + 1) σ τ → w_V D b ad cs σ b' τ s H locs → cl2 ≤ cl + 8 → sl2 ≤ sl + 96 → W p l e room_1 s m #[Value.ref b0] below meth c H locs cl2 sl2 (lw_Z below #[Value.ref b0] s) (F0 m 765 ls [])) : W p l e room_1 s m #[Value.ref b0] below meth c H locs cl sl (lw_Z below #[Value.ref b0] s) (F0 m 353 ls []) := by
  have hx := G.1
  have hb := G.2.1
  have hbA : ¬ w_A s b0 := Nat.not_le.mpr hbl
  refine lv_aload_n hx hb d_L_law_353 rfl (lv_at hl 1 rfl) ?_
  obtain ⟨σ', τ', h1, h2, hRel⟩ := hs_crash jj σ τ hjj hRel
  refine w_cX_v (As := []) (rest := []) G V hml (c_T_crash l D b ad cs 1000 σ σ' h1) g_L_45 e_T_crash ⟨Nat.le_of_ble_eq_true rfl, Nat.le_of_ble_eq_true rfl⟩ ⟨rfl, rfl⟩ ⟨by show _ + 0 ≤ 600000; omega, by show _ + 0 ≤ 7302250; omega⟩ rfl hl.1 rfl (Nat.le_of_ble_eq_true rfl) d_L_law_354 (fun H locs V => ?_)
  refine lv_aload_n hx hb d_L_law_357 rfl (lv_at hl 2 rfl) ?_
  refine w_cM_v (As := []) (rest := []) G V hml (c_M_crash l D b' cs 1000 τ τ' h2) g_L_48 e_M_crash ⟨Nat.le_of_ble_eq_true rfl, Nat.le_of_ble_eq_true rfl⟩ ⟨rfl, rfl⟩ ⟨by show _ + 0 ≤ 600000; omega, by show _ + 0 ≤ 7302250; omega⟩ rfl hl.1 rfl (Nat.le_of_ble_eq_true rfl) d_L_law_358 (fun H locs V => ?_)
  refine lv_goto (tgt := 765) hx hb d_L_law_361 (by decide) ?_
  exact kk _ _ _ _ _ _ _ hRel V (by omega) (by omega)
set_option maxHeartbeats 40000000 in
set_option maxRecDepth 100000 in
theorem l_case_tick {p : Program} {e : Env} {s : State} {m : MethodId} {below : List Frame} {meth : Method} {c : Code} (l : Launch) {b0 L : Nat} {xs : Nat → Int32} (hL : L ≤ 3076) {D : va_G} {cs : Nat → ClassId} (G : q_G p s m #[Value.ref b0] c code R_L D cs) (hr : meth.sig.returnType = ret) (hlk : meth.locks = false) (hml : c.maxLocals = 4) (hX : va_X b0 L xs s s.heap) (hbl : b0 < s.heap.size) (Rel : Nat → x_T → m_T → Prop) (hs_tick : s_tick Rel) {b ad b' : Nat → Nat} {σ : x_T} {τ : m_T} {H : Heap} {locs : List Loc} {ls : Array Slot} {cl sl jj : Nat} (hjj : jj < 512) (hs_mono : s_mono Rel) (hcl : cl + 8 ≤ 600000) (hsl : sl + 96 ≤ 7302250) (hRel : Rel jj σ τ) (V : w_V D b ad cs σ b' τ s H locs) {v : Int32} (hl : lv_has ls 4 [(0, .ref b0), (1, .ref (b 0)), (2, .ref (b' 0)), (3, .int v)]) (i1 : vp_in (v + 1) L) (i2 : vp_in (v + 2) L) (i3 : vp_in (v + 3) L) (i4 : vp_in (v + 4) L) (i5 : vp_in (v + 5) L) (kk : ∀ (ad : Nat → Nat) (σ : x_T) (τ : m_T) (H : Heap) (locs : List Loc) (cl2 sl2 : Nat), Rel (jj + 1) σ τ → w_V D b ad cs σ b' τ s H locs → cl2 ≤ cl + 8 → sl2 ≤ sl + 96 → W p l e room_1 s m #[Value.ref b0] below meth c H locs cl2 sl2 (lw_Z below #[Value.ref b0] s) (F0 m 765 ls [])) : W p l e room_1 s m #[Value.ref b0] below meth c H locs cl sl (lw_Z below #[Value.ref b0] s) (F0 m 364 ls []) := by
  have hx := G.1
  have hb := G.2.1
  have hbA : ¬ w_A s b0 := Nat.not_le.mpr hbl
  refine lv_aload_n hx hb d_L_law_364 rfl (lv_at hl 1 rfl) ?_
  refine lv_aload_n hx hb d_L_law_365 rfl (lv_at hl 0 rfl) ?_
  refine lv_iload_n hx hb d_L_law_366 rfl (lv_at hl 3 rfl) ?_
  refine lv_iconst (v := 1) hx hb d_L_law_367 (by decide) ?_
  refine lv_iadd hx hb d_L_law_368 ?_
  refine va_sld hx hb hX hbl hbA V.2.2.2 i1 d_L_law_369 ?_
  obtain ⟨r, σ', τ', h1, h2, hRel⟩ := hs_tick jj σ τ hjj hRel (xs (v + 1 : Int32).toNatClampNeg)
  refine w_cX_i (As := [.int (xs (v + 1 : Int32).toNatClampNeg)]) (rest := []) G V hml (c_T_tick l D b ad cs 1000 σ (xs (v + 1 : Int32).toNatClampNeg) r σ' h1) g_L_49 e_T_tick ⟨Nat.le_of_ble_eq_true rfl, Nat.le_of_ble_eq_true rfl⟩ ⟨rfl, rfl⟩ ⟨by show _ + 0 ≤ 600000; omega, by show _ + 0 ≤ 7302250; omega⟩ rfl hl.1 rfl (Nat.le_of_ble_eq_true rfl) d_L_law_370 (fun H locs V => ?_)
  refine lv_aload_n hx hb d_L_law_373 rfl (lv_at hl 2 rfl) ?_
  refine lv_aload_n hx hb d_L_law_374 rfl (lv_at hl 0 rfl) ?_
  refine lv_iload_n hx hb d_L_law_375 rfl (lv_at hl 3 rfl) ?_
  refine lv_iconst (v := 1) hx hb d_L_law_376 (by decide) ?_
  refine lv_iadd hx hb d_L_law_377 ?_
  refine va_sld hx hb hX hbl hbA V.2.2.2 i1 d_L_law_378 ?_
  refine w_cM_i (As := [.int (xs (v + 1 : Int32).toNatClampNeg)]) (rest := [.int (r)]) G V hml (c_M_tick l D b' cs 1000 τ (xs (v + 1 : Int32).toNatClampNeg) r τ' h2) g_L_53 e_M_tick ⟨Nat.le_of_ble_eq_true rfl, Nat.le_of_ble_eq_true rfl⟩ ⟨rfl, rfl⟩ ⟨by show _ + 0 ≤ 600000; omega, by show _ + 0 ≤ 7302250; omega⟩ rfl hl.1 rfl (Nat.le_of_ble_eq_true rfl) d_L_law_379 (fun H locs V => ?_)
  refine lv_icmp_eq (tgt := 765) hx hb d_L_law_382 (by decide) (fun _ => ?_) (fun h9 => absurd rfl h9)
  exact kk _ _ _ _ _ _ _ hRel V (by omega) (by omega)
set_option maxHeartbeats 40000000 in
set_option maxRecDepth 100000 in
theorem l_case_get {p : Program} {e : Env} {s : State} {m : MethodId} {below : List Frame} {meth : Method} {c : Code} (l : Launch) {b0 L : Nat} {xs : Nat → Int32} (hL : L ≤ 3076) {D : va_G} {cs : Nat → ClassId} (G : q_G p s m #[Value.ref b0] c code R_L D cs) (hr : meth.sig.returnType = ret) (hlk : meth.locks = false) (hml : c.maxLocals = 4) (hX : va_X b0 L xs s s.heap) (hbl : b0 < s.heap.size) (Rel : Nat → x_T → m_T → Prop) (hs_get : s_get Rel) {b ad b' : Nat → Nat} {σ : x_T} {τ : m_T} {H : Heap} {locs : List Loc} {ls : Array Slot} {cl sl jj : Nat} (hjj : jj < 512) (hs_mono : s_mono Rel) (hcl : cl + 8 ≤ 600000) (hsl : sl + 96 ≤ 7302250) (hRel : Rel jj σ τ) (V : w_V D b ad cs σ b' τ s H locs) {v : Int32} (hl : lv_has ls 4 [(0, .ref b0), (1, .ref (b 0)), (2, .ref (b' 0)), (3, .int v)]) (i1 : vp_in (v + 1) L) (i2 : vp_in (v + 2) L) (i3 : vp_in (v + 3) L) (i4 : vp_in (v + 4) L) (i5 : vp_in (v + 5) L) (kk : ∀ (ad : Nat → Nat) (σ : x_T) (τ : m_T) (H : Heap) (locs : List Loc) (cl2 sl2 : Nat), Rel (jj + 1) σ τ → w_V D b ad cs σ b' τ s H locs → cl2 ≤ cl + 8 → sl2 ≤ sl + 96 → W p l e room_1 s m #[Value.ref b0] below meth c H locs cl2 sl2 (lw_Z below #[Value.ref b0] s) (F0 m 765 ls [])) : W p l e room_1 s m #[Value.ref b0] below meth c H locs cl sl (lw_Z below #[Value.ref b0] s) (F0 m 387 ls []) := by
  have hx := G.1
  have hb := G.2.1
  have hbA : ¬ w_A s b0 := Nat.not_le.mpr hbl
  refine lv_aload_n hx hb d_L_law_387 rfl (lv_at hl 1 rfl) ?_
  refine lv_aload_n hx hb d_L_law_388 rfl (lv_at hl 0 rfl) ?_
  refine lv_iload_n hx hb d_L_law_389 rfl (lv_at hl 3 rfl) ?_
  refine lv_iconst (v := 1) hx hb d_L_law_390 (by decide) ?_
  refine lv_iadd hx hb d_L_law_391 ?_
  refine va_sld hx hb hX hbl hbA V.2.2.2 i1 d_L_law_392 ?_
  refine lv_aload_n hx hb d_L_law_393 rfl (lv_at hl 0 rfl) ?_
  refine lv_iload_n hx hb d_L_law_394 rfl (lv_at hl 3 rfl) ?_
  refine lv_iconst (v := 2) hx hb d_L_law_395 (by decide) ?_
  refine lv_iadd hx hb d_L_law_396 ?_
  refine va_sld hx hb hX hbl hbA V.2.2.2 i2 d_L_law_397 ?_
  refine lv_aload_n hx hb d_L_law_398 rfl (lv_at hl 0 rfl) ?_
  refine lv_iload_n hx hb d_L_law_399 rfl (lv_at hl 3 rfl) ?_
  refine lv_iconst (v := 3) hx hb d_L_law_400 (by decide) ?_
  refine lv_iadd hx hb d_L_law_401 ?_
  refine va_sld hx hb hX hbl hbA V.2.2.2 i3 d_L_law_402 ?_
  refine lv_aload_n hx hb d_L_law_403 rfl (lv_at hl 0 rfl) ?_
  refine lv_iload_n hx hb d_L_law_404 rfl (lv_at hl 3 rfl) ?_
  refine lv_iconst (v := 4) hx hb d_L_law_405 (by decide) ?_
  refine lv_iadd hx hb d_L_law_406 ?_
  refine va_sld hx hb hX hbl hbA V.2.2.2 i4 d_L_law_407 ?_
  obtain ⟨r, σ', τ', h1, h2, hRel⟩ := hs_get jj σ τ hjj hRel (xs (v + 1 : Int32).toNatClampNeg) (xs (v + 2 : Int32).toNatClampNeg) (xs (v + 3 : Int32).toNatClampNeg) (xs (v + 4 : Int32).toNatClampNeg)
  refine w_cX_l (As := [.int (xs (v + 1 : Int32).toNatClampNeg), .int (xs (v + 2 : Int32).toNatClampNeg), .int (xs (v + 3 : Int32).toNatClampNeg), .int (xs (v + 4 : Int32).toNatClampNeg)]) (rest := []) G V hml (c_T_get l D b ad cs 1000 σ (xs (v + 1 : Int32).toNatClampNeg) (xs (v + 2 : Int32).toNatClampNeg) (xs (v + 3 : Int32).toNatClampNeg) (xs (v + 4 : Int32).toNatClampNeg) r σ' h1) g_L_54 e_T_get ⟨Nat.le_of_ble_eq_true rfl, Nat.le_of_ble_eq_true rfl⟩ ⟨rfl, rfl⟩ ⟨by show _ + 0 ≤ 600000; omega, by show _ + 0 ≤ 7302250; omega⟩ rfl hl.1 rfl (Nat.le_of_ble_eq_true rfl) d_L_law_408 (fun H locs V => ?_)
  refine lv_aload_n hx hb d_L_law_411 rfl (lv_at hl 2 rfl) ?_
  refine lv_aload_n hx hb d_L_law_412 rfl (lv_at hl 0 rfl) ?_
  refine lv_iload_n hx hb d_L_law_413 rfl (lv_at hl 3 rfl) ?_
  refine lv_iconst (v := 1) hx hb d_L_law_414 (by decide) ?_
  refine lv_iadd hx hb d_L_law_415 ?_
  refine va_sld hx hb hX hbl hbA V.2.2.2 i1 d_L_law_416 ?_
  refine lv_aload_n hx hb d_L_law_417 rfl (lv_at hl 0 rfl) ?_
  refine lv_iload_n hx hb d_L_law_418 rfl (lv_at hl 3 rfl) ?_
  refine lv_iconst (v := 2) hx hb d_L_law_419 (by decide) ?_
  refine lv_iadd hx hb d_L_law_420 ?_
  refine va_sld hx hb hX hbl hbA V.2.2.2 i2 d_L_law_421 ?_
  refine lv_aload_n hx hb d_L_law_422 rfl (lv_at hl 0 rfl) ?_
  refine lv_iload_n hx hb d_L_law_423 rfl (lv_at hl 3 rfl) ?_
  refine lv_iconst (v := 3) hx hb d_L_law_424 (by decide) ?_
  refine lv_iadd hx hb d_L_law_425 ?_
  refine va_sld hx hb hX hbl hbA V.2.2.2 i3 d_L_law_426 ?_
  refine lv_aload_n hx hb d_L_law_427 rfl (lv_at hl 0 rfl) ?_
  refine lv_iload_n hx hb d_L_law_428 rfl (lv_at hl 3 rfl) ?_
  refine lv_iconst (v := 4) hx hb d_L_law_429 (by decide) ?_
  refine lv_iadd hx hb d_L_law_430 ?_
  refine va_sld hx hb hX hbl hbA V.2.2.2 i4 d_L_law_431 ?_
  refine w_cM_l (As := [.int (xs (v + 1 : Int32).toNatClampNeg), .int (xs (v + 2 : Int32).toNatClampNeg), .int (xs (v + 3 : Int32).toNatClampNeg), .int (xs (v + 4 : Int32).toNatClampNeg)]) (rest := [.long (r)]) G V hml (c_M_get l D b' cs 1000 τ (xs (v + 1 : Int32).toNatClampNeg) (xs (v + 2 : Int32).toNatClampNeg) (xs (v + 3 : Int32).toNatClampNeg) (xs (v + 4 : Int32).toNatClampNeg) r τ' h2) g_L_58 e_M_get ⟨Nat.le_of_ble_eq_true rfl, Nat.le_of_ble_eq_true rfl⟩ ⟨rfl, rfl⟩ ⟨by show _ + 0 ≤ 600000; omega, by show _ + 0 ≤ 7302250; omega⟩ rfl hl.1 rfl (Nat.le_of_ble_eq_true rfl) d_L_law_432 (fun H locs V => ?_)
  refine W.lcmp hx hb d_L_law_435 ?_
  refine lv_if_eq (tgt := 765) hx hb d_L_law_436 (by decide) (fun _ => ?_) (fun h9 => absurd (q_lg r) h9)
  exact kk _ _ _ _ _ _ _ hRel V (by omega) (by omega)
set_option maxHeartbeats 40000000 in
set_option maxRecDepth 100000 in
theorem l_case_scan {p : Program} {e : Env} {s : State} {m : MethodId} {below : List Frame} {meth : Method} {c : Code} (l : Launch) {b0 L : Nat} {xs : Nat → Int32} (hL : L ≤ 3076) {D : va_G} {cs : Nat → ClassId} (G : q_G p s m #[Value.ref b0] c code R_L D cs) (hr : meth.sig.returnType = ret) (hlk : meth.locks = false) (hml : c.maxLocals = 4) (hX : va_X b0 L xs s s.heap) (hbl : b0 < s.heap.size) (Rel : Nat → x_T → m_T → Prop) (hs_scan : s_scan Rel) {b ad b' : Nat → Nat} {σ : x_T} {τ : m_T} {H : Heap} {locs : List Loc} {ls : Array Slot} {cl sl jj : Nat} (hjj : jj < 512) (hs_mono : s_mono Rel) (hcl : cl + 8 ≤ 600000) (hsl : sl + 96 ≤ 7302250) (hRel : Rel jj σ τ) (V : w_V D b ad cs σ b' τ s H locs) {v : Int32} (hl : lv_has ls 4 [(0, .ref b0), (1, .ref (b 0)), (2, .ref (b' 0)), (3, .int v)]) (i1 : vp_in (v + 1) L) (i2 : vp_in (v + 2) L) (i3 : vp_in (v + 3) L) (i4 : vp_in (v + 4) L) (i5 : vp_in (v + 5) L) (kk : ∀ (ad : Nat → Nat) (σ : x_T) (τ : m_T) (H : Heap) (locs : List Loc) (cl2 sl2 : Nat), Rel (jj + 1) σ τ → w_V D b ad cs σ b' τ s H locs → cl2 ≤ cl + 8 → sl2 ≤ sl + 96 → W p l e room_1 s m #[Value.ref b0] below meth c H locs cl2 sl2 (lw_Z below #[Value.ref b0] s) (F0 m 765 ls [])) : W p l e room_1 s m #[Value.ref b0] below meth c H locs cl sl (lw_Z below #[Value.ref b0] s) (F0 m 441 ls []) := by
  have hx := G.1
  have hb := G.2.1
  have hbA : ¬ w_A s b0 := Nat.not_le.mpr hbl
  refine lv_aload_n hx hb d_L_law_441 rfl (lv_at hl 1 rfl) ?_
  refine lv_aload_n hx hb d_L_law_442 rfl (lv_at hl 0 rfl) ?_
  refine lv_iload_n hx hb d_L_law_443 rfl (lv_at hl 3 rfl) ?_
  refine lv_iconst (v := 1) hx hb d_L_law_444 (by decide) ?_
  refine lv_iadd hx hb d_L_law_445 ?_
  refine va_sld hx hb hX hbl hbA V.2.2.2 i1 d_L_law_446 ?_
  refine lv_aload_n hx hb d_L_law_447 rfl (lv_at hl 0 rfl) ?_
  refine lv_iload_n hx hb d_L_law_448 rfl (lv_at hl 3 rfl) ?_
  refine lv_iconst (v := 2) hx hb d_L_law_449 (by decide) ?_
  refine lv_iadd hx hb d_L_law_450 ?_
  refine va_sld hx hb hX hbl hbA V.2.2.2 i2 d_L_law_451 ?_
  refine lv_aload_n hx hb d_L_law_452 rfl (lv_at hl 0 rfl) ?_
  refine lv_iload_n hx hb d_L_law_453 rfl (lv_at hl 3 rfl) ?_
  refine lv_iconst (v := 3) hx hb d_L_law_454 (by decide) ?_
  refine lv_iadd hx hb d_L_law_455 ?_
  refine va_sld hx hb hX hbl hbA V.2.2.2 i3 d_L_law_456 ?_
  refine lv_aload_n hx hb d_L_law_457 rfl (lv_at hl 0 rfl) ?_
  refine lv_iload_n hx hb d_L_law_458 rfl (lv_at hl 3 rfl) ?_
  refine lv_iconst (v := 4) hx hb d_L_law_459 (by decide) ?_
  refine lv_iadd hx hb d_L_law_460 ?_
  refine va_sld hx hb hX hbl hbA V.2.2.2 i4 d_L_law_461 ?_
  refine lv_aload_n hx hb d_L_law_462 rfl (lv_at hl 0 rfl) ?_
  refine lv_iload_n hx hb d_L_law_463 rfl (lv_at hl 3 rfl) ?_
  refine lv_iconst (v := 5) hx hb d_L_law_464 (by decide) ?_
  refine lv_iadd hx hb d_L_law_465 ?_
  refine va_sld hx hb hX hbl hbA V.2.2.2 i5 d_L_law_466 ?_
  obtain ⟨r, σ', τ', h1, h2, hRel⟩ := hs_scan jj σ τ hjj hRel (xs (v + 1 : Int32).toNatClampNeg) (xs (v + 2 : Int32).toNatClampNeg) (xs (v + 3 : Int32).toNatClampNeg) (xs (v + 4 : Int32).toNatClampNeg) (xs (v + 5 : Int32).toNatClampNeg)
  refine w_cX_i (As := [.int (xs (v + 1 : Int32).toNatClampNeg), .int (xs (v + 2 : Int32).toNatClampNeg), .int (xs (v + 3 : Int32).toNatClampNeg), .int (xs (v + 4 : Int32).toNatClampNeg), .int (xs (v + 5 : Int32).toNatClampNeg)]) (rest := []) G V hml (c_T_scan l D b ad cs 1000 σ (xs (v + 1 : Int32).toNatClampNeg) (xs (v + 2 : Int32).toNatClampNeg) (xs (v + 3 : Int32).toNatClampNeg) (xs (v + 4 : Int32).toNatClampNeg) (xs (v + 5 : Int32).toNatClampNeg) r σ' h1) g_L_59 e_T_scan ⟨Nat.le_of_ble_eq_true rfl, Nat.le_of_ble_eq_true rfl⟩ ⟨rfl, rfl⟩ ⟨by show _ + 0 ≤ 600000; omega, by show _ + 0 ≤ 7302250; omega⟩ rfl hl.1 rfl (Nat.le_of_ble_eq_true rfl) d_L_law_467 (fun H locs V => ?_)
  refine lv_aload_n hx hb d_L_law_470 rfl (lv_at hl 2 rfl) ?_
  refine lv_aload_n hx hb d_L_law_471 rfl (lv_at hl 0 rfl) ?_
  refine lv_iload_n hx hb d_L_law_472 rfl (lv_at hl 3 rfl) ?_
  refine lv_iconst (v := 1) hx hb d_L_law_473 (by decide) ?_
  refine lv_iadd hx hb d_L_law_474 ?_
  refine va_sld hx hb hX hbl hbA V.2.2.2 i1 d_L_law_475 ?_
  refine lv_aload_n hx hb d_L_law_476 rfl (lv_at hl 0 rfl) ?_
  refine lv_iload_n hx hb d_L_law_477 rfl (lv_at hl 3 rfl) ?_
  refine lv_iconst (v := 2) hx hb d_L_law_478 (by decide) ?_
  refine lv_iadd hx hb d_L_law_479 ?_
  refine va_sld hx hb hX hbl hbA V.2.2.2 i2 d_L_law_480 ?_
  refine lv_aload_n hx hb d_L_law_481 rfl (lv_at hl 0 rfl) ?_
  refine lv_iload_n hx hb d_L_law_482 rfl (lv_at hl 3 rfl) ?_
  refine lv_iconst (v := 3) hx hb d_L_law_483 (by decide) ?_
  refine lv_iadd hx hb d_L_law_484 ?_
  refine va_sld hx hb hX hbl hbA V.2.2.2 i3 d_L_law_485 ?_
  refine lv_aload_n hx hb d_L_law_486 rfl (lv_at hl 0 rfl) ?_
  refine lv_iload_n hx hb d_L_law_487 rfl (lv_at hl 3 rfl) ?_
  refine lv_iconst (v := 4) hx hb d_L_law_488 (by decide) ?_
  refine lv_iadd hx hb d_L_law_489 ?_
  refine va_sld hx hb hX hbl hbA V.2.2.2 i4 d_L_law_490 ?_
  refine lv_aload_n hx hb d_L_law_491 rfl (lv_at hl 0 rfl) ?_
  refine lv_iload_n hx hb d_L_law_492 rfl (lv_at hl 3 rfl) ?_
  refine lv_iconst (v := 5) hx hb d_L_law_493 (by decide) ?_
  refine lv_iadd hx hb d_L_law_494 ?_
  refine va_sld hx hb hX hbl hbA V.2.2.2 i5 d_L_law_495 ?_
  refine w_cM_i (As := [.int (xs (v + 1 : Int32).toNatClampNeg), .int (xs (v + 2 : Int32).toNatClampNeg), .int (xs (v + 3 : Int32).toNatClampNeg), .int (xs (v + 4 : Int32).toNatClampNeg), .int (xs (v + 5 : Int32).toNatClampNeg)]) (rest := [.int (r)]) G V hml (c_M_scan l D b' cs 1000 τ (xs (v + 1 : Int32).toNatClampNeg) (xs (v + 2 : Int32).toNatClampNeg) (xs (v + 3 : Int32).toNatClampNeg) (xs (v + 4 : Int32).toNatClampNeg) (xs (v + 5 : Int32).toNatClampNeg) r τ' h2) g_L_63 e_M_scan ⟨Nat.le_of_ble_eq_true rfl, Nat.le_of_ble_eq_true rfl⟩ ⟨rfl, rfl⟩ ⟨by show _ + 0 ≤ 600000; omega, by show _ + 0 ≤ 7302250; omega⟩ rfl hl.1 rfl (Nat.le_of_ble_eq_true rfl) d_L_law_496 (fun H locs V => ?_)
  refine lv_icmp_eq (tgt := 765) hx hb d_L_law_499 (by decide) (fun _ => ?_) (fun h9 => absurd rfl h9)
  exact kk _ _ _ _ _ _ _ hRel V (by omega) (by omega)
set_option maxHeartbeats 40000000 in
set_option maxRecDepth 100000 in
theorem l_case_found {p : Program} {e : Env} {s : State} {m : MethodId} {below : List Frame} {meth : Method} {c : Code} (l : Launch) {b0 L : Nat} {xs : Nat → Int32} (hL : L ≤ 3076) {D : va_G} {cs : Nat → ClassId} (G : q_G p s m #[Value.ref b0] c code R_L D cs) (hr : meth.sig.returnType = ret) (hlk : meth.locks = false) (hml : c.maxLocals = 4) (hX : va_X b0 L xs s s.heap) (hbl : b0 < s.heap.size) (Rel : Nat → x_T → m_T → Prop) (hs_found : s_found Rel) {b ad b' : Nat → Nat} {σ : x_T} {τ : m_T} {H : Heap} {locs : List Loc} {ls : Array Slot} {cl sl jj : Nat} (hjj : jj < 512) (hs_mono : s_mono Rel) (hcl : cl + 8 ≤ 600000) (hsl : sl + 96 ≤ 7302250) (hRel : Rel jj σ τ) (V : w_V D b ad cs σ b' τ s H locs) {v : Int32} (hl : lv_has ls 4 [(0, .ref b0), (1, .ref (b 0)), (2, .ref (b' 0)), (3, .int v)]) (i1 : vp_in (v + 1) L) (i2 : vp_in (v + 2) L) (i3 : vp_in (v + 3) L) (i4 : vp_in (v + 4) L) (i5 : vp_in (v + 5) L) (kk : ∀ (ad : Nat → Nat) (σ : x_T) (τ : m_T) (H : Heap) (locs : List Loc) (cl2 sl2 : Nat), Rel (jj + 1) σ τ → w_V D b ad cs σ b' τ s H locs → cl2 ≤ cl + 8 → sl2 ≤ sl + 96 → W p l e room_1 s m #[Value.ref b0] below meth c H locs cl2 sl2 (lw_Z below #[Value.ref b0] s) (F0 m 765 ls [])) : W p l e room_1 s m #[Value.ref b0] below meth c H locs cl sl (lw_Z below #[Value.ref b0] s) (F0 m 504 ls []) := by
  have hx := G.1
  have hb := G.2.1
  have hbA : ¬ w_A s b0 := Nat.not_le.mpr hbl
  refine lv_aload_n hx hb d_L_law_504 rfl (lv_at hl 1 rfl) ?_
  refine lv_aload_n hx hb d_L_law_505 rfl (lv_at hl 0 rfl) ?_
  refine lv_iload_n hx hb d_L_law_506 rfl (lv_at hl 3 rfl) ?_
  refine lv_iconst (v := 1) hx hb d_L_law_507 (by decide) ?_
  refine lv_iadd hx hb d_L_law_508 ?_
  refine va_sld hx hb hX hbl hbA V.2.2.2 i1 d_L_law_509 ?_
  obtain ⟨r, h1, h2⟩ := hs_found jj σ τ hjj hRel (xs (v + 1 : Int32).toNatClampNeg)
  refine w_cX_l (As := [.int (xs (v + 1 : Int32).toNatClampNeg)]) (rest := []) G V hml (c_T_found l D b ad cs 1000 σ (xs (v + 1 : Int32).toNatClampNeg) r h1) g_L_64 e_T_found ⟨Nat.le_of_ble_eq_true rfl, Nat.le_of_ble_eq_true rfl⟩ ⟨rfl, rfl⟩ ⟨by show _ + 0 ≤ 600000; omega, by show _ + 0 ≤ 7302250; omega⟩ rfl hl.1 rfl (Nat.le_of_ble_eq_true rfl) d_L_law_510 (fun H locs V => ?_)
  refine lv_aload_n hx hb d_L_law_513 rfl (lv_at hl 2 rfl) ?_
  refine lv_aload_n hx hb d_L_law_514 rfl (lv_at hl 0 rfl) ?_
  refine lv_iload_n hx hb d_L_law_515 rfl (lv_at hl 3 rfl) ?_
  refine lv_iconst (v := 1) hx hb d_L_law_516 (by decide) ?_
  refine lv_iadd hx hb d_L_law_517 ?_
  refine va_sld hx hb hX hbl hbA V.2.2.2 i1 d_L_law_518 ?_
  refine w_cM_l (As := [.int (xs (v + 1 : Int32).toNatClampNeg)]) (rest := [.long (r)]) G V hml (c_M_found l D b' cs 1000 τ (xs (v + 1 : Int32).toNatClampNeg) r h2) g_L_68 e_M_found ⟨Nat.le_of_ble_eq_true rfl, Nat.le_of_ble_eq_true rfl⟩ ⟨rfl, rfl⟩ ⟨by show _ + 0 ≤ 600000; omega, by show _ + 0 ≤ 7302250; omega⟩ rfl hl.1 rfl (Nat.le_of_ble_eq_true rfl) d_L_law_519 (fun H locs V => ?_)
  refine W.lcmp hx hb d_L_law_522 ?_
  refine lv_if_eq (tgt := 765) hx hb d_L_law_523 (by decide) (fun _ => ?_) (fun h9 => absurd (q_lg r) h9)
  exact kk _ _ _ _ _ _ _ (hs_mono _ _ _ hRel) V (by omega) (by omega)
set_option maxHeartbeats 40000000 in
set_option maxRecDepth 100000 in
theorem l_case_flush {p : Program} {e : Env} {s : State} {m : MethodId} {below : List Frame} {meth : Method} {c : Code} (l : Launch) {b0 L : Nat} {xs : Nat → Int32} (hL : L ≤ 3076) {D : va_G} {cs : Nat → ClassId} (G : q_G p s m #[Value.ref b0] c code R_L D cs) (hr : meth.sig.returnType = ret) (hlk : meth.locks = false) (hml : c.maxLocals = 4) (hX : va_X b0 L xs s s.heap) (hbl : b0 < s.heap.size) (Rel : Nat → x_T → m_T → Prop) (hs_flush : s_flush Rel) {b ad b' : Nat → Nat} {σ : x_T} {τ : m_T} {H : Heap} {locs : List Loc} {ls : Array Slot} {cl sl jj : Nat} (hjj : jj < 512) (hs_mono : s_mono Rel) (hcl : cl + 8 ≤ 600000) (hsl : sl + 96 ≤ 7302250) (hRel : Rel jj σ τ) (V : w_V D b ad cs σ b' τ s H locs) {v : Int32} (hl : lv_has ls 4 [(0, .ref b0), (1, .ref (b 0)), (2, .ref (b' 0)), (3, .int v)]) (i1 : vp_in (v + 1) L) (i2 : vp_in (v + 2) L) (i3 : vp_in (v + 3) L) (i4 : vp_in (v + 4) L) (i5 : vp_in (v + 5) L) (kk : ∀ (ad : Nat → Nat) (σ : x_T) (τ : m_T) (H : Heap) (locs : List Loc) (cl2 sl2 : Nat), Rel (jj + 1) σ τ → w_V D b ad cs σ b' τ s H locs → cl2 ≤ cl + 8 → sl2 ≤ sl + 96 → W p l e room_1 s m #[Value.ref b0] below meth c H locs cl2 sl2 (lw_Z below #[Value.ref b0] s) (F0 m 765 ls [])) : W p l e room_1 s m #[Value.ref b0] below meth c H locs cl sl (lw_Z below #[Value.ref b0] s) (F0 m 528 ls []) := by
  have hx := G.1
  have hb := G.2.1
  have hbA : ¬ w_A s b0 := Nat.not_le.mpr hbl
  refine lv_aload_n hx hb d_L_law_528 rfl (lv_at hl 1 rfl) ?_
  refine lv_aload_n hx hb d_L_law_529 rfl (lv_at hl 0 rfl) ?_
  refine lv_iload_n hx hb d_L_law_530 rfl (lv_at hl 3 rfl) ?_
  refine lv_iconst (v := 1) hx hb d_L_law_531 (by decide) ?_
  refine lv_iadd hx hb d_L_law_532 ?_
  refine va_sld hx hb hX hbl hbA V.2.2.2 i1 d_L_law_533 ?_
  obtain ⟨r, σ', τ', h1, h2, hRel⟩ := hs_flush jj σ τ hjj hRel (xs (v + 1 : Int32).toNatClampNeg)
  refine w_cX_i (As := [.int (xs (v + 1 : Int32).toNatClampNeg)]) (rest := []) G V hml (c_T_flush l D b ad cs 1000 σ (xs (v + 1 : Int32).toNatClampNeg) r σ' h1) g_L_69 e_T_flush ⟨Nat.le_of_ble_eq_true rfl, Nat.le_of_ble_eq_true rfl⟩ ⟨rfl, rfl⟩ ⟨by show _ + 0 ≤ 600000; omega, by show _ + 0 ≤ 7302250; omega⟩ rfl hl.1 rfl (Nat.le_of_ble_eq_true rfl) d_L_law_534 (fun H locs V => ?_)
  refine lv_aload_n hx hb d_L_law_537 rfl (lv_at hl 2 rfl) ?_
  refine lv_aload_n hx hb d_L_law_538 rfl (lv_at hl 0 rfl) ?_
  refine lv_iload_n hx hb d_L_law_539 rfl (lv_at hl 3 rfl) ?_
  refine lv_iconst (v := 1) hx hb d_L_law_540 (by decide) ?_
  refine lv_iadd hx hb d_L_law_541 ?_
  refine va_sld hx hb hX hbl hbA V.2.2.2 i1 d_L_law_542 ?_
  refine w_cM_i (As := [.int (xs (v + 1 : Int32).toNatClampNeg)]) (rest := [.int (r)]) G V hml (c_M_flush l D b' cs 1000 τ (xs (v + 1 : Int32).toNatClampNeg) r τ' h2) g_L_72 e_M_flush ⟨Nat.le_of_ble_eq_true rfl, Nat.le_of_ble_eq_true rfl⟩ ⟨rfl, rfl⟩ ⟨by show _ + 0 ≤ 600000; omega, by show _ + 0 ≤ 7302250; omega⟩ rfl hl.1 rfl (Nat.le_of_ble_eq_true rfl) d_L_law_543 (fun H locs V => ?_)
  refine lv_icmp_eq (tgt := 765) hx hb d_L_law_546 (by decide) (fun _ => ?_) (fun h9 => absurd rfl h9)
  exact kk _ _ _ _ _ _ _ hRel V (by omega) (by omega)
set_option maxHeartbeats 40000000 in
set_option maxRecDepth 100000 in
theorem l_case_compact {p : Program} {e : Env} {s : State} {m : MethodId} {below : List Frame} {meth : Method} {c : Code} (l : Launch) {b0 L : Nat} {xs : Nat → Int32} (hL : L ≤ 3076) {D : va_G} {cs : Nat → ClassId} (G : q_G p s m #[Value.ref b0] c code R_L D cs) (hr : meth.sig.returnType = ret) (hlk : meth.locks = false) (hml : c.maxLocals = 4) (hX : va_X b0 L xs s s.heap) (hbl : b0 < s.heap.size) (Rel : Nat → x_T → m_T → Prop) (hs_compact : s_compact Rel) {b ad b' : Nat → Nat} {σ : x_T} {τ : m_T} {H : Heap} {locs : List Loc} {ls : Array Slot} {cl sl jj : Nat} (hjj : jj < 512) (hs_mono : s_mono Rel) (hcl : cl + 8 ≤ 600000) (hsl : sl + 96 ≤ 7302250) (hRel : Rel jj σ τ) (V : w_V D b ad cs σ b' τ s H locs) {v : Int32} (hl : lv_has ls 4 [(0, .ref b0), (1, .ref (b 0)), (2, .ref (b' 0)), (3, .int v)]) (i1 : vp_in (v + 1) L) (i2 : vp_in (v + 2) L) (i3 : vp_in (v + 3) L) (i4 : vp_in (v + 4) L) (i5 : vp_in (v + 5) L) (kk : ∀ (ad : Nat → Nat) (σ : x_T) (τ : m_T) (H : Heap) (locs : List Loc) (cl2 sl2 : Nat), Rel (jj + 1) σ τ → w_V D b ad cs σ b' τ s H locs → cl2 ≤ cl + 8 → sl2 ≤ sl + 96 → W p l e room_1 s m #[Value.ref b0] below meth c H locs cl2 sl2 (lw_Z below #[Value.ref b0] s) (F0 m 765 ls [])) : W p l e room_1 s m #[Value.ref b0] below meth c H locs cl sl (lw_Z below #[Value.ref b0] s) (F0 m 551 ls []) := by
  have hx := G.1
  have hb := G.2.1
  have hbA : ¬ w_A s b0 := Nat.not_le.mpr hbl
  refine lv_aload_n hx hb d_L_law_551 rfl (lv_at hl 1 rfl) ?_
  refine lv_aload_n hx hb d_L_law_552 rfl (lv_at hl 0 rfl) ?_
  refine lv_iload_n hx hb d_L_law_553 rfl (lv_at hl 3 rfl) ?_
  refine lv_iconst (v := 1) hx hb d_L_law_554 (by decide) ?_
  refine lv_iadd hx hb d_L_law_555 ?_
  refine va_sld hx hb hX hbl hbA V.2.2.2 i1 d_L_law_556 ?_
  refine lv_aload_n hx hb d_L_law_557 rfl (lv_at hl 0 rfl) ?_
  refine lv_iload_n hx hb d_L_law_558 rfl (lv_at hl 3 rfl) ?_
  refine lv_iconst (v := 2) hx hb d_L_law_559 (by decide) ?_
  refine lv_iadd hx hb d_L_law_560 ?_
  refine va_sld hx hb hX hbl hbA V.2.2.2 i2 d_L_law_561 ?_
  obtain ⟨r, σ', τ', h1, h2, hRel⟩ := hs_compact jj σ τ hjj hRel (xs (v + 1 : Int32).toNatClampNeg) (xs (v + 2 : Int32).toNatClampNeg)
  refine w_cX_i (As := [.int (xs (v + 1 : Int32).toNatClampNeg), .int (xs (v + 2 : Int32).toNatClampNeg)]) (rest := []) G V hml (c_T_compact l D b ad cs 1000 σ (xs (v + 1 : Int32).toNatClampNeg) (xs (v + 2 : Int32).toNatClampNeg) r σ' h1) g_L_73 e_T_compact ⟨Nat.le_of_ble_eq_true rfl, Nat.le_of_ble_eq_true rfl⟩ ⟨rfl, rfl⟩ ⟨by show _ + 0 ≤ 600000; omega, by show _ + 0 ≤ 7302250; omega⟩ rfl hl.1 rfl (Nat.le_of_ble_eq_true rfl) d_L_law_562 (fun H locs V => ?_)
  refine lv_aload_n hx hb d_L_law_565 rfl (lv_at hl 2 rfl) ?_
  refine lv_aload_n hx hb d_L_law_566 rfl (lv_at hl 0 rfl) ?_
  refine lv_iload_n hx hb d_L_law_567 rfl (lv_at hl 3 rfl) ?_
  refine lv_iconst (v := 1) hx hb d_L_law_568 (by decide) ?_
  refine lv_iadd hx hb d_L_law_569 ?_
  refine va_sld hx hb hX hbl hbA V.2.2.2 i1 d_L_law_570 ?_
  refine lv_aload_n hx hb d_L_law_571 rfl (lv_at hl 0 rfl) ?_
  refine lv_iload_n hx hb d_L_law_572 rfl (lv_at hl 3 rfl) ?_
  refine lv_iconst (v := 2) hx hb d_L_law_573 (by decide) ?_
  refine lv_iadd hx hb d_L_law_574 ?_
  refine va_sld hx hb hX hbl hbA V.2.2.2 i2 d_L_law_575 ?_
  refine w_cM_i (As := [.int (xs (v + 1 : Int32).toNatClampNeg), .int (xs (v + 2 : Int32).toNatClampNeg)]) (rest := [.int (r)]) G V hml (c_M_compact l D b' cs 1000 τ (xs (v + 1 : Int32).toNatClampNeg) (xs (v + 2 : Int32).toNatClampNeg) r τ' h2) g_L_77 e_M_compact ⟨Nat.le_of_ble_eq_true rfl, Nat.le_of_ble_eq_true rfl⟩ ⟨rfl, rfl⟩ ⟨by show _ + 0 ≤ 600000; omega, by show _ + 0 ≤ 7302250; omega⟩ rfl hl.1 rfl (Nat.le_of_ble_eq_true rfl) d_L_law_576 (fun H locs V => ?_)
  refine lv_icmp_eq (tgt := 765) hx hb d_L_law_579 (by decide) (fun _ => ?_) (fun h9 => absurd rfl h9)
  exact kk _ _ _ _ _ _ _ hRel V (by omega) (by omega)
set_option maxHeartbeats 40000000 in
set_option maxRecDepth 100000 in
theorem l_case_major {p : Program} {e : Env} {s : State} {m : MethodId} {below : List Frame} {meth : Method} {c : Code} (l : Launch) {b0 L : Nat} {xs : Nat → Int32} (hL : L ≤ 3076) {D : va_G} {cs : Nat → ClassId} (G : q_G p s m #[Value.ref b0] c code R_L D cs) (hr : meth.sig.returnType = ret) (hlk : meth.locks = false) (hml : c.maxLocals = 4) (hX : va_X b0 L xs s s.heap) (hbl : b0 < s.heap.size) (Rel : Nat → x_T → m_T → Prop) (hs_major : s_major Rel) {b ad b' : Nat → Nat} {σ : x_T} {τ : m_T} {H : Heap} {locs : List Loc} {ls : Array Slot} {cl sl jj : Nat} (hjj : jj < 512) (hs_mono : s_mono Rel) (hcl : cl + 8 ≤ 600000) (hsl : sl + 96 ≤ 7302250) (hRel : Rel jj σ τ) (V : w_V D b ad cs σ b' τ s H locs) {v : Int32} (hl : lv_has ls 4 [(0, .ref b0), (1, .ref (b 0)), (2, .ref (b' 0)), (3, .int v)]) (i1 : vp_in (v + 1) L) (i2 : vp_in (v + 2) L) (i3 : vp_in (v + 3) L) (i4 : vp_in (v + 4) L) (i5 : vp_in (v + 5) L) (kk : ∀ (ad : Nat → Nat) (σ : x_T) (τ : m_T) (H : Heap) (locs : List Loc) (cl2 sl2 : Nat), Rel (jj + 1) σ τ → w_V D b ad cs σ b' τ s H locs → cl2 ≤ cl + 8 → sl2 ≤ sl + 96 → W p l e room_1 s m #[Value.ref b0] below meth c H locs cl2 sl2 (lw_Z below #[Value.ref b0] s) (F0 m 765 ls [])) : W p l e room_1 s m #[Value.ref b0] below meth c H locs cl sl (lw_Z below #[Value.ref b0] s) (F0 m 584 ls []) := by
  have hx := G.1
  have hb := G.2.1
  have hbA : ¬ w_A s b0 := Nat.not_le.mpr hbl
  refine lv_aload_n hx hb d_L_law_584 rfl (lv_at hl 1 rfl) ?_
  refine lv_aload_n hx hb d_L_law_585 rfl (lv_at hl 0 rfl) ?_
  refine lv_iload_n hx hb d_L_law_586 rfl (lv_at hl 3 rfl) ?_
  refine lv_iconst (v := 1) hx hb d_L_law_587 (by decide) ?_
  refine lv_iadd hx hb d_L_law_588 ?_
  refine va_sld hx hb hX hbl hbA V.2.2.2 i1 d_L_law_589 ?_
  obtain ⟨r, σ', τ', h1, h2, hRel⟩ := hs_major jj σ τ hjj hRel (xs (v + 1 : Int32).toNatClampNeg)
  refine w_cX_i (As := [.int (xs (v + 1 : Int32).toNatClampNeg)]) (rest := []) G V hml (c_T_major l D b ad cs 1000 σ (xs (v + 1 : Int32).toNatClampNeg) r σ' h1) g_L_78 e_T_major ⟨Nat.le_of_ble_eq_true rfl, Nat.le_of_ble_eq_true rfl⟩ ⟨rfl, rfl⟩ ⟨by show _ + 0 ≤ 600000; omega, by show _ + 0 ≤ 7302250; omega⟩ rfl hl.1 rfl (Nat.le_of_ble_eq_true rfl) d_L_law_590 (fun H locs V => ?_)
  refine lv_aload_n hx hb d_L_law_593 rfl (lv_at hl 2 rfl) ?_
  refine lv_aload_n hx hb d_L_law_594 rfl (lv_at hl 0 rfl) ?_
  refine lv_iload_n hx hb d_L_law_595 rfl (lv_at hl 3 rfl) ?_
  refine lv_iconst (v := 1) hx hb d_L_law_596 (by decide) ?_
  refine lv_iadd hx hb d_L_law_597 ?_
  refine va_sld hx hb hX hbl hbA V.2.2.2 i1 d_L_law_598 ?_
  refine w_cM_i (As := [.int (xs (v + 1 : Int32).toNatClampNeg)]) (rest := [.int (r)]) G V hml (c_M_major l D b' cs 1000 τ (xs (v + 1 : Int32).toNatClampNeg) r τ' h2) g_L_81 e_M_major ⟨Nat.le_of_ble_eq_true rfl, Nat.le_of_ble_eq_true rfl⟩ ⟨rfl, rfl⟩ ⟨by show _ + 0 ≤ 600000; omega, by show _ + 0 ≤ 7302250; omega⟩ rfl hl.1 rfl (Nat.le_of_ble_eq_true rfl) d_L_law_599 (fun H locs V => ?_)
  refine lv_icmp_eq (tgt := 765) hx hb d_L_law_602 (by decide) (fun _ => ?_) (fun h9 => absurd rfl h9)
  exact kk _ _ _ _ _ _ _ hRel V (by omega) (by omega)
set_option maxHeartbeats 40000000 in
set_option maxRecDepth 100000 in
theorem l_case_split {p : Program} {e : Env} {s : State} {m : MethodId} {below : List Frame} {meth : Method} {c : Code} (l : Launch) {b0 L : Nat} {xs : Nat → Int32} (hL : L ≤ 3076) {D : va_G} {cs : Nat → ClassId} (G : q_G p s m #[Value.ref b0] c code R_L D cs) (hr : meth.sig.returnType = ret) (hlk : meth.locks = false) (hml : c.maxLocals = 4) (hX : va_X b0 L xs s s.heap) (hbl : b0 < s.heap.size) (Rel : Nat → x_T → m_T → Prop) (hs_split : s_split Rel) {b ad b' : Nat → Nat} {σ : x_T} {τ : m_T} {H : Heap} {locs : List Loc} {ls : Array Slot} {cl sl jj : Nat} (hjj : jj < 512) (hs_mono : s_mono Rel) (hcl : cl + 8 ≤ 600000) (hsl : sl + 96 ≤ 7302250) (hRel : Rel jj σ τ) (V : w_V D b ad cs σ b' τ s H locs) {v : Int32} (hl : lv_has ls 4 [(0, .ref b0), (1, .ref (b 0)), (2, .ref (b' 0)), (3, .int v)]) (i1 : vp_in (v + 1) L) (i2 : vp_in (v + 2) L) (i3 : vp_in (v + 3) L) (i4 : vp_in (v + 4) L) (i5 : vp_in (v + 5) L) (kk : ∀ (ad : Nat → Nat) (σ : x_T) (τ : m_T) (H : Heap) (locs : List Loc) (cl2 sl2 : Nat), Rel (jj + 1) σ τ → w_V D b ad cs σ b' τ s H locs → cl2 ≤ cl + 8 → sl2 ≤ sl + 96 → W p l e room_1 s m #[Value.ref b0] below meth c H locs cl2 sl2 (lw_Z below #[Value.ref b0] s) (F0 m 765 ls [])) : W p l e room_1 s m #[Value.ref b0] below meth c H locs cl sl (lw_Z below #[Value.ref b0] s) (F0 m 607 ls []) := by
  have hx := G.1
  have hb := G.2.1
  have hbA : ¬ w_A s b0 := Nat.not_le.mpr hbl
  refine lv_aload_n hx hb d_L_law_607 rfl (lv_at hl 1 rfl) ?_
  refine lv_aload_n hx hb d_L_law_608 rfl (lv_at hl 0 rfl) ?_
  refine lv_iload_n hx hb d_L_law_609 rfl (lv_at hl 3 rfl) ?_
  refine lv_iconst (v := 1) hx hb d_L_law_610 (by decide) ?_
  refine lv_iadd hx hb d_L_law_611 ?_
  refine va_sld hx hb hX hbl hbA V.2.2.2 i1 d_L_law_612 ?_
  refine lv_aload_n hx hb d_L_law_613 rfl (lv_at hl 0 rfl) ?_
  refine lv_iload_n hx hb d_L_law_614 rfl (lv_at hl 3 rfl) ?_
  refine lv_iconst (v := 2) hx hb d_L_law_615 (by decide) ?_
  refine lv_iadd hx hb d_L_law_616 ?_
  refine va_sld hx hb hX hbl hbA V.2.2.2 i2 d_L_law_617 ?_
  obtain ⟨r, σ', τ', h1, h2, hRel⟩ := hs_split jj σ τ hjj hRel (xs (v + 1 : Int32).toNatClampNeg) (xs (v + 2 : Int32).toNatClampNeg)
  refine w_cX_i (As := [.int (xs (v + 1 : Int32).toNatClampNeg), .int (xs (v + 2 : Int32).toNatClampNeg)]) (rest := []) G V hml (c_T_split l D b ad cs 1000 σ (xs (v + 1 : Int32).toNatClampNeg) (xs (v + 2 : Int32).toNatClampNeg) r σ' h1) g_L_82 e_T_split ⟨Nat.le_of_ble_eq_true rfl, Nat.le_of_ble_eq_true rfl⟩ ⟨rfl, rfl⟩ ⟨by show _ + 0 ≤ 600000; omega, by show _ + 0 ≤ 7302250; omega⟩ rfl hl.1 rfl (Nat.le_of_ble_eq_true rfl) d_L_law_618 (fun H locs V => ?_)
  refine lv_aload_n hx hb d_L_law_621 rfl (lv_at hl 2 rfl) ?_
  refine lv_aload_n hx hb d_L_law_622 rfl (lv_at hl 0 rfl) ?_
  refine lv_iload_n hx hb d_L_law_623 rfl (lv_at hl 3 rfl) ?_
  refine lv_iconst (v := 1) hx hb d_L_law_624 (by decide) ?_
  refine lv_iadd hx hb d_L_law_625 ?_
  refine va_sld hx hb hX hbl hbA V.2.2.2 i1 d_L_law_626 ?_
  refine lv_aload_n hx hb d_L_law_627 rfl (lv_at hl 0 rfl) ?_
  refine lv_iload_n hx hb d_L_law_628 rfl (lv_at hl 3 rfl) ?_
  refine lv_iconst (v := 2) hx hb d_L_law_629 (by decide) ?_
  refine lv_iadd hx hb d_L_law_630 ?_
  refine va_sld hx hb hX hbl hbA V.2.2.2 i2 d_L_law_631 ?_
  refine w_cM_i (As := [.int (xs (v + 1 : Int32).toNatClampNeg), .int (xs (v + 2 : Int32).toNatClampNeg)]) (rest := [.int (r)]) G V hml (c_M_split l D b' cs 1000 τ (xs (v + 1 : Int32).toNatClampNeg) (xs (v + 2 : Int32).toNatClampNeg) r τ' h2) g_L_86 e_M_split ⟨Nat.le_of_ble_eq_true rfl, Nat.le_of_ble_eq_true rfl⟩ ⟨rfl, rfl⟩ ⟨by show _ + 0 ≤ 600000; omega, by show _ + 0 ≤ 7302250; omega⟩ rfl hl.1 rfl (Nat.le_of_ble_eq_true rfl) d_L_law_632 (fun H locs V => ?_)
  refine lv_icmp_eq (tgt := 765) hx hb d_L_law_635 (by decide) (fun _ => ?_) (fun h9 => absurd rfl h9)
  exact kk _ _ _ _ _ _ _ hRel V (by omega) (by omega)
set_option maxHeartbeats 40000000 in
set_option maxRecDepth 100000 in
theorem l_case_join {p : Program} {e : Env} {s : State} {m : MethodId} {below : List Frame} {meth : Method} {c : Code} (l : Launch) {b0 L : Nat} {xs : Nat → Int32} (hL : L ≤ 3076) {D : va_G} {cs : Nat → ClassId} (G : q_G p s m #[Value.ref b0] c code R_L D cs) (hr : meth.sig.returnType = ret) (hlk : meth.locks = false) (hml : c.maxLocals = 4) (hX : va_X b0 L xs s s.heap) (hbl : b0 < s.heap.size) (Rel : Nat → x_T → m_T → Prop) (hs_join : s_join Rel) {b ad b' : Nat → Nat} {σ : x_T} {τ : m_T} {H : Heap} {locs : List Loc} {ls : Array Slot} {cl sl jj : Nat} (hjj : jj < 512) (hs_mono : s_mono Rel) (hcl : cl + 8 ≤ 600000) (hsl : sl + 96 ≤ 7302250) (hRel : Rel jj σ τ) (V : w_V D b ad cs σ b' τ s H locs) {v : Int32} (hl : lv_has ls 4 [(0, .ref b0), (1, .ref (b 0)), (2, .ref (b' 0)), (3, .int v)]) (i1 : vp_in (v + 1) L) (i2 : vp_in (v + 2) L) (i3 : vp_in (v + 3) L) (i4 : vp_in (v + 4) L) (i5 : vp_in (v + 5) L) (kk : ∀ (ad : Nat → Nat) (σ : x_T) (τ : m_T) (H : Heap) (locs : List Loc) (cl2 sl2 : Nat), Rel (jj + 1) σ τ → w_V D b ad cs σ b' τ s H locs → cl2 ≤ cl + 8 → sl2 ≤ sl + 96 → W p l e room_1 s m #[Value.ref b0] below meth c H locs cl2 sl2 (lw_Z below #[Value.ref b0] s) (F0 m 765 ls [])) : W p l e room_1 s m #[Value.ref b0] below meth c H locs cl sl (lw_Z below #[Value.ref b0] s) (F0 m 640 ls []) := by
  have hx := G.1
  have hb := G.2.1
  have hbA : ¬ w_A s b0 := Nat.not_le.mpr hbl
  refine lv_aload_n hx hb d_L_law_640 rfl (lv_at hl 1 rfl) ?_
  refine lv_aload_n hx hb d_L_law_641 rfl (lv_at hl 0 rfl) ?_
  refine lv_iload_n hx hb d_L_law_642 rfl (lv_at hl 3 rfl) ?_
  refine lv_iconst (v := 1) hx hb d_L_law_643 (by decide) ?_
  refine lv_iadd hx hb d_L_law_644 ?_
  refine va_sld hx hb hX hbl hbA V.2.2.2 i1 d_L_law_645 ?_
  obtain ⟨r, σ', τ', h1, h2, hRel⟩ := hs_join jj σ τ hjj hRel (xs (v + 1 : Int32).toNatClampNeg)
  refine w_cX_i (As := [.int (xs (v + 1 : Int32).toNatClampNeg)]) (rest := []) G V hml (c_T_join l D b ad cs 1000 σ (xs (v + 1 : Int32).toNatClampNeg) r σ' h1) g_L_87 e_T_join ⟨Nat.le_of_ble_eq_true rfl, Nat.le_of_ble_eq_true rfl⟩ ⟨rfl, rfl⟩ ⟨by show _ + 0 ≤ 600000; omega, by show _ + 0 ≤ 7302250; omega⟩ rfl hl.1 rfl (Nat.le_of_ble_eq_true rfl) d_L_law_646 (fun H locs V => ?_)
  refine lv_aload_n hx hb d_L_law_649 rfl (lv_at hl 2 rfl) ?_
  refine lv_aload_n hx hb d_L_law_650 rfl (lv_at hl 0 rfl) ?_
  refine lv_iload_n hx hb d_L_law_651 rfl (lv_at hl 3 rfl) ?_
  refine lv_iconst (v := 1) hx hb d_L_law_652 (by decide) ?_
  refine lv_iadd hx hb d_L_law_653 ?_
  refine va_sld hx hb hX hbl hbA V.2.2.2 i1 d_L_law_654 ?_
  refine w_cM_i (As := [.int (xs (v + 1 : Int32).toNatClampNeg)]) (rest := [.int (r)]) G V hml (c_M_join l D b' cs 1000 τ (xs (v + 1 : Int32).toNatClampNeg) r τ' h2) g_L_91 e_M_join ⟨Nat.le_of_ble_eq_true rfl, Nat.le_of_ble_eq_true rfl⟩ ⟨rfl, rfl⟩ ⟨by show _ + 0 ≤ 600000; omega, by show _ + 0 ≤ 7302250; omega⟩ rfl hl.1 rfl (Nat.le_of_ble_eq_true rfl) d_L_law_655 (fun H locs V => ?_)
  refine lv_icmp_eq (tgt := 765) hx hb d_L_law_658 (by decide) (fun _ => ?_) (fun h9 => absurd rfl h9)
  exact kk _ _ _ _ _ _ _ hRel V (by omega) (by omega)
set_option maxHeartbeats 40000000 in
set_option maxRecDepth 100000 in
theorem l_case_tablet {p : Program} {e : Env} {s : State} {m : MethodId} {below : List Frame} {meth : Method} {c : Code} (l : Launch) {b0 L : Nat} {xs : Nat → Int32} (hL : L ≤ 3076) {D : va_G} {cs : Nat → ClassId} (G : q_G p s m #[Value.ref b0] c code R_L D cs) (hr : meth.sig.returnType = ret) (hlk : meth.locks = false) (hml : c.maxLocals = 4) (hX : va_X b0 L xs s s.heap) (hbl : b0 < s.heap.size) (Rel : Nat → x_T → m_T → Prop) (hs_tablet : s_tablet Rel) {b ad b' : Nat → Nat} {σ : x_T} {τ : m_T} {H : Heap} {locs : List Loc} {ls : Array Slot} {cl sl jj : Nat} (hjj : jj < 512) (hs_mono : s_mono Rel) (hcl : cl + 8 ≤ 600000) (hsl : sl + 96 ≤ 7302250) (hRel : Rel jj σ τ) (V : w_V D b ad cs σ b' τ s H locs) {v : Int32} (hl : lv_has ls 4 [(0, .ref b0), (1, .ref (b 0)), (2, .ref (b' 0)), (3, .int v)]) (i1 : vp_in (v + 1) L) (i2 : vp_in (v + 2) L) (i3 : vp_in (v + 3) L) (i4 : vp_in (v + 4) L) (i5 : vp_in (v + 5) L) (kk : ∀ (ad : Nat → Nat) (σ : x_T) (τ : m_T) (H : Heap) (locs : List Loc) (cl2 sl2 : Nat), Rel (jj + 1) σ τ → w_V D b ad cs σ b' τ s H locs → cl2 ≤ cl + 8 → sl2 ≤ sl + 96 → W p l e room_1 s m #[Value.ref b0] below meth c H locs cl2 sl2 (lw_Z below #[Value.ref b0] s) (F0 m 765 ls [])) : W p l e room_1 s m #[Value.ref b0] below meth c H locs cl sl (lw_Z below #[Value.ref b0] s) (F0 m 663 ls []) := by
  have hx := G.1
  have hb := G.2.1
  have hbA : ¬ w_A s b0 := Nat.not_le.mpr hbl
  refine lv_aload_n hx hb d_L_law_663 rfl (lv_at hl 1 rfl) ?_
  refine lv_aload_n hx hb d_L_law_664 rfl (lv_at hl 0 rfl) ?_
  refine lv_iload_n hx hb d_L_law_665 rfl (lv_at hl 3 rfl) ?_
  refine lv_iconst (v := 1) hx hb d_L_law_666 (by decide) ?_
  refine lv_iadd hx hb d_L_law_667 ?_
  refine va_sld hx hb hX hbl hbA V.2.2.2 i1 d_L_law_668 ?_
  refine lv_aload_n hx hb d_L_law_669 rfl (lv_at hl 0 rfl) ?_
  refine lv_iload_n hx hb d_L_law_670 rfl (lv_at hl 3 rfl) ?_
  refine lv_iconst (v := 2) hx hb d_L_law_671 (by decide) ?_
  refine lv_iadd hx hb d_L_law_672 ?_
  refine va_sld hx hb hX hbl hbA V.2.2.2 i2 d_L_law_673 ?_
  obtain ⟨r, h1, h2⟩ := hs_tablet jj σ τ hjj hRel (xs (v + 1 : Int32).toNatClampNeg) (xs (v + 2 : Int32).toNatClampNeg)
  refine w_cX_i (As := [.int (xs (v + 1 : Int32).toNatClampNeg), .int (xs (v + 2 : Int32).toNatClampNeg)]) (rest := []) G V hml (c_T_tablet l D b ad cs 1000 σ (xs (v + 1 : Int32).toNatClampNeg) (xs (v + 2 : Int32).toNatClampNeg) r h1) g_L_92 e_T_tablet ⟨Nat.le_of_ble_eq_true rfl, Nat.le_of_ble_eq_true rfl⟩ ⟨rfl, rfl⟩ ⟨by show _ + 0 ≤ 600000; omega, by show _ + 0 ≤ 7302250; omega⟩ rfl hl.1 rfl (Nat.le_of_ble_eq_true rfl) d_L_law_674 (fun H locs V => ?_)
  refine lv_aload_n hx hb d_L_law_677 rfl (lv_at hl 2 rfl) ?_
  refine lv_aload_n hx hb d_L_law_678 rfl (lv_at hl 0 rfl) ?_
  refine lv_iload_n hx hb d_L_law_679 rfl (lv_at hl 3 rfl) ?_
  refine lv_iconst (v := 1) hx hb d_L_law_680 (by decide) ?_
  refine lv_iadd hx hb d_L_law_681 ?_
  refine va_sld hx hb hX hbl hbA V.2.2.2 i1 d_L_law_682 ?_
  refine lv_aload_n hx hb d_L_law_683 rfl (lv_at hl 0 rfl) ?_
  refine lv_iload_n hx hb d_L_law_684 rfl (lv_at hl 3 rfl) ?_
  refine lv_iconst (v := 2) hx hb d_L_law_685 (by decide) ?_
  refine lv_iadd hx hb d_L_law_686 ?_
  refine va_sld hx hb hX hbl hbA V.2.2.2 i2 d_L_law_687 ?_
  refine w_cM_i (As := [.int (xs (v + 1 : Int32).toNatClampNeg), .int (xs (v + 2 : Int32).toNatClampNeg)]) (rest := [.int (r)]) G V hml (c_M_tablet l D b' cs 1000 τ (xs (v + 1 : Int32).toNatClampNeg) (xs (v + 2 : Int32).toNatClampNeg) r h2) g_L_95 e_M_tablet ⟨Nat.le_of_ble_eq_true rfl, Nat.le_of_ble_eq_true rfl⟩ ⟨rfl, rfl⟩ ⟨by show _ + 0 ≤ 600000; omega, by show _ + 0 ≤ 7302250; omega⟩ rfl hl.1 rfl (Nat.le_of_ble_eq_true rfl) d_L_law_688 (fun H locs V => ?_)
  refine lv_icmp_eq (tgt := 765) hx hb d_L_law_691 (by decide) (fun _ => ?_) (fun h9 => absurd rfl h9)
  exact kk _ _ _ _ _ _ _ (hs_mono _ _ _ hRel) V (by omega) (by omega)
set_option maxHeartbeats 40000000 in
set_option maxRecDepth 100000 in
theorem l_case_table {p : Program} {e : Env} {s : State} {m : MethodId} {below : List Frame} {meth : Method} {c : Code} (l : Launch) {b0 L : Nat} {xs : Nat → Int32} (hL : L ≤ 3076) {D : va_G} {cs : Nat → ClassId} (G : q_G p s m #[Value.ref b0] c code R_L D cs) (hr : meth.sig.returnType = ret) (hlk : meth.locks = false) (hml : c.maxLocals = 4) (hX : va_X b0 L xs s s.heap) (hbl : b0 < s.heap.size) (Rel : Nat → x_T → m_T → Prop) (hs_table : s_table Rel) {b ad b' : Nat → Nat} {σ : x_T} {τ : m_T} {H : Heap} {locs : List Loc} {ls : Array Slot} {cl sl jj : Nat} (hjj : jj < 512) (hs_mono : s_mono Rel) (hcl : cl + 8 ≤ 600000) (hsl : sl + 96 ≤ 7302250) (hRel : Rel jj σ τ) (V : w_V D b ad cs σ b' τ s H locs) {v : Int32} (hl : lv_has ls 4 [(0, .ref b0), (1, .ref (b 0)), (2, .ref (b' 0)), (3, .int v)]) (i1 : vp_in (v + 1) L) (i2 : vp_in (v + 2) L) (i3 : vp_in (v + 3) L) (i4 : vp_in (v + 4) L) (i5 : vp_in (v + 5) L) (kk : ∀ (ad : Nat → Nat) (σ : x_T) (τ : m_T) (H : Heap) (locs : List Loc) (cl2 sl2 : Nat), Rel (jj + 1) σ τ → w_V D b ad cs σ b' τ s H locs → cl2 ≤ cl + 8 → sl2 ≤ sl + 96 → W p l e room_1 s m #[Value.ref b0] below meth c H locs cl2 sl2 (lw_Z below #[Value.ref b0] s) (F0 m 765 ls [])) : W p l e room_1 s m #[Value.ref b0] below meth c H locs cl sl (lw_Z below #[Value.ref b0] s) (F0 m 696 ls []) := by
  have hx := G.1
  have hb := G.2.1
  have hbA : ¬ w_A s b0 := Nat.not_le.mpr hbl
  refine lv_aload_n hx hb d_L_law_696 rfl (lv_at hl 1 rfl) ?_
  refine lv_aload_n hx hb d_L_law_697 rfl (lv_at hl 0 rfl) ?_
  refine lv_iload_n hx hb d_L_law_698 rfl (lv_at hl 3 rfl) ?_
  refine lv_iconst (v := 1) hx hb d_L_law_699 (by decide) ?_
  refine lv_iadd hx hb d_L_law_700 ?_
  refine va_sld hx hb hX hbl hbA V.2.2.2 i1 d_L_law_701 ?_
  refine lv_aload_n hx hb d_L_law_702 rfl (lv_at hl 0 rfl) ?_
  refine lv_iload_n hx hb d_L_law_703 rfl (lv_at hl 3 rfl) ?_
  refine lv_iconst (v := 2) hx hb d_L_law_704 (by decide) ?_
  refine lv_iadd hx hb d_L_law_705 ?_
  refine va_sld hx hb hX hbl hbA V.2.2.2 i2 d_L_law_706 ?_
  refine lv_aload_n hx hb d_L_law_707 rfl (lv_at hl 0 rfl) ?_
  refine lv_iload_n hx hb d_L_law_708 rfl (lv_at hl 3 rfl) ?_
  refine lv_iconst (v := 3) hx hb d_L_law_709 (by decide) ?_
  refine lv_iadd hx hb d_L_law_710 ?_
  refine va_sld hx hb hX hbl hbA V.2.2.2 i3 d_L_law_711 ?_
  obtain ⟨r, h1, h2⟩ := hs_table jj σ τ hjj hRel (xs (v + 1 : Int32).toNatClampNeg) (xs (v + 2 : Int32).toNatClampNeg) (xs (v + 3 : Int32).toNatClampNeg)
  refine w_cX_i (As := [.int (xs (v + 1 : Int32).toNatClampNeg), .int (xs (v + 2 : Int32).toNatClampNeg), .int (xs (v + 3 : Int32).toNatClampNeg)]) (rest := []) G V hml (c_T_table l D b ad cs 1000 σ (xs (v + 1 : Int32).toNatClampNeg) (xs (v + 2 : Int32).toNatClampNeg) (xs (v + 3 : Int32).toNatClampNeg) r h1) g_L_96 e_T_table ⟨Nat.le_of_ble_eq_true rfl, Nat.le_of_ble_eq_true rfl⟩ ⟨rfl, rfl⟩ ⟨by show _ + 0 ≤ 600000; omega, by show _ + 0 ≤ 7302250; omega⟩ rfl hl.1 rfl (Nat.le_of_ble_eq_true rfl) d_L_law_712 (fun H locs V => ?_)
  refine lv_aload_n hx hb d_L_law_715 rfl (lv_at hl 2 rfl) ?_
  refine lv_aload_n hx hb d_L_law_716 rfl (lv_at hl 0 rfl) ?_
  refine lv_iload_n hx hb d_L_law_717 rfl (lv_at hl 3 rfl) ?_
  refine lv_iconst (v := 1) hx hb d_L_law_718 (by decide) ?_
  refine lv_iadd hx hb d_L_law_719 ?_
  refine va_sld hx hb hX hbl hbA V.2.2.2 i1 d_L_law_720 ?_
  refine lv_aload_n hx hb d_L_law_721 rfl (lv_at hl 0 rfl) ?_
  refine lv_iload_n hx hb d_L_law_722 rfl (lv_at hl 3 rfl) ?_
  refine lv_iconst (v := 2) hx hb d_L_law_723 (by decide) ?_
  refine lv_iadd hx hb d_L_law_724 ?_
  refine va_sld hx hb hX hbl hbA V.2.2.2 i2 d_L_law_725 ?_
  refine lv_aload_n hx hb d_L_law_726 rfl (lv_at hl 0 rfl) ?_
  refine lv_iload_n hx hb d_L_law_727 rfl (lv_at hl 3 rfl) ?_
  refine lv_iconst (v := 3) hx hb d_L_law_728 (by decide) ?_
  refine lv_iadd hx hb d_L_law_729 ?_
  refine va_sld hx hb hX hbl hbA V.2.2.2 i3 d_L_law_730 ?_
  refine w_cM_i (As := [.int (xs (v + 1 : Int32).toNatClampNeg), .int (xs (v + 2 : Int32).toNatClampNeg), .int (xs (v + 3 : Int32).toNatClampNeg)]) (rest := [.int (r)]) G V hml (c_M_table l D b' cs 1000 τ (xs (v + 1 : Int32).toNatClampNeg) (xs (v + 2 : Int32).toNatClampNeg) (xs (v + 3 : Int32).toNatClampNeg) r h2) g_L_100 e_M_table ⟨Nat.le_of_ble_eq_true rfl, Nat.le_of_ble_eq_true rfl⟩ ⟨rfl, rfl⟩ ⟨by show _ + 0 ≤ 600000; omega, by show _ + 0 ≤ 7302250; omega⟩ rfl hl.1 rfl (Nat.le_of_ble_eq_true rfl) d_L_law_731 (fun H locs V => ?_)
  refine lv_icmp_eq (tgt := 765) hx hb d_L_law_734 (by decide) (fun _ => ?_) (fun h9 => absurd rfl h9)
  exact kk _ _ _ _ _ _ _ (hs_mono _ _ _ hRel) V (by omega) (by omega)
set_option maxHeartbeats 40000000 in
set_option maxRecDepth 100000 in
theorem l_case_log {p : Program} {e : Env} {s : State} {m : MethodId} {below : List Frame} {meth : Method} {c : Code} (l : Launch) {b0 L : Nat} {xs : Nat → Int32} (hL : L ≤ 3076) {D : va_G} {cs : Nat → ClassId} (G : q_G p s m #[Value.ref b0] c code R_L D cs) (hr : meth.sig.returnType = ret) (hlk : meth.locks = false) (hml : c.maxLocals = 4) (hX : va_X b0 L xs s s.heap) (hbl : b0 < s.heap.size) (Rel : Nat → x_T → m_T → Prop) (hs_log : s_log Rel) {b ad b' : Nat → Nat} {σ : x_T} {τ : m_T} {H : Heap} {locs : List Loc} {ls : Array Slot} {cl sl jj : Nat} (hjj : jj < 512) (hs_mono : s_mono Rel) (hcl : cl + 8 ≤ 600000) (hsl : sl + 96 ≤ 7302250) (hRel : Rel jj σ τ) (V : w_V D b ad cs σ b' τ s H locs) {v : Int32} (hl : lv_has ls 4 [(0, .ref b0), (1, .ref (b 0)), (2, .ref (b' 0)), (3, .int v)]) (i1 : vp_in (v + 1) L) (i2 : vp_in (v + 2) L) (i3 : vp_in (v + 3) L) (i4 : vp_in (v + 4) L) (i5 : vp_in (v + 5) L) (kk : ∀ (ad : Nat → Nat) (σ : x_T) (τ : m_T) (H : Heap) (locs : List Loc) (cl2 sl2 : Nat), Rel (jj + 1) σ τ → w_V D b ad cs σ b' τ s H locs → cl2 ≤ cl + 8 → sl2 ≤ sl + 96 → W p l e room_1 s m #[Value.ref b0] below meth c H locs cl2 sl2 (lw_Z below #[Value.ref b0] s) (F0 m 765 ls [])) : W p l e room_1 s m #[Value.ref b0] below meth c H locs cl sl (lw_Z below #[Value.ref b0] s) (F0 m 739 ls []) := by
  have hx := G.1
  have hb := G.2.1
  have hbA : ¬ w_A s b0 := Nat.not_le.mpr hbl
  refine lv_aload_n hx hb d_L_law_739 rfl (lv_at hl 1 rfl) ?_
  obtain ⟨r, h1, h2⟩ := hs_log jj σ τ hjj hRel
  refine w_cX_i (As := []) (rest := []) G V hml (c_T_log l D b ad cs 1000 σ r h1) g_L_101 e_T_log ⟨Nat.le_of_ble_eq_true rfl, Nat.le_of_ble_eq_true rfl⟩ ⟨rfl, rfl⟩ ⟨by show _ + 0 ≤ 600000; omega, by show _ + 0 ≤ 7302250; omega⟩ rfl hl.1 rfl (Nat.le_of_ble_eq_true rfl) d_L_law_740 (fun H locs V => ?_)
  refine lv_aload_n hx hb d_L_law_743 rfl (lv_at hl 2 rfl) ?_
  refine w_cM_i (As := []) (rest := [.int (r)]) G V hml (c_M_log l D b' cs 1000 τ r h2) g_L_104 e_M_log ⟨Nat.le_of_ble_eq_true rfl, Nat.le_of_ble_eq_true rfl⟩ ⟨rfl, rfl⟩ ⟨by show _ + 0 ≤ 600000; omega, by show _ + 0 ≤ 7302250; omega⟩ rfl hl.1 rfl (Nat.le_of_ble_eq_true rfl) d_L_law_744 (fun H locs V => ?_)
  refine lv_icmp_eq (tgt := 765) hx hb d_L_law_747 (by decide) (fun _ => ?_) (fun h9 => absurd rfl h9)
  exact kk _ _ _ _ _ _ _ (hs_mono _ _ _ hRel) V (by omega) (by omega)
set_option maxHeartbeats 40000000 in
set_option maxRecDepth 100000 in
theorem l_case_looked {p : Program} {e : Env} {s : State} {m : MethodId} {below : List Frame} {meth : Method} {c : Code} (l : Launch) {b0 L : Nat} {xs : Nat → Int32} (hL : L ≤ 3076) {D : va_G} {cs : Nat → ClassId} (G : q_G p s m #[Value.ref b0] c code R_L D cs) (hr : meth.sig.returnType = ret) (hlk : meth.locks = false) (hml : c.maxLocals = 4) (hX : va_X b0 L xs s s.heap) (hbl : b0 < s.heap.size) (Rel : Nat → x_T → m_T → Prop) (hs_looked : s_looked Rel) {b ad b' : Nat → Nat} {σ : x_T} {τ : m_T} {H : Heap} {locs : List Loc} {ls : Array Slot} {cl sl jj : Nat} (hjj : jj < 512) (hs_mono : s_mono Rel) (hcl : cl + 8 ≤ 600000) (hsl : sl + 96 ≤ 7302250) (hRel : Rel jj σ τ) (V : w_V D b ad cs σ b' τ s H locs) {v : Int32} (hl : lv_has ls 4 [(0, .ref b0), (1, .ref (b 0)), (2, .ref (b' 0)), (3, .int v)]) (i1 : vp_in (v + 1) L) (i2 : vp_in (v + 2) L) (i3 : vp_in (v + 3) L) (i4 : vp_in (v + 4) L) (i5 : vp_in (v + 5) L) (kk : ∀ (ad : Nat → Nat) (σ : x_T) (τ : m_T) (H : Heap) (locs : List Loc) (cl2 sl2 : Nat), Rel (jj + 1) σ τ → w_V D b ad cs σ b' τ s H locs → cl2 ≤ cl + 8 → sl2 ≤ sl + 96 → W p l e room_1 s m #[Value.ref b0] below meth c H locs cl2 sl2 (lw_Z below #[Value.ref b0] s) (F0 m 765 ls [])) : W p l e room_1 s m #[Value.ref b0] below meth c H locs cl sl (lw_Z below #[Value.ref b0] s) (F0 m 752 ls []) := by
  have hx := G.1
  have hb := G.2.1
  have hbA : ¬ w_A s b0 := Nat.not_le.mpr hbl
  refine lv_aload_n hx hb d_L_law_752 rfl (lv_at hl 1 rfl) ?_
  obtain ⟨r, h1, h2⟩ := hs_looked jj σ τ hjj hRel
  refine w_cX_i (As := []) (rest := []) G V hml (c_T_looked l D b ad cs 1000 σ r h1) g_L_105 e_T_looked ⟨Nat.le_of_ble_eq_true rfl, Nat.le_of_ble_eq_true rfl⟩ ⟨rfl, rfl⟩ ⟨by show _ + 0 ≤ 600000; omega, by show _ + 0 ≤ 7302250; omega⟩ rfl hl.1 rfl (Nat.le_of_ble_eq_true rfl) d_L_law_753 (fun H locs V => ?_)
  refine lv_aload_n hx hb d_L_law_756 rfl (lv_at hl 2 rfl) ?_
  refine w_cM_i (As := []) (rest := [.int (r)]) G V hml (c_M_looked l D b' cs 1000 τ r h2) g_L_108 e_M_looked ⟨Nat.le_of_ble_eq_true rfl, Nat.le_of_ble_eq_true rfl⟩ ⟨rfl, rfl⟩ ⟨by show _ + 0 ≤ 600000; omega, by show _ + 0 ≤ 7302250; omega⟩ rfl hl.1 rfl (Nat.le_of_ble_eq_true rfl) d_L_law_757 (fun H locs V => ?_)
  refine lv_icmp_eq (tgt := 765) hx hb d_L_law_760 (by decide) (fun _ => ?_) (fun h9 => absurd rfl h9)
  exact kk _ _ _ _ _ _ _ (hs_mono _ _ _ hRel) V (by omega) (by omega)
set_option maxHeartbeats 40000000 in
set_option maxRecDepth 100000 in
theorem l_loop_open {p : Program} {e : Env} {s : State} {m : MethodId} {below : List Frame} {meth : Method} {c : Code} (l : Launch) {b0 L : Nat} {xs : Nat → Int32} (hL : L ≤ 3076) {D : va_G} {cs : Nat → ClassId} (G : q_G p s m #[Value.ref b0] c code R_L D cs) (hr : meth.sig.returnType = ret) (hlk : meth.locks = false) (hml : c.maxLocals = 4) (hX : va_X b0 L xs s s.heap) (hbl : b0 < s.heap.size) (Rel : Nat → x_T → m_T → Prop) (hs_mono : s_mono Rel) (hs_put : s_put Rel) (hs_erase : s_erase Rel) (hs_expect : s_expect Rel) (hs_apply : s_apply Rel) (hs_tear : s_tear Rel) (hs_crash : s_crash Rel) (hs_tick : s_tick Rel) (hs_get : s_get Rel) (hs_scan : s_scan Rel) (hs_found : s_found Rel) (hs_flush : s_flush Rel) (hs_compact : s_compact Rel) (hs_major : s_major Rel) (hs_split : s_split Rel) (hs_join : s_join Rel) (hs_tablet : s_tablet Rel) (hs_table : s_table Rel) (hs_log : s_log Rel) (hs_looked : s_looked Rel) {b b' : Nat → Nat} : ∀ (n j cl sl : Nat) (ad : Nat → Nat) (σ : x_T) (τ : m_T) (H : Heap) (locs : List Loc) (ls : Array Slot), 513 - j < n → j ≤ 512 → cl ≤ 64 + 8 * j → sl ≤ 8000 + 96 * j → Rel j σ τ → w_V D b ad cs σ b' τ s H locs → lv_has ls 4 [(0, .ref b0), (1, .ref (b 0)), (2, .ref (b' 0)), (3, .int (nI (4 + 6 * j)))] → W p l e room_1 s m #[Value.ref b0] below meth c H locs cl sl (lw_Z below #[Value.ref b0] s) (F0 m 58 ls []) := by
  intro n
  induction n with
  | zero => intro j cl sl ad σ τ H locs ls hn; omega
  | succ n ih =>
    intro j cl sl ad σ τ H locs ls hn hj hcl hsl hRel V hl
    have hx := G.1
    have hb := G.2.1
    have hbA : ¬ w_A s b0 := Nat.not_le.mpr hbl
    refine lv_iload_n hx hb d_L_law_58 rfl (lv_at hl 3 rfl) ?_
    refine lv_aload_n hx hb d_L_law_59 rfl (lv_at hl 0 rfl) ?_
    refine va_slen hx hb hX hbl hbA V.2.2.2 d_L_law_60 ?_
    refine lv_bipush (v := 6) hx hb d_L_law_61 (by decide) ?_
    refine lv_isub hx hb d_L_law_63 ?_
    refine lv_icmp_gt (tgt := 771) hx hb d_L_law_64 (by decide) (fun hc => ?_) (fun hc => ?_)
    · refine lv_iconst (v := 1) hx hb d_L_law_771 (by decide) ?_
      refine W.widen (k := 600000) (n := 7302250) (by omega) (by omega) ?_
      exact va_forget (fun q hq => V.2.2.2.2.2 q hq) (lw_ret hx hb hr hlk d_L_law_772)
    have hin : 4 + 6 * j + 6 ≤ L := by
      refine Nat.not_lt.mp (fun q => hc ?_)
      rw [Int32.lt_iff_toInt_lt, show (Int32.ofNat L : Int32) = nI L from rfl, show (6 : Int32) = nI 6 from rfl, pk_sub_toInt (by omega) (by omega), nI_toInt (by omega)]
      omega
    have hat : ∀ k : Nat, k ≤ 5 → vp_in (nI (4 + 6 * j) + nI k) L := fun k hk => by
      rw [nI_add]
      exact vp_in_nI (by omega) (by omega)
    have i0 : vp_in (nI (4 + 6 * j)) L := vp_in_nI (by omega) (by omega)
    refine lv_aload_n hx hb d_L_law_67 rfl (lv_at hl 0 rfl) ?_
    refine lv_iload_n hx hb d_L_law_68 rfl (lv_at hl 3 rfl) ?_
    refine va_sld hx hb hX hbl hbA V.2.2.2 i0 d_L_law_69 ?_
    refine lv_bipush (v := 31) hx hb d_L_law_70 (by decide) ?_
    refine lv_iand hx hb d_L_law_72 ?_
    have kk : ∀ (ad : Nat → Nat) (σ : x_T) (τ : m_T) (H : Heap) (locs : List Loc) (cl2 sl2 : Nat), Rel (j + 1) σ τ → w_V D b ad cs σ b' τ s H locs → cl2 ≤ cl + 8 → sl2 ≤ sl + 96 → W p l e room_1 s m #[Value.ref b0] below meth c H locs cl2 sl2 (lw_Z below #[Value.ref b0] s) (F0 m 765 ls []) := by
      intro ad σ τ H locs cl2 sl2 hRel V h1 h2
      refine lv_iinc (k := 3) (v := nI (4 + 6 * (j + 1))) (lv' := [(3, .int (nI (4 + 6 * (j + 1)))), (0, .ref b0), (1, .ref (b 0)), (2, .ref (b' 0))]) hx hb d_L_law_765 hl rfl (by show nI (4 + 6 * j) + nI 6 = _; rw [nI_add]; exact congrArg nI (by omega)) (by decide) rfl (fun ls hl => ?_)
      refine lv_goto (tgt := 58) hx hb d_L_law_768 (by decide) ?_
      exact ih (j + 1) cl2 sl2 ad σ τ H locs ls (by omega) (by omega) (by omega) (by omega) hRel V (lv_sub hl [1, 2, 3, 0] rfl)
    obtain ⟨w, hw, ew⟩ := pk_andE (xs (nI (4 + 6 * j)).toNatClampNeg) (m := 31) 5 rfl
    rw [ew]
    have hwT : (nI w).toInt = (w : Int) := nI_toInt (by omega)
    by_cases h0 : w = 0
    · subst h0
      refine lv_tableIn (tgt := 164) hx hb d_L_law_73 (by decide) (by decide) rfl (by decide) ?_
      exact l_case_put l hL G hr hlk hml hX hbl Rel hs_put (by omega) hs_mono (by omega) (by omega) hRel V hl (hat 1 (by omega)) (hat 2 (by omega)) (hat 3 (by omega)) (hat 4 (by omega)) (hat 5 (by omega)) kk
    by_cases h1 : w = 1
    · subst h1
      refine lv_tableIn (tgt := 217) hx hb d_L_law_73 (by decide) (by decide) rfl (by decide) ?_
      exact l_case_erase l hL G hr hlk hml hX hbl Rel hs_erase (by omega) hs_mono (by omega) (by omega) hRel V hl (hat 1 (by omega)) (hat 2 (by omega)) (hat 3 (by omega)) (hat 4 (by omega)) (hat 5 (by omega)) kk
    by_cases h2 : w = 2
    · subst h2
      refine lv_tableIn (tgt := 260) hx hb d_L_law_73 (by decide) (by decide) rfl (by decide) ?_
      exact l_case_expect l hL G hr hlk hml hX hbl Rel hs_expect (by omega) hs_mono (by omega) (by omega) hRel V hl (hat 1 (by omega)) (hat 2 (by omega)) (hat 3 (by omega)) (hat 4 (by omega)) (hat 5 (by omega)) kk
    by_cases h3 : w = 3
    · subst h3
      refine lv_tableIn (tgt := 329) hx hb d_L_law_73 (by decide) (by decide) rfl (by decide) ?_
      exact l_case_apply l hL G hr hlk hml hX hbl Rel hs_apply (by omega) hs_mono (by omega) (by omega) hRel V hl (hat 1 (by omega)) (hat 2 (by omega)) (hat 3 (by omega)) (hat 4 (by omega)) (hat 5 (by omega)) kk
    by_cases h4 : w = 4
    · subst h4
      refine lv_tableIn (tgt := 342) hx hb d_L_law_73 (by decide) (by decide) rfl (by decide) ?_
      exact l_case_tear l hL G hr hlk hml hX hbl Rel hs_tear (by omega) hs_mono (by omega) (by omega) hRel V hl (hat 1 (by omega)) (hat 2 (by omega)) (hat 3 (by omega)) (hat 4 (by omega)) (hat 5 (by omega)) kk
    by_cases h5 : w = 5
    · subst h5
      refine lv_tableIn (tgt := 353) hx hb d_L_law_73 (by decide) (by decide) rfl (by decide) ?_
      exact l_case_crash l hL G hr hlk hml hX hbl Rel hs_crash (by omega) hs_mono (by omega) (by omega) hRel V hl (hat 1 (by omega)) (hat 2 (by omega)) (hat 3 (by omega)) (hat 4 (by omega)) (hat 5 (by omega)) kk
    by_cases h6 : w = 6
    · subst h6
      refine lv_tableIn (tgt := 364) hx hb d_L_law_73 (by decide) (by decide) rfl (by decide) ?_
      exact l_case_tick l hL G hr hlk hml hX hbl Rel hs_tick (by omega) hs_mono (by omega) (by omega) hRel V hl (hat 1 (by omega)) (hat 2 (by omega)) (hat 3 (by omega)) (hat 4 (by omega)) (hat 5 (by omega)) kk
    by_cases h7 : w = 7
    · subst h7
      refine lv_tableIn (tgt := 387) hx hb d_L_law_73 (by decide) (by decide) rfl (by decide) ?_
      exact l_case_get l hL G hr hlk hml hX hbl Rel hs_get (by omega) hs_mono (by omega) (by omega) hRel V hl (hat 1 (by omega)) (hat 2 (by omega)) (hat 3 (by omega)) (hat 4 (by omega)) (hat 5 (by omega)) kk
    by_cases h8 : w = 8
    · subst h8
      refine lv_tableIn (tgt := 441) hx hb d_L_law_73 (by decide) (by decide) rfl (by decide) ?_
      exact l_case_scan l hL G hr hlk hml hX hbl Rel hs_scan (by omega) hs_mono (by omega) (by omega) hRel V hl (hat 1 (by omega)) (hat 2 (by omega)) (hat 3 (by omega)) (hat 4 (by omega)) (hat 5 (by omega)) kk
    by_cases h9 : w = 9
    · subst h9
      refine lv_tableIn (tgt := 504) hx hb d_L_law_73 (by decide) (by decide) rfl (by decide) ?_
      exact l_case_found l hL G hr hlk hml hX hbl Rel hs_found (by omega) hs_mono (by omega) (by omega) hRel V hl (hat 1 (by omega)) (hat 2 (by omega)) (hat 3 (by omega)) (hat 4 (by omega)) (hat 5 (by omega)) kk
    by_cases h10 : w = 10
    · subst h10
      refine lv_tableIn (tgt := 528) hx hb d_L_law_73 (by decide) (by decide) rfl (by decide) ?_
      exact l_case_flush l hL G hr hlk hml hX hbl Rel hs_flush (by omega) hs_mono (by omega) (by omega) hRel V hl (hat 1 (by omega)) (hat 2 (by omega)) (hat 3 (by omega)) (hat 4 (by omega)) (hat 5 (by omega)) kk
    by_cases h11 : w = 11
    · subst h11
      refine lv_tableIn (tgt := 551) hx hb d_L_law_73 (by decide) (by decide) rfl (by decide) ?_
      exact l_case_compact l hL G hr hlk hml hX hbl Rel hs_compact (by omega) hs_mono (by omega) (by omega) hRel V hl (hat 1 (by omega)) (hat 2 (by omega)) (hat 3 (by omega)) (hat 4 (by omega)) (hat 5 (by omega)) kk
    by_cases h12 : w = 12
    · subst h12
      refine lv_tableIn (tgt := 584) hx hb d_L_law_73 (by decide) (by decide) rfl (by decide) ?_
      exact l_case_major l hL G hr hlk hml hX hbl Rel hs_major (by omega) hs_mono (by omega) (by omega) hRel V hl (hat 1 (by omega)) (hat 2 (by omega)) (hat 3 (by omega)) (hat 4 (by omega)) (hat 5 (by omega)) kk
    by_cases h13 : w = 13
    · subst h13
      refine lv_tableIn (tgt := 607) hx hb d_L_law_73 (by decide) (by decide) rfl (by decide) ?_
      exact l_case_split l hL G hr hlk hml hX hbl Rel hs_split (by omega) hs_mono (by omega) (by omega) hRel V hl (hat 1 (by omega)) (hat 2 (by omega)) (hat 3 (by omega)) (hat 4 (by omega)) (hat 5 (by omega)) kk
    by_cases h14 : w = 14
    · subst h14
      refine lv_tableIn (tgt := 640) hx hb d_L_law_73 (by decide) (by decide) rfl (by decide) ?_
      exact l_case_join l hL G hr hlk hml hX hbl Rel hs_join (by omega) hs_mono (by omega) (by omega) hRel V hl (hat 1 (by omega)) (hat 2 (by omega)) (hat 3 (by omega)) (hat 4 (by omega)) (hat 5 (by omega)) kk
    by_cases h15 : w = 15
    · subst h15
      refine lv_tableIn (tgt := 663) hx hb d_L_law_73 (by decide) (by decide) rfl (by decide) ?_
      exact l_case_tablet l hL G hr hlk hml hX hbl Rel hs_tablet (by omega) hs_mono (by omega) (by omega) hRel V hl (hat 1 (by omega)) (hat 2 (by omega)) (hat 3 (by omega)) (hat 4 (by omega)) (hat 5 (by omega)) kk
    by_cases h16 : w = 16
    · subst h16
      refine lv_tableIn (tgt := 696) hx hb d_L_law_73 (by decide) (by decide) rfl (by decide) ?_
      exact l_case_table l hL G hr hlk hml hX hbl Rel hs_table (by omega) hs_mono (by omega) (by omega) hRel V hl (hat 1 (by omega)) (hat 2 (by omega)) (hat 3 (by omega)) (hat 4 (by omega)) (hat 5 (by omega)) kk
    by_cases h17 : w = 17
    · subst h17
      refine lv_tableIn (tgt := 739) hx hb d_L_law_73 (by decide) (by decide) rfl (by decide) ?_
      exact l_case_log l hL G hr hlk hml hX hbl Rel hs_log (by omega) hs_mono (by omega) (by omega) hRel V hl (hat 1 (by omega)) (hat 2 (by omega)) (hat 3 (by omega)) (hat 4 (by omega)) (hat 5 (by omega)) kk
    by_cases h18 : w = 18
    · subst h18
      refine lv_tableIn (tgt := 752) hx hb d_L_law_73 (by decide) (by decide) rfl (by decide) ?_
      exact l_case_looked l hL G hr hlk hml hX hbl Rel hs_looked (by omega) hs_mono (by omega) (by omega) hRel V hl (hat 1 (by omega)) (hat 2 (by omega)) (hat 3 (by omega)) (hat 4 (by omega)) (hat 5 (by omega)) kk
    refine lv_tableOut (tgt := 765) hx hb d_L_law_73 (by rw [hwT]; omega) (by decide) ?_
    exact kk _ _ _ _ _ _ _ (hs_mono _ _ _ hRel) V (by omega) (by omega)
set_option maxHeartbeats 40000000 in
set_option maxRecDepth 100000 in
theorem whole_open (Rel : Nat → x_T → m_T → Prop) (hs_init : s_init Rel) (hs_mono : s_mono Rel) (hs_put : s_put Rel) (hs_erase : s_erase Rel) (hs_expect : s_expect Rel) (hs_apply : s_apply Rel) (hs_tear : s_tear Rel) (hs_crash : s_crash Rel) (hs_tick : s_tick Rel) (hs_get : s_get Rel) (hs_scan : s_scan Rel) (hs_found : s_found Rel) (hs_flush : s_flush Rel) (hs_compact : s_compact Rel) (hs_major : s_major Rel) (hs_split : s_split Rel) (hs_join : s_join Rel) (hs_tablet : s_tablet Rel) (hs_table : s_table Rel) (hs_log : s_log Rel) (hs_looked : s_looked Rel) {p : Program} {e : Env} {s : State} {m : MethodId} {below : List Frame} {meth : Method} {c : Code} (l : Launch) {b L : Nat} {xs : Nat → Int32} (hL : L ≤ 3076) (C0 : lw_At p s m meth c b L xs) : W p l e room_1 s m #[Value.ref b] below meth c s.heap [] 0 0 (lw_Z below #[Value.ref b] s) (entryFrame m ([Value.ref b] : List Value).toArray 4) := by
  obtain ⟨hx, hb, hr, hml, hown, hts0, hX, hbl, hlk, -⟩ := C0
  obtain ⟨⟨dC, dI⟩, cs, hK, hN, hts⟩ := l_known hts0
  have G : q_G p s m #[Value.ref b] c code R_L (dC, dI) cs := ⟨hx, hb, hown, hts, hK, hN⟩
  have hl := lv_entry ([.ref b]) (n := 4) (Nat.le_of_ble_eq_true rfl)
  rw [lg_entry_eq]
  generalize (lg_sl ([.ref b]) ++ List.replicate (4 - (lg_sl ([.ref b])).length) Slot.unset).toArray = ls at hl ⊢
  have hl : lv_has ls 4 [(0, .ref b)] := hl
  obtain ⟨r1, r2, r3, r4, x1, x2, x3, x4, m1, m2, m3, m4, hRel⟩ := hs_init (q_cellv L xs (nI 0)) (q_cellv L xs (nI 1)) (q_cellv L xs (nI 2)) (q_cellv L xs (nI 3))
  have hA : ∀ q : Nat, s.heap.size ≤ q → w_A s q := fun q h => h
  have hP : va_P (dC, dI) q_cl [] s.heap := fun k q hk => by cases hk
  have hD : va_D (w_A s) [] := ⟨fun i j p q hi => (by cases hi), fun k q hk => (by cases hk)⟩
  have hS : va_S (w_A s) s.heap s.heap [] := va_S.rf
  refine va_new (ci := 0) (fs := [.null, .null, .int 0, .null, .int 0, .int 0, .null, .int 0, .null, .int 0, .null, .int 0, .null, .int 0]) (C := R_T) (T := F_T) (N := 14) hx hb hts in_T tt_T tt_T_ok hown (hts _ k_L_7) (hts _ k_ii_T) (hts _ k_in_T) hK hP hD hS hA rfl (fun j hj => n_def_T j hj) (by decide) (by decide) d_L_law_0 (fun q0 H hP hD hS => ?_)
  have hP : va_P (dC, dI) q_cl [(q0, .inr (0, [.null, .null, .int 0, .null, .int 0, .int 0, .null, .int 0, .null, .int 0, .null, .int 0, .null, .int 0]))] H := hP
  have hD : va_D (w_A s) [(q0, .inr (0, [.null, .null, .int 0, .null, .int 0, .int 0, .null, .int 0, .null, .int 0, .null, .int 0, .null, .int 0]))] := hD
  refine W.widen (k := 1) (n := 14) (by decide) (by decide) ?_
  refine lv_dup hx hb d_L_law_3 rfl ?_
  refine lv_aload_n hx hb d_L_law_4 rfl (lv_at hl 0 rfl) ?_
  refine lv_iconst (v := 0) hx hb d_L_law_5 (by decide) ?_
  refine l_cell (by omega) G hml hX hbl hS 0 (by omega) rfl (by decide) (by decide) hl.1 (Nat.le_of_ble_eq_true rfl) d_L_law_6 ?_
  refine lv_aload_n hx hb d_L_law_9 rfl (lv_at hl 0 rfl) ?_
  refine lv_iconst (v := 1) hx hb d_L_law_10 (by decide) ?_
  refine l_cell (by omega) G hml hX hbl hS 1 (by omega) rfl (by decide) (by decide) hl.1 (Nat.le_of_ble_eq_true rfl) d_L_law_11 ?_
  refine lv_aload_n hx hb d_L_law_14 rfl (lv_at hl 0 rfl) ?_
  refine lv_iconst (v := 2) hx hb d_L_law_15 (by decide) ?_
  refine l_cell (by omega) G hml hX hbl hS 2 (by omega) rfl (by decide) (by decide) hl.1 (Nat.le_of_ble_eq_true rfl) d_L_law_16 ?_
  refine lv_aload_n hx hb d_L_law_19 rfl (lv_at hl 0 rfl) ?_
  refine lv_iconst (v := 3) hx hb d_L_law_20 (by decide) ?_
  refine l_cell (by omega) G hml hX hbl hS 3 (by omega) rfl (by decide) (by decide) hl.1 (Nat.le_of_ble_eq_true rfl) d_L_law_21 ?_
  refine q_init (wc := [(q0, .inr (0, [.null, .null, .int 0, .null, .int 0, .int 0, .null, .int 0, .null, .int 0, .null, .int 0, .null, .int 0]))]) (wr := []) G hP hD hS hA [0] [] rfl rfl (by decide) (by decide) (va_runI (As := [.int (q_cellv L xs (nI 0)), .int (q_cellv L xs (nI 1)), .int (q_cellv L xs (nI 2)), .int (q_cellv L xs (nI 3))]) (rest := [.ref q0]) ⟨hx, hb, hml, hown, hts⟩ (c_T_init l dC dI cs q0 _ _ _ _ r1 x1 r2 x2 r3 x3 r4 x4 H.size) (cwI 4 hts (q_good k_co_T_init) rfl rfl rfl (hts _ k_in_T) (hts _ k_L_15) (hts _ k_im_T_init) rfl (e_T_init).2 ⟨Nat.le_of_ble_eq_true rfl, Nat.le_of_ble_eq_true rfl⟩) (q_preC G hP hD) rfl rfl hl.1 rfl (lv_room (Nat.le_of_ble_eq_true rfl)) d_L_law_24 ⟨by decide, by decide⟩) (fun u H locs hP1 hD1 hS1 => ?_)
  refine W.widen (k := 15) (n := 1294) (by decide) (by decide) ?_
  clear hP hD hS
  generalize hbx : x_at q0 u = bx at hP1 hD1
  have hb0 : bx 0 = q0 := by rw [← hbx]; rfl
  subst hb0
  have hP : va_P (dC, dI) q_cl (x_W bx (fun _ => 0) cs (x_init r1 r2 r3 r4)) H := hP1
  have hD : va_D (w_A s) (x_W bx (fun _ => 0) cs (x_init r1 r2 r3 r4)) := hD1
  have hS := hS1
  refine lv_astore_n (lv' := [(1, .ref (bx 0)), (0, .ref b)]) hx hb d_L_law_27 rfl hl (by decide) rfl (fun ls hl => ?_)
  refine va_new (ci := 4) (fs := [.int 0, .null, .null, .null, .null, .null, .null, .null, .null, .int 0, .null, .null, .null, .null, .int 0, .int 0, .null, .int 0, .null, .null, .null, .int 0, .int 0, .int 0, .int 0, .int 0, .int 0, .int 0, .int 0, .null, .null, .int 0]) (C := R_M) (T := F_M) (N := 32) hx hb hts in_M tt_M tt_M_ok hown (hts _ k_L_18) (hts _ k_ii_M) (hts _ k_in_M) hK hP hD hS hA rfl (fun j hj => n_def_M j hj) (by decide) (by decide) d_L_law_28 (fun q1 H hP hD hS => ?_)
  refine W.widen (k := 16) (n := 1326) (by decide) (by decide) ?_
  refine lv_dup hx hb d_L_law_31 rfl ?_
  refine lv_aload_n hx hb d_L_law_32 rfl (lv_at hl 1 rfl) ?_
  refine lv_iconst (v := 0) hx hb d_L_law_33 (by decide) ?_
  refine l_cell (by omega) G hml hX hbl hS 0 (by omega) rfl (by decide) (by decide) hl.1 (Nat.le_of_ble_eq_true rfl) d_L_law_34 ?_
  refine lv_aload_n hx hb d_L_law_37 rfl (lv_at hl 1 rfl) ?_
  refine lv_iconst (v := 1) hx hb d_L_law_38 (by decide) ?_
  refine l_cell (by omega) G hml hX hbl hS 1 (by omega) rfl (by decide) (by decide) hl.1 (Nat.le_of_ble_eq_true rfl) d_L_law_39 ?_
  refine lv_aload_n hx hb d_L_law_42 rfl (lv_at hl 1 rfl) ?_
  refine lv_iconst (v := 2) hx hb d_L_law_43 (by decide) ?_
  refine l_cell (by omega) G hml hX hbl hS 2 (by omega) rfl (by decide) (by decide) hl.1 (Nat.le_of_ble_eq_true rfl) d_L_law_44 ?_
  refine lv_aload_n hx hb d_L_law_47 rfl (lv_at hl 1 rfl) ?_
  refine lv_iconst (v := 3) hx hb d_L_law_48 (by decide) ?_
  refine l_cell (by omega) G hml hX hbl hS 3 (by omega) rfl (by decide) (by decide) hl.1 (Nat.le_of_ble_eq_true rfl) d_L_law_49 ?_
  have hPm : va_P (dC, dI) q_cl [(q1, .inr (4, [.int 0, .null, .null, .null, .null, .null, .null, .null, .null, .int 0, .null, .null, .null, .null, .int 0, .int 0, .null, .int 0, .null, .null, .null, .int 0, .int 0, .int 0, .int 0, .int 0, .int 0, .int 0, .int 0, .null, .null, .int 0]))] H := q_Pr hP
  have hDm : va_D (w_A s) [(q1, .inr (4, [.int 0, .null, .null, .null, .null, .null, .null, .null, .null, .int 0, .null, .null, .null, .null, .int 0, .int 0, .null, .int 0, .null, .null, .null, .int 0, .int 0, .int 0, .int 0, .int 0, .int 0, .int 0, .int 0, .null, .null, .int 0]))] := q_Dr hD
  refine q_init (wc := [(q1, .inr (4, [.int 0, .null, .null, .null, .null, .null, .null, .null, .null, .int 0, .null, .null, .null, .null, .int 0, .int 0, .null, .int 0, .null, .null, .null, .int 0, .int 0, .int 0, .int 0, .int 0, .int 0, .int 0, .int 0, .null, .null, .int 0]))]) (wr := x_W bx (fun _ => 0) cs (x_init r1 r2 r3 r4)) G hP hD hS hA [15] [0, 1, 2, 3, 4, 5, 6, 7, 8, 9, 10, 11, 12, 13, 14] rfl rfl (by decide) (by decide) (va_runI (As := [.int (q_cellv L xs (nI 0)), .int (q_cellv L xs (nI 1)), .int (q_cellv L xs (nI 2)), .int (q_cellv L xs (nI 3))]) (rest := [.ref q1]) ⟨hx, hb, hml, hown, hts⟩ (c_M_init l dC dI cs q1 _ _ _ _ r1 m1 r3 m3 r2 m2 r4 m4 H.size) (cwI 4 hts (q_good k_co_M_init) rfl rfl rfl (hts _ k_in_M) (hts _ k_L_20) (hts _ k_im_M_init) rfl (e_M_init).2 ⟨Nat.le_of_ble_eq_true rfl, Nat.le_of_ble_eq_true rfl⟩) (q_preC G hPm hDm) rfl rfl hl.1 rfl (lv_room (Nat.le_of_ble_eq_true rfl)) d_L_law_52 ⟨by decide, by decide⟩) (fun u H locs hP1 hD1 hS1 => ?_)
  refine W.widen (k := 34) (n := 3924) (by decide) (by decide) ?_
  clear hP hD hS hPm hDm
  generalize hbm : x_at q1 u = bm at hP1 hD1
  have hb1 : bm 0 = q1 := by rw [← hbm]; rfl
  subst hb1
  have V : w_V (dC, dI) bx (fun _ => 0) cs (x_init r1 r2 r3 r4) bm (m_init r1 r3 r2 r4) s H locs := ⟨q_Pl hP1, q_Pr hP1, hD1, hS1⟩
  refine lv_astore_n (lv' := [(2, .ref (bm 0)), (1, .ref (bx 0)), (0, .ref b)]) hx hb d_L_law_55 rfl hl (by decide) rfl (fun ls hl => ?_)
  refine lv_iconst (v := 4) hx hb d_L_law_56 (by decide) ?_
  refine lv_istore_n (lv' := [(3, .int (nI (4 + 6 * 0))), (2, .ref (bm 0)), (1, .ref (bx 0)), (0, .ref b)]) hx hb d_L_law_57 rfl hl (by decide) rfl (fun ls hl => ?_)
  exact l_loop_open l hL G hr hlk hml hX hbl Rel hs_mono hs_put hs_erase hs_expect hs_apply hs_tear hs_crash hs_tick hs_get hs_scan hs_found hs_flush hs_compact hs_major hs_split hs_join hs_tablet hs_table hs_log hs_looked 514 0 34 3924 _ _ _ H locs ls (by omega) (by omega) (by omega) (by omega) hRel V (lv_sub hl [3, 2, 1, 0] rfl)
