/-! THE CLAIM OUT OF ONE WALK OF THE LAW'S BODY. Your part is whole_start (and what it stands on); all else here is the same for every law, but numbers. -/
def R_law : String := "DaysOnBreadLaw"
def lw_P (b : Addr) (xs : List Int32) (args : Array Value) (s : State) : Prop := args = #[.ref b] ∧ s.IntsAt b xs ∧ xs.length ≤ 2560 ∧ (Jvm.Cond.and given_1 narrow_1).before args s = true
def lw_Q (_ : Array Value) (s : State) (o : Outcome) (t : State) : Prop := o = .returned (some (.int 1)) ∧ Framed s o t [] 600000 7302249
def lw_Z (below : List Frame) (a : Array Value) (s : State) : State → Prop := fun t => ∃ o, t.status = .running ∧ Ended t below o ∧ lw_Q a s o t
/-- the law's own end, with 1 on the stack, nothing written that was there before, its room as the claim has it -/
theorem lw_ret {p : Program} {l : Launch} {e : Env} {s : State} {m : MethodId} {below : List Frame} {meth : Method} {c : Code} {b : Nat} (hx : p.tables.exec = Jvm.exec) (hb : c.code = code) (hr : meth.sig.returnType = ret) (hlocks : meth.locks = false) {pc : Nat} {H : Heap} {ls : Array Slot} (hdg : decode code pc = .ok (.ireturn, 1)) : W p l e room_1 s m #[Value.ref b] below meth c H [] 600000 7302249 (lw_Z below #[Value.ref b] s) (F0 m pc ls [.int 1]) := by
  intro T hT X
  obtain ⟨fs, hret, hrun, hended, hW, hframe⟩ := X.leave (v := some (.int 1)) (hlocks := hlocks) (fun h => by rw [hr] at h; cases h)
  have hmeth' : T.vm.method? m = some meth := X.method'
  refine ⟨T.setFrames fs, ?_, .returned (some (.int 1)), hrun, hended, rfl, ⟨_, rfl⟩, hW, hframe⟩
  jvm_step X.here [X.here.top, hx, hb, hdg, hmeth', hr, ret, narrow_b1]
  (try refine ⟨rfl, ?_⟩); (try refine ⟨rfl, ?_⟩)
  first | (intro acts; rw [hret _ acts rfl rfl rfl]) | rw [hret _ _ rfl rfl rfl]
  exact Steps.refl _
/-- what holds at the law's entry: the machine, the code, the tables' words (any of lw_tbl by 'hts w (by decide +kernel)'), the script of L ints xs at the cell b, what the Statement gives of the start (any of its parts by flat_of_before) -/
def lw_At (p : Program) (s : State) (m : MethodId) (meth : Method) (c : Code) (b L : Nat) (xs : Nat → Int32) : Prop :=
  p.tables.exec = Jvm.exec ∧ c.code = code ∧ meth.sig.returnType = ret ∧ c.maxLocals = 4 ∧ s.vm.findClass R_law = some m.cls ∧ (∀ w ∈ lw_tbl, w.before #[Value.ref b] s = true) ∧ va_X b L xs s s.heap ∧ b < s.heap.size ∧ meth.locks = false ∧ (Jvm.Cond.and given_1 narrow_1).before #[Value.ref b] s = true
def lc_0 (xs : Nat → Int32) (x3 : Int32) (K : db_St → Prop) (X : db_St) : Prop := wp_X10_feed X (xs ((x3 + (1 : Int32))).toNatClampNeg) ((db_lshl (((xs ((x3 + (2 : Int32))).toNatClampNeg)).toInt64) (32 : Int32)) ||| ((((xs ((x3 + (3 : Int32))).toNatClampNeg)).toInt64) &&& (4294967295 : Int64))) (fun r1 X1 => wp_X11_feed X1 (xs ((x3 + (1 : Int32))).toNatClampNeg) ((db_lshl (((xs ((x3 + (2 : Int32))).toNatClampNeg)).toInt64) (32 : Int32)) ||| ((((xs ((x3 + (3 : Int32))).toNatClampNeg)).toInt64) &&& (4294967295 : Int64))) (fun r2 X2 => ((r1 = r2 → K X2) ∧ (¬ (r1 = r2) → False))))
set_option maxHeartbeats 4000000 in
set_option maxRecDepth 100000 in
theorem lwt_0 {p : Program} {l : Launch} {e : Env} {s : State} {m : MethodId} {args : Array Value} {below : List Frame} {meth : Method} {c : Code} {E : db_E} {b L : Nat} {xs : Nat → Int32} {x3 : Int32} {K : db_St → Prop} {cells slots : Nat} {Q : State → Prop} (S : CallFix p m c cL_law 4 s args wsL_law RL) (hX : va_X b L xs s s.heap) (hbl : b < s.heap.size) (v0 : vp_in x3 L) (v1 : vp_in (x3 + 1) L) (v2 : vp_in (x3 + 2) L) (v3 : vp_in (x3 + 3) L) (v4 : vp_in (x3 + 4) L) (hf : cells ≤ room_1.cells ∧ slots ≤ room_1.slots) (hK : ∀ (X : db_St) (H : Heap) (locs : List Loc) (ls : Array Slot), K X → db_HW E (fun q => s.heap.size ≤ q) s X H locs → lv_has ls 4 [(0, .ref b), (1, .ref (db_ad E 0)), (2, .ref (db_ad E 90)), (3, .int x3)] → W p l e room_1 s m args below meth c H locs cells slots Q (F0 m 1033 ls [])) : ∀ (X : db_St) (H : Heap) (locs : List Loc) (ls : Array Slot), lc_0 xs x3 K X → db_HW E (fun q => s.heap.size ≤ q) s X H locs → lv_has ls 4 [(0, .ref b), (1, .ref (db_ad E 0)), (2, .ref (db_ad E 90)), (3, .int x3)] → W p l e room_1 s m args below meth c H locs cells slots Q (F0 m 164 ls []) := by
  have hx := S.1
  have hb := S.2.1
  intro X H locs ls h hw hl
  unfold lc_0 at h
  refine lv_aload_n hx hb dL_law_164 rfl (lv_at hl 1 rfl) ?_
  refine lv_aload_n hx hb dL_law_165 rfl (lv_at hl 0 rfl) ?_
  refine lv_iload_n hx hb dL_law_166 rfl (lv_at hl 3 rfl) ?_
  refine lv_iconst (v := (1 : Int32)) hx hb dL_law_167 (by decide) ?_
  refine lv_iadd hx hb dL_law_168 ?_
  refine va_sld hx hb hX hbl (Nat.not_le.mpr hbl) hw.2.2.2.1 v1 dL_law_169 ?_
  refine lv_aload_n hx hb dL_law_170 rfl (lv_at hl 0 rfl) ?_
  refine lv_iload_n hx hb dL_law_171 rfl (lv_at hl 3 rfl) ?_
  refine lv_iconst (v := (2 : Int32)) hx hb dL_law_172 (by decide) ?_
  refine lv_iadd hx hb dL_law_173 ?_
  refine va_sld hx hb hX hbl (Nat.not_le.mpr hbl) hw.2.2.2.1 v2 dL_law_174 ?_
  refine lv_i2l (v := (((xs ((x3 + (2 : Int32))).toNatClampNeg)).toInt64)) hx hb dL_law_175 rfl ?_
  refine lv_bipush (v := (32 : Int32)) hx hb dL_law_176 (by decide) ?_
  refine lv_lshl (v := (db_lshl (((xs ((x3 + (2 : Int32))).toNatClampNeg)).toInt64) (32 : Int32))) hx hb dL_law_178 rfl ?_
  refine lv_aload_n hx hb dL_law_179 rfl (lv_at hl 0 rfl) ?_
  refine lv_iload_n hx hb dL_law_180 rfl (lv_at hl 3 rfl) ?_
  refine lv_iconst (v := (3 : Int32)) hx hb dL_law_181 (by decide) ?_
  refine lv_iadd hx hb dL_law_182 ?_
  refine va_sld hx hb hX hbl (Nat.not_le.mpr hbl) hw.2.2.2.1 v3 dL_law_183 ?_
  refine lv_i2l (v := (((xs ((x3 + (3 : Int32))).toNatClampNeg)).toInt64)) hx hb dL_law_184 rfl ?_
  refine lv_ldc2 (v := (4294967295 : Int64)) hx hb S.2.2.2.1 (S.2.2.2.2 _ (List.mem_of_getElem? (i := 6) rfl)) dL_law_185 ?_
  refine lv_land hx hb dL_law_188 ?_
  refine lv_lor hx hb dL_law_189 ?_
  refine db_callVi S hw (Nat.le_of_ble_eq_true rfl) db_s0 (C := RX10) (T := TX10) (N := 15) (As := [.int (xs ((x3 + (1 : Int32))).toNatClampNeg), .long ((db_lshl (((xs ((x3 + (2 : Int32))).toNatClampNeg)).toInt64) (32 : Int32)) ||| ((((xs ((x3 + (3 : Int32))).toNatClampNeg)).toInt64) &&& (4294967295 : Int64)))]) rfl (ct_X10_feed  h) gL_law_X10_feed rfl ⟨rfl, rfl, Nat.le_of_ble_eq_true rfl, Nat.le_of_ble_eq_true rfl⟩ 2 rfl (by decide +kernel) hl.1 rfl (Nat.le_of_ble_eq_true rfl) dL_law_190 hf (fun r1 X1 H locs h hw => ?_)
  refine lv_aload_n hx hb dL_law_193 rfl (lv_at hl 2 rfl) ?_
  refine lv_aload_n hx hb dL_law_194 rfl (lv_at hl 0 rfl) ?_
  refine lv_iload_n hx hb dL_law_195 rfl (lv_at hl 3 rfl) ?_
  refine lv_iconst (v := (1 : Int32)) hx hb dL_law_196 (by decide) ?_
  refine lv_iadd hx hb dL_law_197 ?_
  refine va_sld hx hb hX hbl (Nat.not_le.mpr hbl) hw.2.2.2.1 v1 dL_law_198 ?_
  refine lv_aload_n hx hb dL_law_199 rfl (lv_at hl 0 rfl) ?_
  refine lv_iload_n hx hb dL_law_200 rfl (lv_at hl 3 rfl) ?_
  refine lv_iconst (v := (2 : Int32)) hx hb dL_law_201 (by decide) ?_
  refine lv_iadd hx hb dL_law_202 ?_
  refine va_sld hx hb hX hbl (Nat.not_le.mpr hbl) hw.2.2.2.1 v2 dL_law_203 ?_
  refine lv_i2l (v := (((xs ((x3 + (2 : Int32))).toNatClampNeg)).toInt64)) hx hb dL_law_204 rfl ?_
  refine lv_bipush (v := (32 : Int32)) hx hb dL_law_205 (by decide) ?_
  refine lv_lshl (v := (db_lshl (((xs ((x3 + (2 : Int32))).toNatClampNeg)).toInt64) (32 : Int32))) hx hb dL_law_207 rfl ?_
  refine lv_aload_n hx hb dL_law_208 rfl (lv_at hl 0 rfl) ?_
  refine lv_iload_n hx hb dL_law_209 rfl (lv_at hl 3 rfl) ?_
  refine lv_iconst (v := (3 : Int32)) hx hb dL_law_210 (by decide) ?_
  refine lv_iadd hx hb dL_law_211 ?_
  refine va_sld hx hb hX hbl (Nat.not_le.mpr hbl) hw.2.2.2.1 v3 dL_law_212 ?_
  refine lv_i2l (v := (((xs ((x3 + (3 : Int32))).toNatClampNeg)).toInt64)) hx hb dL_law_213 rfl ?_
  refine lv_ldc2 (v := (4294967295 : Int64)) hx hb S.2.2.2.1 (S.2.2.2.2 _ (List.mem_of_getElem? (i := 6) rfl)) dL_law_214 ?_
  refine lv_land hx hb dL_law_217 ?_
  refine lv_lor hx hb dL_law_218 ?_
  refine db_callVi S hw (Nat.le_of_ble_eq_true rfl) db_s90 (C := RX11) (T := TX11) (N := 19) (As := [.int (xs ((x3 + (1 : Int32))).toNatClampNeg), .long ((db_lshl (((xs ((x3 + (2 : Int32))).toNatClampNeg)).toInt64) (32 : Int32)) ||| ((((xs ((x3 + (3 : Int32))).toNatClampNeg)).toInt64) &&& (4294967295 : Int64)))]) rfl (ct_X11_feed  h) gL_law_X11_feed rfl ⟨rfl, rfl, Nat.le_of_ble_eq_true rfl, Nat.le_of_ble_eq_true rfl⟩ 2 rfl (by decide +kernel) hl.1 rfl (Nat.le_of_ble_eq_true rfl) dL_law_219 hf (fun r2 X2 H locs h hw => ?_)
  refine lv_icmp_eq (tgt := 1033) hx hb dL_law_222 (by decide) (fun c3 => ?_) (fun c3 => ?_)
  · have h := h.1 c3
    exact hK _ _ _ _ h hw (lv_sub hl [0, 1, 2, 3] rfl)
  · have h := h.2 c3
    exact False.elim h
def lc_1 (xs : Nat → Int32) (x3 : Int32) (K : db_St → Prop) (X : db_St) : Prop := wp_X10_rule X (xs ((x3 + (1 : Int32))).toNatClampNeg) (fun r1 X1 => wp_X11_rule X1 (xs ((x3 + (1 : Int32))).toNatClampNeg) (fun r2 X2 => ((r1 = r2 → K X2) ∧ (¬ (r1 = r2) → False))))
set_option maxHeartbeats 4000000 in
set_option maxRecDepth 100000 in
theorem lwt_1 {p : Program} {l : Launch} {e : Env} {s : State} {m : MethodId} {args : Array Value} {below : List Frame} {meth : Method} {c : Code} {E : db_E} {b L : Nat} {xs : Nat → Int32} {x3 : Int32} {K : db_St → Prop} {cells slots : Nat} {Q : State → Prop} (S : CallFix p m c cL_law 4 s args wsL_law RL) (hX : va_X b L xs s s.heap) (hbl : b < s.heap.size) (v0 : vp_in x3 L) (v1 : vp_in (x3 + 1) L) (v2 : vp_in (x3 + 2) L) (v3 : vp_in (x3 + 3) L) (v4 : vp_in (x3 + 4) L) (hf : cells ≤ room_1.cells ∧ slots ≤ room_1.slots) (hK : ∀ (X : db_St) (H : Heap) (locs : List Loc) (ls : Array Slot), K X → db_HW E (fun q => s.heap.size ≤ q) s X H locs → lv_has ls 4 [(0, .ref b), (1, .ref (db_ad E 0)), (2, .ref (db_ad E 90)), (3, .int x3)] → W p l e room_1 s m args below meth c H locs cells slots Q (F0 m 1033 ls [])) : ∀ (X : db_St) (H : Heap) (locs : List Loc) (ls : Array Slot), lc_1 xs x3 K X → db_HW E (fun q => s.heap.size ≤ q) s X H locs → lv_has ls 4 [(0, .ref b), (1, .ref (db_ad E 0)), (2, .ref (db_ad E 90)), (3, .int x3)] → W p l e room_1 s m args below meth c H locs cells slots Q (F0 m 227 ls []) := by
  have hx := S.1
  have hb := S.2.1
  intro X H locs ls h hw hl
  unfold lc_1 at h
  refine lv_aload_n hx hb dL_law_227 rfl (lv_at hl 1 rfl) ?_
  refine lv_aload_n hx hb dL_law_228 rfl (lv_at hl 0 rfl) ?_
  refine lv_iload_n hx hb dL_law_229 rfl (lv_at hl 3 rfl) ?_
  refine lv_iconst (v := (1 : Int32)) hx hb dL_law_230 (by decide) ?_
  refine lv_iadd hx hb dL_law_231 ?_
  refine va_sld hx hb hX hbl (Nat.not_le.mpr hbl) hw.2.2.2.1 v1 dL_law_232 ?_
  refine db_callVi S hw (Nat.le_of_ble_eq_true rfl) db_s0 (C := RX10) (T := TX10) (N := 15) (As := [.int (xs ((x3 + (1 : Int32))).toNatClampNeg)]) rfl (ct_X10_rule  h) gL_law_X10_rule rfl ⟨rfl, rfl, Nat.le_of_ble_eq_true rfl, Nat.le_of_ble_eq_true rfl⟩ 1 rfl (by decide +kernel) hl.1 rfl (Nat.le_of_ble_eq_true rfl) dL_law_233 hf (fun r1 X1 H locs h hw => ?_)
  refine lv_aload_n hx hb dL_law_236 rfl (lv_at hl 2 rfl) ?_
  refine lv_aload_n hx hb dL_law_237 rfl (lv_at hl 0 rfl) ?_
  refine lv_iload_n hx hb dL_law_238 rfl (lv_at hl 3 rfl) ?_
  refine lv_iconst (v := (1 : Int32)) hx hb dL_law_239 (by decide) ?_
  refine lv_iadd hx hb dL_law_240 ?_
  refine va_sld hx hb hX hbl (Nat.not_le.mpr hbl) hw.2.2.2.1 v1 dL_law_241 ?_
  refine db_callVi S hw (Nat.le_of_ble_eq_true rfl) db_s90 (C := RX11) (T := TX11) (N := 19) (As := [.int (xs ((x3 + (1 : Int32))).toNatClampNeg)]) rfl (ct_X11_rule  h) gL_law_X11_rule rfl ⟨rfl, rfl, Nat.le_of_ble_eq_true rfl, Nat.le_of_ble_eq_true rfl⟩ 1 rfl (by decide +kernel) hl.1 rfl (Nat.le_of_ble_eq_true rfl) dL_law_242 hf (fun r2 X2 H locs h hw => ?_)
  refine lv_icmp_eq (tgt := 1033) hx hb dL_law_245 (by decide) (fun c3 => ?_) (fun c3 => ?_)
  · have h := h.1 c3
    exact hK _ _ _ _ h hw (lv_sub hl [0, 1, 2, 3] rfl)
  · have h := h.2 c3
    exact False.elim h
def lc_2 (xs : Nat → Int32) (x3 : Int32) (K : db_St → Prop) (X : db_St) : Prop := wp_X10_ruleOf X (xs ((x3 + (1 : Int32))).toNatClampNeg) (xs ((x3 + (2 : Int32))).toNatClampNeg) (xs ((x3 + (3 : Int32))).toNatClampNeg) (fun r1 X1 => wp_X11_ruleOf X1 (xs ((x3 + (1 : Int32))).toNatClampNeg) (xs ((x3 + (2 : Int32))).toNatClampNeg) (xs ((x3 + (3 : Int32))).toNatClampNeg) (fun r2 X2 => ((r1 = r2 → K X2) ∧ (¬ (r1 = r2) → False))))
set_option maxHeartbeats 4000000 in
set_option maxRecDepth 100000 in
theorem lwt_2 {p : Program} {l : Launch} {e : Env} {s : State} {m : MethodId} {args : Array Value} {below : List Frame} {meth : Method} {c : Code} {E : db_E} {b L : Nat} {xs : Nat → Int32} {x3 : Int32} {K : db_St → Prop} {cells slots : Nat} {Q : State → Prop} (S : CallFix p m c cL_law 4 s args wsL_law RL) (hX : va_X b L xs s s.heap) (hbl : b < s.heap.size) (v0 : vp_in x3 L) (v1 : vp_in (x3 + 1) L) (v2 : vp_in (x3 + 2) L) (v3 : vp_in (x3 + 3) L) (v4 : vp_in (x3 + 4) L) (hf : cells ≤ room_1.cells ∧ slots ≤ room_1.slots) (hK : ∀ (X : db_St) (H : Heap) (locs : List Loc) (ls : Array Slot), K X → db_HW E (fun q => s.heap.size ≤ q) s X H locs → lv_has ls 4 [(0, .ref b), (1, .ref (db_ad E 0)), (2, .ref (db_ad E 90)), (3, .int x3)] → W p l e room_1 s m args below meth c H locs cells slots Q (F0 m 1033 ls [])) : ∀ (X : db_St) (H : Heap) (locs : List Loc) (ls : Array Slot), lc_2 xs x3 K X → db_HW E (fun q => s.heap.size ≤ q) s X H locs → lv_has ls 4 [(0, .ref b), (1, .ref (db_ad E 0)), (2, .ref (db_ad E 90)), (3, .int x3)] → W p l e room_1 s m args below meth c H locs cells slots Q (F0 m 250 ls []) := by
  have hx := S.1
  have hb := S.2.1
  intro X H locs ls h hw hl
  unfold lc_2 at h
  refine lv_aload_n hx hb dL_law_250 rfl (lv_at hl 1 rfl) ?_
  refine lv_aload_n hx hb dL_law_251 rfl (lv_at hl 0 rfl) ?_
  refine lv_iload_n hx hb dL_law_252 rfl (lv_at hl 3 rfl) ?_
  refine lv_iconst (v := (1 : Int32)) hx hb dL_law_253 (by decide) ?_
  refine lv_iadd hx hb dL_law_254 ?_
  refine va_sld hx hb hX hbl (Nat.not_le.mpr hbl) hw.2.2.2.1 v1 dL_law_255 ?_
  refine lv_aload_n hx hb dL_law_256 rfl (lv_at hl 0 rfl) ?_
  refine lv_iload_n hx hb dL_law_257 rfl (lv_at hl 3 rfl) ?_
  refine lv_iconst (v := (2 : Int32)) hx hb dL_law_258 (by decide) ?_
  refine lv_iadd hx hb dL_law_259 ?_
  refine va_sld hx hb hX hbl (Nat.not_le.mpr hbl) hw.2.2.2.1 v2 dL_law_260 ?_
  refine lv_aload_n hx hb dL_law_261 rfl (lv_at hl 0 rfl) ?_
  refine lv_iload_n hx hb dL_law_262 rfl (lv_at hl 3 rfl) ?_
  refine lv_iconst (v := (3 : Int32)) hx hb dL_law_263 (by decide) ?_
  refine lv_iadd hx hb dL_law_264 ?_
  refine va_sld hx hb hX hbl (Nat.not_le.mpr hbl) hw.2.2.2.1 v3 dL_law_265 ?_
  refine db_callVi S hw (Nat.le_of_ble_eq_true rfl) db_s0 (C := RX10) (T := TX10) (N := 15) (As := [.int (xs ((x3 + (1 : Int32))).toNatClampNeg), .int (xs ((x3 + (2 : Int32))).toNatClampNeg), .int (xs ((x3 + (3 : Int32))).toNatClampNeg)]) rfl (ct_X10_ruleOf  h) gL_law_X10_ruleOf rfl ⟨rfl, rfl, Nat.le_of_ble_eq_true rfl, Nat.le_of_ble_eq_true rfl⟩ 3 rfl (by decide +kernel) hl.1 rfl (Nat.le_of_ble_eq_true rfl) dL_law_266 hf (fun r1 X1 H locs h hw => ?_)
  refine lv_aload_n hx hb dL_law_269 rfl (lv_at hl 2 rfl) ?_
  refine lv_aload_n hx hb dL_law_270 rfl (lv_at hl 0 rfl) ?_
  refine lv_iload_n hx hb dL_law_271 rfl (lv_at hl 3 rfl) ?_
  refine lv_iconst (v := (1 : Int32)) hx hb dL_law_272 (by decide) ?_
  refine lv_iadd hx hb dL_law_273 ?_
  refine va_sld hx hb hX hbl (Nat.not_le.mpr hbl) hw.2.2.2.1 v1 dL_law_274 ?_
  refine lv_aload_n hx hb dL_law_275 rfl (lv_at hl 0 rfl) ?_
  refine lv_iload_n hx hb dL_law_276 rfl (lv_at hl 3 rfl) ?_
  refine lv_iconst (v := (2 : Int32)) hx hb dL_law_277 (by decide) ?_
  refine lv_iadd hx hb dL_law_278 ?_
  refine va_sld hx hb hX hbl (Nat.not_le.mpr hbl) hw.2.2.2.1 v2 dL_law_279 ?_
  refine lv_aload_n hx hb dL_law_280 rfl (lv_at hl 0 rfl) ?_
  refine lv_iload_n hx hb dL_law_281 rfl (lv_at hl 3 rfl) ?_
  refine lv_iconst (v := (3 : Int32)) hx hb dL_law_282 (by decide) ?_
  refine lv_iadd hx hb dL_law_283 ?_
  refine va_sld hx hb hX hbl (Nat.not_le.mpr hbl) hw.2.2.2.1 v3 dL_law_284 ?_
  refine db_callVi S hw (Nat.le_of_ble_eq_true rfl) db_s90 (C := RX11) (T := TX11) (N := 19) (As := [.int (xs ((x3 + (1 : Int32))).toNatClampNeg), .int (xs ((x3 + (2 : Int32))).toNatClampNeg), .int (xs ((x3 + (3 : Int32))).toNatClampNeg)]) rfl (ct_X11_ruleOf  h) gL_law_X11_ruleOf rfl ⟨rfl, rfl, Nat.le_of_ble_eq_true rfl, Nat.le_of_ble_eq_true rfl⟩ 3 rfl (by decide +kernel) hl.1 rfl (Nat.le_of_ble_eq_true rfl) dL_law_285 hf (fun r2 X2 H locs h hw => ?_)
  refine lv_icmp_eq (tgt := 1033) hx hb dL_law_288 (by decide) (fun c3 => ?_) (fun c3 => ?_)
  · have h := h.1 c3
    exact hK _ _ _ _ h hw (lv_sub hl [0, 1, 2, 3] rfl)
  · have h := h.2 c3
    exact False.elim h
def lc_3 (xs : Nat → Int32) (x3 : Int32) (K : db_St → Prop) (X : db_St) : Prop := wp_X10_lean X (xs ((x3 + (1 : Int32))).toNatClampNeg) (xs ((x3 + (2 : Int32))).toNatClampNeg) (fun r1 X1 => wp_X11_lean X1 (xs ((x3 + (1 : Int32))).toNatClampNeg) (xs ((x3 + (2 : Int32))).toNatClampNeg) (fun r2 X2 => ((r1 = r2 → K X2) ∧ (¬ (r1 = r2) → False))))
set_option maxHeartbeats 4000000 in
set_option maxRecDepth 100000 in
theorem lwt_3 {p : Program} {l : Launch} {e : Env} {s : State} {m : MethodId} {args : Array Value} {below : List Frame} {meth : Method} {c : Code} {E : db_E} {b L : Nat} {xs : Nat → Int32} {x3 : Int32} {K : db_St → Prop} {cells slots : Nat} {Q : State → Prop} (S : CallFix p m c cL_law 4 s args wsL_law RL) (hX : va_X b L xs s s.heap) (hbl : b < s.heap.size) (v0 : vp_in x3 L) (v1 : vp_in (x3 + 1) L) (v2 : vp_in (x3 + 2) L) (v3 : vp_in (x3 + 3) L) (v4 : vp_in (x3 + 4) L) (hf : cells ≤ room_1.cells ∧ slots ≤ room_1.slots) (hK : ∀ (X : db_St) (H : Heap) (locs : List Loc) (ls : Array Slot), K X → db_HW E (fun q => s.heap.size ≤ q) s X H locs → lv_has ls 4 [(0, .ref b), (1, .ref (db_ad E 0)), (2, .ref (db_ad E 90)), (3, .int x3)] → W p l e room_1 s m args below meth c H locs cells slots Q (F0 m 1033 ls [])) : ∀ (X : db_St) (H : Heap) (locs : List Loc) (ls : Array Slot), lc_3 xs x3 K X → db_HW E (fun q => s.heap.size ≤ q) s X H locs → lv_has ls 4 [(0, .ref b), (1, .ref (db_ad E 0)), (2, .ref (db_ad E 90)), (3, .int x3)] → W p l e room_1 s m args below meth c H locs cells slots Q (F0 m 293 ls []) := by
  have hx := S.1
  have hb := S.2.1
  intro X H locs ls h hw hl
  unfold lc_3 at h
  refine lv_aload_n hx hb dL_law_293 rfl (lv_at hl 1 rfl) ?_
  refine lv_aload_n hx hb dL_law_294 rfl (lv_at hl 0 rfl) ?_
  refine lv_iload_n hx hb dL_law_295 rfl (lv_at hl 3 rfl) ?_
  refine lv_iconst (v := (1 : Int32)) hx hb dL_law_296 (by decide) ?_
  refine lv_iadd hx hb dL_law_297 ?_
  refine va_sld hx hb hX hbl (Nat.not_le.mpr hbl) hw.2.2.2.1 v1 dL_law_298 ?_
  refine lv_aload_n hx hb dL_law_299 rfl (lv_at hl 0 rfl) ?_
  refine lv_iload_n hx hb dL_law_300 rfl (lv_at hl 3 rfl) ?_
  refine lv_iconst (v := (2 : Int32)) hx hb dL_law_301 (by decide) ?_
  refine lv_iadd hx hb dL_law_302 ?_
  refine va_sld hx hb hX hbl (Nat.not_le.mpr hbl) hw.2.2.2.1 v2 dL_law_303 ?_
  refine db_callVi S hw (Nat.le_of_ble_eq_true rfl) db_s0 (C := RX10) (T := TX10) (N := 15) (As := [.int (xs ((x3 + (1 : Int32))).toNatClampNeg), .int (xs ((x3 + (2 : Int32))).toNatClampNeg)]) rfl (ct_X10_lean  h) gL_law_X10_lean rfl ⟨rfl, rfl, Nat.le_of_ble_eq_true rfl, Nat.le_of_ble_eq_true rfl⟩ 2 rfl (by decide +kernel) hl.1 rfl (Nat.le_of_ble_eq_true rfl) dL_law_304 hf (fun r1 X1 H locs h hw => ?_)
  refine lv_aload_n hx hb dL_law_307 rfl (lv_at hl 2 rfl) ?_
  refine lv_aload_n hx hb dL_law_308 rfl (lv_at hl 0 rfl) ?_
  refine lv_iload_n hx hb dL_law_309 rfl (lv_at hl 3 rfl) ?_
  refine lv_iconst (v := (1 : Int32)) hx hb dL_law_310 (by decide) ?_
  refine lv_iadd hx hb dL_law_311 ?_
  refine va_sld hx hb hX hbl (Nat.not_le.mpr hbl) hw.2.2.2.1 v1 dL_law_312 ?_
  refine lv_aload_n hx hb dL_law_313 rfl (lv_at hl 0 rfl) ?_
  refine lv_iload_n hx hb dL_law_314 rfl (lv_at hl 3 rfl) ?_
  refine lv_iconst (v := (2 : Int32)) hx hb dL_law_315 (by decide) ?_
  refine lv_iadd hx hb dL_law_316 ?_
  refine va_sld hx hb hX hbl (Nat.not_le.mpr hbl) hw.2.2.2.1 v2 dL_law_317 ?_
  refine db_callVi S hw (Nat.le_of_ble_eq_true rfl) db_s90 (C := RX11) (T := TX11) (N := 19) (As := [.int (xs ((x3 + (1 : Int32))).toNatClampNeg), .int (xs ((x3 + (2 : Int32))).toNatClampNeg)]) rfl (ct_X11_lean  h) gL_law_X11_lean rfl ⟨rfl, rfl, Nat.le_of_ble_eq_true rfl, Nat.le_of_ble_eq_true rfl⟩ 2 rfl (by decide +kernel) hl.1 rfl (Nat.le_of_ble_eq_true rfl) dL_law_318 hf (fun r2 X2 H locs h hw => ?_)
  refine lv_icmp_eq (tgt := 1033) hx hb dL_law_321 (by decide) (fun c3 => ?_) (fun c3 => ?_)
  · have h := h.1 c3
    exact hK _ _ _ _ h hw (lv_sub hl [0, 1, 2, 3] rfl)
  · have h := h.2 c3
    exact False.elim h
def lc_4 (xs : Nat → Int32) (x3 : Int32) (K : db_St → Prop) (X : db_St) : Prop := wp_X10_mode X (xs ((x3 + (1 : Int32))).toNatClampNeg) (xs ((x3 + (2 : Int32))).toNatClampNeg) (fun r1 X1 => wp_X11_mode X1 (xs ((x3 + (1 : Int32))).toNatClampNeg) (xs ((x3 + (2 : Int32))).toNatClampNeg) (fun r2 X2 => ((r1 = r2 → K X2) ∧ (¬ (r1 = r2) → False))))
set_option maxHeartbeats 4000000 in
set_option maxRecDepth 100000 in
theorem lwt_4 {p : Program} {l : Launch} {e : Env} {s : State} {m : MethodId} {args : Array Value} {below : List Frame} {meth : Method} {c : Code} {E : db_E} {b L : Nat} {xs : Nat → Int32} {x3 : Int32} {K : db_St → Prop} {cells slots : Nat} {Q : State → Prop} (S : CallFix p m c cL_law 4 s args wsL_law RL) (hX : va_X b L xs s s.heap) (hbl : b < s.heap.size) (v0 : vp_in x3 L) (v1 : vp_in (x3 + 1) L) (v2 : vp_in (x3 + 2) L) (v3 : vp_in (x3 + 3) L) (v4 : vp_in (x3 + 4) L) (hf : cells ≤ room_1.cells ∧ slots ≤ room_1.slots) (hK : ∀ (X : db_St) (H : Heap) (locs : List Loc) (ls : Array Slot), K X → db_HW E (fun q => s.heap.size ≤ q) s X H locs → lv_has ls 4 [(0, .ref b), (1, .ref (db_ad E 0)), (2, .ref (db_ad E 90)), (3, .int x3)] → W p l e room_1 s m args below meth c H locs cells slots Q (F0 m 1033 ls [])) : ∀ (X : db_St) (H : Heap) (locs : List Loc) (ls : Array Slot), lc_4 xs x3 K X → db_HW E (fun q => s.heap.size ≤ q) s X H locs → lv_has ls 4 [(0, .ref b), (1, .ref (db_ad E 0)), (2, .ref (db_ad E 90)), (3, .int x3)] → W p l e room_1 s m args below meth c H locs cells slots Q (F0 m 326 ls []) := by
  have hx := S.1
  have hb := S.2.1
  intro X H locs ls h hw hl
  unfold lc_4 at h
  refine lv_aload_n hx hb dL_law_326 rfl (lv_at hl 1 rfl) ?_
  refine lv_aload_n hx hb dL_law_327 rfl (lv_at hl 0 rfl) ?_
  refine lv_iload_n hx hb dL_law_328 rfl (lv_at hl 3 rfl) ?_
  refine lv_iconst (v := (1 : Int32)) hx hb dL_law_329 (by decide) ?_
  refine lv_iadd hx hb dL_law_330 ?_
  refine va_sld hx hb hX hbl (Nat.not_le.mpr hbl) hw.2.2.2.1 v1 dL_law_331 ?_
  refine lv_aload_n hx hb dL_law_332 rfl (lv_at hl 0 rfl) ?_
  refine lv_iload_n hx hb dL_law_333 rfl (lv_at hl 3 rfl) ?_
  refine lv_iconst (v := (2 : Int32)) hx hb dL_law_334 (by decide) ?_
  refine lv_iadd hx hb dL_law_335 ?_
  refine va_sld hx hb hX hbl (Nat.not_le.mpr hbl) hw.2.2.2.1 v2 dL_law_336 ?_
  refine db_callVi S hw (Nat.le_of_ble_eq_true rfl) db_s0 (C := RX10) (T := TX10) (N := 15) (As := [.int (xs ((x3 + (1 : Int32))).toNatClampNeg), .int (xs ((x3 + (2 : Int32))).toNatClampNeg)]) rfl (ct_X10_mode  h) gL_law_X10_mode rfl ⟨rfl, rfl, Nat.le_of_ble_eq_true rfl, Nat.le_of_ble_eq_true rfl⟩ 2 rfl (by decide +kernel) hl.1 rfl (Nat.le_of_ble_eq_true rfl) dL_law_337 hf (fun r1 X1 H locs h hw => ?_)
  refine lv_aload_n hx hb dL_law_340 rfl (lv_at hl 2 rfl) ?_
  refine lv_aload_n hx hb dL_law_341 rfl (lv_at hl 0 rfl) ?_
  refine lv_iload_n hx hb dL_law_342 rfl (lv_at hl 3 rfl) ?_
  refine lv_iconst (v := (1 : Int32)) hx hb dL_law_343 (by decide) ?_
  refine lv_iadd hx hb dL_law_344 ?_
  refine va_sld hx hb hX hbl (Nat.not_le.mpr hbl) hw.2.2.2.1 v1 dL_law_345 ?_
  refine lv_aload_n hx hb dL_law_346 rfl (lv_at hl 0 rfl) ?_
  refine lv_iload_n hx hb dL_law_347 rfl (lv_at hl 3 rfl) ?_
  refine lv_iconst (v := (2 : Int32)) hx hb dL_law_348 (by decide) ?_
  refine lv_iadd hx hb dL_law_349 ?_
  refine va_sld hx hb hX hbl (Nat.not_le.mpr hbl) hw.2.2.2.1 v2 dL_law_350 ?_
  refine db_callVi S hw (Nat.le_of_ble_eq_true rfl) db_s90 (C := RX11) (T := TX11) (N := 19) (As := [.int (xs ((x3 + (1 : Int32))).toNatClampNeg), .int (xs ((x3 + (2 : Int32))).toNatClampNeg)]) rfl (ct_X11_mode  h) gL_law_X11_mode rfl ⟨rfl, rfl, Nat.le_of_ble_eq_true rfl, Nat.le_of_ble_eq_true rfl⟩ 2 rfl (by decide +kernel) hl.1 rfl (Nat.le_of_ble_eq_true rfl) dL_law_351 hf (fun r2 X2 H locs h hw => ?_)
  refine lv_icmp_eq (tgt := 1033) hx hb dL_law_354 (by decide) (fun c3 => ?_) (fun c3 => ?_)
  · have h := h.1 c3
    exact hK _ _ _ _ h hw (lv_sub hl [0, 1, 2, 3] rfl)
  · have h := h.2 c3
    exact False.elim h
def lc_5 (xs : Nat → Int32) (x3 : Int32) (K : db_St → Prop) (X : db_St) : Prop := wp_X10_owes X (xs ((x3 + (1 : Int32))).toNatClampNeg) (xs ((x3 + (2 : Int32))).toNatClampNeg) (xs ((x3 + (3 : Int32))).toNatClampNeg) (fun r1 X1 => wp_X11_owes X1 (xs ((x3 + (1 : Int32))).toNatClampNeg) (xs ((x3 + (2 : Int32))).toNatClampNeg) (xs ((x3 + (3 : Int32))).toNatClampNeg) (fun r2 X2 => ((r1 = r2 → K X2) ∧ (¬ (r1 = r2) → False))))
set_option maxHeartbeats 4000000 in
set_option maxRecDepth 100000 in
theorem lwt_5 {p : Program} {l : Launch} {e : Env} {s : State} {m : MethodId} {args : Array Value} {below : List Frame} {meth : Method} {c : Code} {E : db_E} {b L : Nat} {xs : Nat → Int32} {x3 : Int32} {K : db_St → Prop} {cells slots : Nat} {Q : State → Prop} (S : CallFix p m c cL_law 4 s args wsL_law RL) (hX : va_X b L xs s s.heap) (hbl : b < s.heap.size) (v0 : vp_in x3 L) (v1 : vp_in (x3 + 1) L) (v2 : vp_in (x3 + 2) L) (v3 : vp_in (x3 + 3) L) (v4 : vp_in (x3 + 4) L) (hf : cells ≤ room_1.cells ∧ slots ≤ room_1.slots) (hK : ∀ (X : db_St) (H : Heap) (locs : List Loc) (ls : Array Slot), K X → db_HW E (fun q => s.heap.size ≤ q) s X H locs → lv_has ls 4 [(0, .ref b), (1, .ref (db_ad E 0)), (2, .ref (db_ad E 90)), (3, .int x3)] → W p l e room_1 s m args below meth c H locs cells slots Q (F0 m 1033 ls [])) : ∀ (X : db_St) (H : Heap) (locs : List Loc) (ls : Array Slot), lc_5 xs x3 K X → db_HW E (fun q => s.heap.size ≤ q) s X H locs → lv_has ls 4 [(0, .ref b), (1, .ref (db_ad E 0)), (2, .ref (db_ad E 90)), (3, .int x3)] → W p l e room_1 s m args below meth c H locs cells slots Q (F0 m 359 ls []) := by
  have hx := S.1
  have hb := S.2.1
  intro X H locs ls h hw hl
  unfold lc_5 at h
  refine lv_aload_n hx hb dL_law_359 rfl (lv_at hl 1 rfl) ?_
  refine lv_aload_n hx hb dL_law_360 rfl (lv_at hl 0 rfl) ?_
  refine lv_iload_n hx hb dL_law_361 rfl (lv_at hl 3 rfl) ?_
  refine lv_iconst (v := (1 : Int32)) hx hb dL_law_362 (by decide) ?_
  refine lv_iadd hx hb dL_law_363 ?_
  refine va_sld hx hb hX hbl (Nat.not_le.mpr hbl) hw.2.2.2.1 v1 dL_law_364 ?_
  refine lv_aload_n hx hb dL_law_365 rfl (lv_at hl 0 rfl) ?_
  refine lv_iload_n hx hb dL_law_366 rfl (lv_at hl 3 rfl) ?_
  refine lv_iconst (v := (2 : Int32)) hx hb dL_law_367 (by decide) ?_
  refine lv_iadd hx hb dL_law_368 ?_
  refine va_sld hx hb hX hbl (Nat.not_le.mpr hbl) hw.2.2.2.1 v2 dL_law_369 ?_
  refine lv_aload_n hx hb dL_law_370 rfl (lv_at hl 0 rfl) ?_
  refine lv_iload_n hx hb dL_law_371 rfl (lv_at hl 3 rfl) ?_
  refine lv_iconst (v := (3 : Int32)) hx hb dL_law_372 (by decide) ?_
  refine lv_iadd hx hb dL_law_373 ?_
  refine va_sld hx hb hX hbl (Nat.not_le.mpr hbl) hw.2.2.2.1 v3 dL_law_374 ?_
  refine db_callVi S hw (Nat.le_of_ble_eq_true rfl) db_s0 (C := RX10) (T := TX10) (N := 15) (As := [.int (xs ((x3 + (1 : Int32))).toNatClampNeg), .int (xs ((x3 + (2 : Int32))).toNatClampNeg), .int (xs ((x3 + (3 : Int32))).toNatClampNeg)]) rfl (ct_X10_owes  h) gL_law_X10_owes rfl ⟨rfl, rfl, Nat.le_of_ble_eq_true rfl, Nat.le_of_ble_eq_true rfl⟩ 3 rfl (by decide +kernel) hl.1 rfl (Nat.le_of_ble_eq_true rfl) dL_law_375 hf (fun r1 X1 H locs h hw => ?_)
  refine lv_aload_n hx hb dL_law_378 rfl (lv_at hl 2 rfl) ?_
  refine lv_aload_n hx hb dL_law_379 rfl (lv_at hl 0 rfl) ?_
  refine lv_iload_n hx hb dL_law_380 rfl (lv_at hl 3 rfl) ?_
  refine lv_iconst (v := (1 : Int32)) hx hb dL_law_381 (by decide) ?_
  refine lv_iadd hx hb dL_law_382 ?_
  refine va_sld hx hb hX hbl (Nat.not_le.mpr hbl) hw.2.2.2.1 v1 dL_law_383 ?_
  refine lv_aload_n hx hb dL_law_384 rfl (lv_at hl 0 rfl) ?_
  refine lv_iload_n hx hb dL_law_385 rfl (lv_at hl 3 rfl) ?_
  refine lv_iconst (v := (2 : Int32)) hx hb dL_law_386 (by decide) ?_
  refine lv_iadd hx hb dL_law_387 ?_
  refine va_sld hx hb hX hbl (Nat.not_le.mpr hbl) hw.2.2.2.1 v2 dL_law_388 ?_
  refine lv_aload_n hx hb dL_law_389 rfl (lv_at hl 0 rfl) ?_
  refine lv_iload_n hx hb dL_law_390 rfl (lv_at hl 3 rfl) ?_
  refine lv_iconst (v := (3 : Int32)) hx hb dL_law_391 (by decide) ?_
  refine lv_iadd hx hb dL_law_392 ?_
  refine va_sld hx hb hX hbl (Nat.not_le.mpr hbl) hw.2.2.2.1 v3 dL_law_393 ?_
  refine db_callVi S hw (Nat.le_of_ble_eq_true rfl) db_s90 (C := RX11) (T := TX11) (N := 19) (As := [.int (xs ((x3 + (1 : Int32))).toNatClampNeg), .int (xs ((x3 + (2 : Int32))).toNatClampNeg), .int (xs ((x3 + (3 : Int32))).toNatClampNeg)]) rfl (ct_X11_owes  h) gL_law_X11_owes rfl ⟨rfl, rfl, Nat.le_of_ble_eq_true rfl, Nat.le_of_ble_eq_true rfl⟩ 3 rfl (by decide +kernel) hl.1 rfl (Nat.le_of_ble_eq_true rfl) dL_law_394 hf (fun r2 X2 H locs h hw => ?_)
  refine lv_icmp_eq (tgt := 1033) hx hb dL_law_397 (by decide) (fun c3 => ?_) (fun c3 => ?_)
  · have h := h.1 c3
    exact hK _ _ _ _ h hw (lv_sub hl [0, 1, 2, 3] rfl)
  · have h := h.2 c3
    exact False.elim h
def lc_6 (xs : Nat → Int32) (x3 : Int32) (K : db_St → Prop) (X : db_St) : Prop := wp_X10_why X (xs ((x3 + (1 : Int32))).toNatClampNeg) (xs ((x3 + (2 : Int32))).toNatClampNeg) (xs ((x3 + (3 : Int32))).toNatClampNeg) (fun r1 X1 => wp_X11_why X1 (xs ((x3 + (1 : Int32))).toNatClampNeg) (xs ((x3 + (2 : Int32))).toNatClampNeg) (xs ((x3 + (3 : Int32))).toNatClampNeg) (fun r2 X2 => ((r1 = r2 → K X2) ∧ (¬ (r1 = r2) → False))))
set_option maxHeartbeats 4000000 in
set_option maxRecDepth 100000 in
theorem lwt_6 {p : Program} {l : Launch} {e : Env} {s : State} {m : MethodId} {args : Array Value} {below : List Frame} {meth : Method} {c : Code} {E : db_E} {b L : Nat} {xs : Nat → Int32} {x3 : Int32} {K : db_St → Prop} {cells slots : Nat} {Q : State → Prop} (S : CallFix p m c cL_law 4 s args wsL_law RL) (hX : va_X b L xs s s.heap) (hbl : b < s.heap.size) (v0 : vp_in x3 L) (v1 : vp_in (x3 + 1) L) (v2 : vp_in (x3 + 2) L) (v3 : vp_in (x3 + 3) L) (v4 : vp_in (x3 + 4) L) (hf : cells ≤ room_1.cells ∧ slots ≤ room_1.slots) (hK : ∀ (X : db_St) (H : Heap) (locs : List Loc) (ls : Array Slot), K X → db_HW E (fun q => s.heap.size ≤ q) s X H locs → lv_has ls 4 [(0, .ref b), (1, .ref (db_ad E 0)), (2, .ref (db_ad E 90)), (3, .int x3)] → W p l e room_1 s m args below meth c H locs cells slots Q (F0 m 1033 ls [])) : ∀ (X : db_St) (H : Heap) (locs : List Loc) (ls : Array Slot), lc_6 xs x3 K X → db_HW E (fun q => s.heap.size ≤ q) s X H locs → lv_has ls 4 [(0, .ref b), (1, .ref (db_ad E 0)), (2, .ref (db_ad E 90)), (3, .int x3)] → W p l e room_1 s m args below meth c H locs cells slots Q (F0 m 402 ls []) := by
  have hx := S.1
  have hb := S.2.1
  intro X H locs ls h hw hl
  unfold lc_6 at h
  refine lv_aload_n hx hb dL_law_402 rfl (lv_at hl 1 rfl) ?_
  refine lv_aload_n hx hb dL_law_403 rfl (lv_at hl 0 rfl) ?_
  refine lv_iload_n hx hb dL_law_404 rfl (lv_at hl 3 rfl) ?_
  refine lv_iconst (v := (1 : Int32)) hx hb dL_law_405 (by decide) ?_
  refine lv_iadd hx hb dL_law_406 ?_
  refine va_sld hx hb hX hbl (Nat.not_le.mpr hbl) hw.2.2.2.1 v1 dL_law_407 ?_
  refine lv_aload_n hx hb dL_law_408 rfl (lv_at hl 0 rfl) ?_
  refine lv_iload_n hx hb dL_law_409 rfl (lv_at hl 3 rfl) ?_
  refine lv_iconst (v := (2 : Int32)) hx hb dL_law_410 (by decide) ?_
  refine lv_iadd hx hb dL_law_411 ?_
  refine va_sld hx hb hX hbl (Nat.not_le.mpr hbl) hw.2.2.2.1 v2 dL_law_412 ?_
  refine lv_aload_n hx hb dL_law_413 rfl (lv_at hl 0 rfl) ?_
  refine lv_iload_n hx hb dL_law_414 rfl (lv_at hl 3 rfl) ?_
  refine lv_iconst (v := (3 : Int32)) hx hb dL_law_415 (by decide) ?_
  refine lv_iadd hx hb dL_law_416 ?_
  refine va_sld hx hb hX hbl (Nat.not_le.mpr hbl) hw.2.2.2.1 v3 dL_law_417 ?_
  refine db_callVi S hw (Nat.le_of_ble_eq_true rfl) db_s0 (C := RX10) (T := TX10) (N := 15) (As := [.int (xs ((x3 + (1 : Int32))).toNatClampNeg), .int (xs ((x3 + (2 : Int32))).toNatClampNeg), .int (xs ((x3 + (3 : Int32))).toNatClampNeg)]) rfl (ct_X10_why  h) gL_law_X10_why rfl ⟨rfl, rfl, Nat.le_of_ble_eq_true rfl, Nat.le_of_ble_eq_true rfl⟩ 3 rfl (by decide +kernel) hl.1 rfl (Nat.le_of_ble_eq_true rfl) dL_law_418 hf (fun r1 X1 H locs h hw => ?_)
  refine lv_aload_n hx hb dL_law_421 rfl (lv_at hl 2 rfl) ?_
  refine lv_aload_n hx hb dL_law_422 rfl (lv_at hl 0 rfl) ?_
  refine lv_iload_n hx hb dL_law_423 rfl (lv_at hl 3 rfl) ?_
  refine lv_iconst (v := (1 : Int32)) hx hb dL_law_424 (by decide) ?_
  refine lv_iadd hx hb dL_law_425 ?_
  refine va_sld hx hb hX hbl (Nat.not_le.mpr hbl) hw.2.2.2.1 v1 dL_law_426 ?_
  refine lv_aload_n hx hb dL_law_427 rfl (lv_at hl 0 rfl) ?_
  refine lv_iload_n hx hb dL_law_428 rfl (lv_at hl 3 rfl) ?_
  refine lv_iconst (v := (2 : Int32)) hx hb dL_law_429 (by decide) ?_
  refine lv_iadd hx hb dL_law_430 ?_
  refine va_sld hx hb hX hbl (Nat.not_le.mpr hbl) hw.2.2.2.1 v2 dL_law_431 ?_
  refine lv_aload_n hx hb dL_law_432 rfl (lv_at hl 0 rfl) ?_
  refine lv_iload_n hx hb dL_law_433 rfl (lv_at hl 3 rfl) ?_
  refine lv_iconst (v := (3 : Int32)) hx hb dL_law_434 (by decide) ?_
  refine lv_iadd hx hb dL_law_435 ?_
  refine va_sld hx hb hX hbl (Nat.not_le.mpr hbl) hw.2.2.2.1 v3 dL_law_436 ?_
  refine db_callVi S hw (Nat.le_of_ble_eq_true rfl) db_s90 (C := RX11) (T := TX11) (N := 19) (As := [.int (xs ((x3 + (1 : Int32))).toNatClampNeg), .int (xs ((x3 + (2 : Int32))).toNatClampNeg), .int (xs ((x3 + (3 : Int32))).toNatClampNeg)]) rfl (ct_X11_why  h) gL_law_X11_why rfl ⟨rfl, rfl, Nat.le_of_ble_eq_true rfl, Nat.le_of_ble_eq_true rfl⟩ 3 rfl (by decide +kernel) hl.1 rfl (Nat.le_of_ble_eq_true rfl) dL_law_437 hf (fun r2 X2 H locs h hw => ?_)
  refine lv_icmp_eq (tgt := 1033) hx hb dL_law_440 (by decide) (fun c3 => ?_) (fun c3 => ?_)
  · have h := h.1 c3
    exact hK _ _ _ _ h hw (lv_sub hl [0, 1, 2, 3] rfl)
  · have h := h.2 c3
    exact False.elim h
def lc_7 (xs : Nat → Int32) (x3 : Int32) (K : db_St → Prop) (X : db_St) : Prop := (((xs ((x3 + (3 : Int32))).toNatClampNeg) = 0 → wp_X10_done X (xs ((x3 + (1 : Int32))).toNatClampNeg) (xs ((x3 + (2 : Int32))).toNatClampNeg) (0 : Int32) (fun r1 X1 => (((xs ((x3 + (3 : Int32))).toNatClampNeg) = 0 → wp_X11_done X1 (xs ((x3 + (1 : Int32))).toNatClampNeg) (xs ((x3 + (2 : Int32))).toNatClampNeg) (0 : Int32) (fun r2 X2 => ((r1 = r2 → K X2) ∧ (¬ (r1 = r2) → False)))) ∧ (¬ ((xs ((x3 + (3 : Int32))).toNatClampNeg) = 0) → wp_X11_done X1 (xs ((x3 + (1 : Int32))).toNatClampNeg) (xs ((x3 + (2 : Int32))).toNatClampNeg) (1 : Int32) (fun r4 X4 => ((r1 = r4 → K X4) ∧ (¬ (r1 = r4) → False))))))) ∧ (¬ ((xs ((x3 + (3 : Int32))).toNatClampNeg) = 0) → wp_X10_done X (xs ((x3 + (1 : Int32))).toNatClampNeg) (xs ((x3 + (2 : Int32))).toNatClampNeg) (1 : Int32) (fun r7 X7 => (((xs ((x3 + (3 : Int32))).toNatClampNeg) = 0 → wp_X11_done X7 (xs ((x3 + (1 : Int32))).toNatClampNeg) (xs ((x3 + (2 : Int32))).toNatClampNeg) (0 : Int32) (fun r8 X8 => ((r7 = r8 → K X8) ∧ (¬ (r7 = r8) → False)))) ∧ (¬ ((xs ((x3 + (3 : Int32))).toNatClampNeg) = 0) → wp_X11_done X7 (xs ((x3 + (1 : Int32))).toNatClampNeg) (xs ((x3 + (2 : Int32))).toNatClampNeg) (1 : Int32) (fun r10 X10 => ((r7 = r10 → K X10) ∧ (¬ (r7 = r10) → False))))))))
set_option maxHeartbeats 4000000 in
set_option maxRecDepth 100000 in
theorem lwt_7 {p : Program} {l : Launch} {e : Env} {s : State} {m : MethodId} {args : Array Value} {below : List Frame} {meth : Method} {c : Code} {E : db_E} {b L : Nat} {xs : Nat → Int32} {x3 : Int32} {K : db_St → Prop} {cells slots : Nat} {Q : State → Prop} (S : CallFix p m c cL_law 4 s args wsL_law RL) (hX : va_X b L xs s s.heap) (hbl : b < s.heap.size) (v0 : vp_in x3 L) (v1 : vp_in (x3 + 1) L) (v2 : vp_in (x3 + 2) L) (v3 : vp_in (x3 + 3) L) (v4 : vp_in (x3 + 4) L) (hf : cells ≤ room_1.cells ∧ slots ≤ room_1.slots) (hK : ∀ (X : db_St) (H : Heap) (locs : List Loc) (ls : Array Slot), K X → db_HW E (fun q => s.heap.size ≤ q) s X H locs → lv_has ls 4 [(0, .ref b), (1, .ref (db_ad E 0)), (2, .ref (db_ad E 90)), (3, .int x3)] → W p l e room_1 s m args below meth c H locs cells slots Q (F0 m 1033 ls [])) : ∀ (X : db_St) (H : Heap) (locs : List Loc) (ls : Array Slot), lc_7 xs x3 K X → db_HW E (fun q => s.heap.size ≤ q) s X H locs → lv_has ls 4 [(0, .ref b), (1, .ref (db_ad E 0)), (2, .ref (db_ad E 90)), (3, .int x3)] → W p l e room_1 s m args below meth c H locs cells slots Q (F0 m 445 ls []) := by
  have hx := S.1
  have hb := S.2.1
  intro X H locs ls h hw hl
  unfold lc_7 at h
  refine lv_aload_n hx hb dL_law_445 rfl (lv_at hl 1 rfl) ?_
  refine lv_aload_n hx hb dL_law_446 rfl (lv_at hl 0 rfl) ?_
  refine lv_iload_n hx hb dL_law_447 rfl (lv_at hl 3 rfl) ?_
  refine lv_iconst (v := (1 : Int32)) hx hb dL_law_448 (by decide) ?_
  refine lv_iadd hx hb dL_law_449 ?_
  refine va_sld hx hb hX hbl (Nat.not_le.mpr hbl) hw.2.2.2.1 v1 dL_law_450 ?_
  refine lv_aload_n hx hb dL_law_451 rfl (lv_at hl 0 rfl) ?_
  refine lv_iload_n hx hb dL_law_452 rfl (lv_at hl 3 rfl) ?_
  refine lv_iconst (v := (2 : Int32)) hx hb dL_law_453 (by decide) ?_
  refine lv_iadd hx hb dL_law_454 ?_
  refine va_sld hx hb hX hbl (Nat.not_le.mpr hbl) hw.2.2.2.1 v2 dL_law_455 ?_
  refine lv_aload_n hx hb dL_law_456 rfl (lv_at hl 0 rfl) ?_
  refine lv_iload_n hx hb dL_law_457 rfl (lv_at hl 3 rfl) ?_
  refine lv_iconst (v := (3 : Int32)) hx hb dL_law_458 (by decide) ?_
  refine lv_iadd hx hb dL_law_459 ?_
  refine va_sld hx hb hX hbl (Nat.not_le.mpr hbl) hw.2.2.2.1 v3 dL_law_460 ?_
  refine lv_if_eq (tgt := 468) hx hb dL_law_461 (by decide) (fun c13 => ?_) (fun c13 => ?_)
  · have h := h.1 c13
    refine lv_iconst (v := (0 : Int32)) hx hb dL_law_468 (by decide) ?_
    refine db_callVi S hw (Nat.le_of_ble_eq_true rfl) db_s0 (C := RX10) (T := TX10) (N := 15) (As := [.int (xs ((x3 + (1 : Int32))).toNatClampNeg), .int (xs ((x3 + (2 : Int32))).toNatClampNeg), .int (0 : Int32)]) rfl (ct_X10_done  h) gL_law_X10_done rfl ⟨rfl, rfl, Nat.le_of_ble_eq_true rfl, Nat.le_of_ble_eq_true rfl⟩ 3 rfl (by decide +kernel) hl.1 rfl (Nat.le_of_ble_eq_true rfl) dL_law_469 hf (fun r1 X1 H locs h hw => ?_)
    refine lv_aload_n hx hb dL_law_472 rfl (lv_at hl 2 rfl) ?_
    refine lv_aload_n hx hb dL_law_473 rfl (lv_at hl 0 rfl) ?_
    refine lv_iload_n hx hb dL_law_474 rfl (lv_at hl 3 rfl) ?_
    refine lv_iconst (v := (1 : Int32)) hx hb dL_law_475 (by decide) ?_
    refine lv_iadd hx hb dL_law_476 ?_
    refine va_sld hx hb hX hbl (Nat.not_le.mpr hbl) hw.2.2.2.1 v1 dL_law_477 ?_
    refine lv_aload_n hx hb dL_law_478 rfl (lv_at hl 0 rfl) ?_
    refine lv_iload_n hx hb dL_law_479 rfl (lv_at hl 3 rfl) ?_
    refine lv_iconst (v := (2 : Int32)) hx hb dL_law_480 (by decide) ?_
    refine lv_iadd hx hb dL_law_481 ?_
    refine va_sld hx hb hX hbl (Nat.not_le.mpr hbl) hw.2.2.2.1 v2 dL_law_482 ?_
    refine lv_aload_n hx hb dL_law_483 rfl (lv_at hl 0 rfl) ?_
    refine lv_iload_n hx hb dL_law_484 rfl (lv_at hl 3 rfl) ?_
    refine lv_iconst (v := (3 : Int32)) hx hb dL_law_485 (by decide) ?_
    refine lv_iadd hx hb dL_law_486 ?_
    refine va_sld hx hb hX hbl (Nat.not_le.mpr hbl) hw.2.2.2.1 v3 dL_law_487 ?_
    refine lv_if_eq (tgt := 495) hx hb dL_law_488 (by decide) (fun c6 => ?_) (fun c6 => ?_)
    · have h := h.1 c6
      refine lv_iconst (v := (0 : Int32)) hx hb dL_law_495 (by decide) ?_
      refine db_callVi S hw (Nat.le_of_ble_eq_true rfl) db_s90 (C := RX11) (T := TX11) (N := 19) (As := [.int (xs ((x3 + (1 : Int32))).toNatClampNeg), .int (xs ((x3 + (2 : Int32))).toNatClampNeg), .int (0 : Int32)]) rfl (ct_X11_done  h) gL_law_X11_done rfl ⟨rfl, rfl, Nat.le_of_ble_eq_true rfl, Nat.le_of_ble_eq_true rfl⟩ 3 rfl (by decide +kernel) hl.1 rfl (Nat.le_of_ble_eq_true rfl) dL_law_496 hf (fun r2 X2 H locs h hw => ?_)
      refine lv_icmp_eq (tgt := 1033) hx hb dL_law_499 (by decide) (fun c3 => ?_) (fun c3 => ?_)
      · have h := h.1 c3
        exact hK _ _ _ _ h hw (lv_sub hl [0, 1, 2, 3] rfl)
      · have h := h.2 c3
        exact False.elim h
    · have h := h.2 c6
      refine lv_iconst (v := (1 : Int32)) hx hb dL_law_491 (by decide) ?_
      refine lv_goto (tgt := 496) hx hb dL_law_492 (by decide) ?_
      refine db_callVi S hw (Nat.le_of_ble_eq_true rfl) db_s90 (C := RX11) (T := TX11) (N := 19) (As := [.int (xs ((x3 + (1 : Int32))).toNatClampNeg), .int (xs ((x3 + (2 : Int32))).toNatClampNeg), .int (1 : Int32)]) rfl (ct_X11_done  h) gL_law_X11_done rfl ⟨rfl, rfl, Nat.le_of_ble_eq_true rfl, Nat.le_of_ble_eq_true rfl⟩ 3 rfl (by decide +kernel) hl.1 rfl (Nat.le_of_ble_eq_true rfl) dL_law_496 hf (fun r4 X4 H locs h hw => ?_)
      refine lv_icmp_eq (tgt := 1033) hx hb dL_law_499 (by decide) (fun c5 => ?_) (fun c5 => ?_)
      · have h := h.1 c5
        exact hK _ _ _ _ h hw (lv_sub hl [0, 1, 2, 3] rfl)
      · have h := h.2 c5
        exact False.elim h
  · have h := h.2 c13
    refine lv_iconst (v := (1 : Int32)) hx hb dL_law_464 (by decide) ?_
    refine lv_goto (tgt := 469) hx hb dL_law_465 (by decide) ?_
    refine db_callVi S hw (Nat.le_of_ble_eq_true rfl) db_s0 (C := RX10) (T := TX10) (N := 15) (As := [.int (xs ((x3 + (1 : Int32))).toNatClampNeg), .int (xs ((x3 + (2 : Int32))).toNatClampNeg), .int (1 : Int32)]) rfl (ct_X10_done  h) gL_law_X10_done rfl ⟨rfl, rfl, Nat.le_of_ble_eq_true rfl, Nat.le_of_ble_eq_true rfl⟩ 3 rfl (by decide +kernel) hl.1 rfl (Nat.le_of_ble_eq_true rfl) dL_law_469 hf (fun r7 X7 H locs h hw => ?_)
    refine lv_aload_n hx hb dL_law_472 rfl (lv_at hl 2 rfl) ?_
    refine lv_aload_n hx hb dL_law_473 rfl (lv_at hl 0 rfl) ?_
    refine lv_iload_n hx hb dL_law_474 rfl (lv_at hl 3 rfl) ?_
    refine lv_iconst (v := (1 : Int32)) hx hb dL_law_475 (by decide) ?_
    refine lv_iadd hx hb dL_law_476 ?_
    refine va_sld hx hb hX hbl (Nat.not_le.mpr hbl) hw.2.2.2.1 v1 dL_law_477 ?_
    refine lv_aload_n hx hb dL_law_478 rfl (lv_at hl 0 rfl) ?_
    refine lv_iload_n hx hb dL_law_479 rfl (lv_at hl 3 rfl) ?_
    refine lv_iconst (v := (2 : Int32)) hx hb dL_law_480 (by decide) ?_
    refine lv_iadd hx hb dL_law_481 ?_
    refine va_sld hx hb hX hbl (Nat.not_le.mpr hbl) hw.2.2.2.1 v2 dL_law_482 ?_
    refine lv_aload_n hx hb dL_law_483 rfl (lv_at hl 0 rfl) ?_
    refine lv_iload_n hx hb dL_law_484 rfl (lv_at hl 3 rfl) ?_
    refine lv_iconst (v := (3 : Int32)) hx hb dL_law_485 (by decide) ?_
    refine lv_iadd hx hb dL_law_486 ?_
    refine va_sld hx hb hX hbl (Nat.not_le.mpr hbl) hw.2.2.2.1 v3 dL_law_487 ?_
    refine lv_if_eq (tgt := 495) hx hb dL_law_488 (by decide) (fun c12 => ?_) (fun c12 => ?_)
    · have h := h.1 c12
      refine lv_iconst (v := (0 : Int32)) hx hb dL_law_495 (by decide) ?_
      refine db_callVi S hw (Nat.le_of_ble_eq_true rfl) db_s90 (C := RX11) (T := TX11) (N := 19) (As := [.int (xs ((x3 + (1 : Int32))).toNatClampNeg), .int (xs ((x3 + (2 : Int32))).toNatClampNeg), .int (0 : Int32)]) rfl (ct_X11_done  h) gL_law_X11_done rfl ⟨rfl, rfl, Nat.le_of_ble_eq_true rfl, Nat.le_of_ble_eq_true rfl⟩ 3 rfl (by decide +kernel) hl.1 rfl (Nat.le_of_ble_eq_true rfl) dL_law_496 hf (fun r8 X8 H locs h hw => ?_)
      refine lv_icmp_eq (tgt := 1033) hx hb dL_law_499 (by decide) (fun c9 => ?_) (fun c9 => ?_)
      · have h := h.1 c9
        exact hK _ _ _ _ h hw (lv_sub hl [0, 1, 2, 3] rfl)
      · have h := h.2 c9
        exact False.elim h
    · have h := h.2 c12
      refine lv_iconst (v := (1 : Int32)) hx hb dL_law_491 (by decide) ?_
      refine lv_goto (tgt := 496) hx hb dL_law_492 (by decide) ?_
      refine db_callVi S hw (Nat.le_of_ble_eq_true rfl) db_s90 (C := RX11) (T := TX11) (N := 19) (As := [.int (xs ((x3 + (1 : Int32))).toNatClampNeg), .int (xs ((x3 + (2 : Int32))).toNatClampNeg), .int (1 : Int32)]) rfl (ct_X11_done  h) gL_law_X11_done rfl ⟨rfl, rfl, Nat.le_of_ble_eq_true rfl, Nat.le_of_ble_eq_true rfl⟩ 3 rfl (by decide +kernel) hl.1 rfl (Nat.le_of_ble_eq_true rfl) dL_law_496 hf (fun r10 X10 H locs h hw => ?_)
      refine lv_icmp_eq (tgt := 1033) hx hb dL_law_499 (by decide) (fun c11 => ?_) (fun c11 => ?_)
      · have h := h.1 c11
        exact hK _ _ _ _ h hw (lv_sub hl [0, 1, 2, 3] rfl)
      · have h := h.2 c11
        exact False.elim h
def lc_8 (xs : Nat → Int32) (x3 : Int32) (K : db_St → Prop) (X : db_St) : Prop := wp_X10_undone X (fun r1 X1 => wp_X11_undone X1 (fun r2 X2 => ((r1 = r2 → K X2) ∧ (¬ (r1 = r2) → False))))
set_option maxHeartbeats 4000000 in
set_option maxRecDepth 100000 in
theorem lwt_8 {p : Program} {l : Launch} {e : Env} {s : State} {m : MethodId} {args : Array Value} {below : List Frame} {meth : Method} {c : Code} {E : db_E} {b L : Nat} {xs : Nat → Int32} {x3 : Int32} {K : db_St → Prop} {cells slots : Nat} {Q : State → Prop} (S : CallFix p m c cL_law 4 s args wsL_law RL) (hX : va_X b L xs s s.heap) (hbl : b < s.heap.size) (v0 : vp_in x3 L) (v1 : vp_in (x3 + 1) L) (v2 : vp_in (x3 + 2) L) (v3 : vp_in (x3 + 3) L) (v4 : vp_in (x3 + 4) L) (hf : cells ≤ room_1.cells ∧ slots ≤ room_1.slots) (hK : ∀ (X : db_St) (H : Heap) (locs : List Loc) (ls : Array Slot), K X → db_HW E (fun q => s.heap.size ≤ q) s X H locs → lv_has ls 4 [(0, .ref b), (1, .ref (db_ad E 0)), (2, .ref (db_ad E 90)), (3, .int x3)] → W p l e room_1 s m args below meth c H locs cells slots Q (F0 m 1033 ls [])) : ∀ (X : db_St) (H : Heap) (locs : List Loc) (ls : Array Slot), lc_8 xs x3 K X → db_HW E (fun q => s.heap.size ≤ q) s X H locs → lv_has ls 4 [(0, .ref b), (1, .ref (db_ad E 0)), (2, .ref (db_ad E 90)), (3, .int x3)] → W p l e room_1 s m args below meth c H locs cells slots Q (F0 m 504 ls []) := by
  have hx := S.1
  have hb := S.2.1
  intro X H locs ls h hw hl
  unfold lc_8 at h
  refine lv_aload_n hx hb dL_law_504 rfl (lv_at hl 1 rfl) ?_
  refine db_callVi S hw (Nat.le_of_ble_eq_true rfl) db_s0 (C := RX10) (T := TX10) (N := 15) (As := []) rfl (ct_X10_undone  h) gL_law_X10_undone rfl ⟨rfl, rfl, Nat.le_of_ble_eq_true rfl, Nat.le_of_ble_eq_true rfl⟩ 0 rfl (by decide +kernel) hl.1 rfl (Nat.le_of_ble_eq_true rfl) dL_law_505 hf (fun r1 X1 H locs h hw => ?_)
  refine lv_aload_n hx hb dL_law_508 rfl (lv_at hl 2 rfl) ?_
  refine db_callVi S hw (Nat.le_of_ble_eq_true rfl) db_s90 (C := RX11) (T := TX11) (N := 19) (As := []) rfl (ct_X11_undone  h) gL_law_X11_undone rfl ⟨rfl, rfl, Nat.le_of_ble_eq_true rfl, Nat.le_of_ble_eq_true rfl⟩ 0 rfl (by decide +kernel) hl.1 rfl (Nat.le_of_ble_eq_true rfl) dL_law_509 hf (fun r2 X2 H locs h hw => ?_)
  refine lv_icmp_eq (tgt := 1033) hx hb dL_law_512 (by decide) (fun c3 => ?_) (fun c3 => ?_)
  · have h := h.1 c3
    exact hK _ _ _ _ h hw (lv_sub hl [0, 1, 2, 3] rfl)
  · have h := h.2 c3
    exact False.elim h
def lc_9 (xs : Nat → Int32) (x3 : Int32) (K : db_St → Prop) (X : db_St) : Prop := wp_X10_together X (xs ((x3 + (1 : Int32))).toNatClampNeg) (fun r1 X1 => wp_X11_together X1 (xs ((x3 + (1 : Int32))).toNatClampNeg) (fun r2 X2 => ((r1 = r2 → K X2) ∧ (¬ (r1 = r2) → False))))
set_option maxHeartbeats 4000000 in
set_option maxRecDepth 100000 in
theorem lwt_9 {p : Program} {l : Launch} {e : Env} {s : State} {m : MethodId} {args : Array Value} {below : List Frame} {meth : Method} {c : Code} {E : db_E} {b L : Nat} {xs : Nat → Int32} {x3 : Int32} {K : db_St → Prop} {cells slots : Nat} {Q : State → Prop} (S : CallFix p m c cL_law 4 s args wsL_law RL) (hX : va_X b L xs s s.heap) (hbl : b < s.heap.size) (v0 : vp_in x3 L) (v1 : vp_in (x3 + 1) L) (v2 : vp_in (x3 + 2) L) (v3 : vp_in (x3 + 3) L) (v4 : vp_in (x3 + 4) L) (hf : cells ≤ room_1.cells ∧ slots ≤ room_1.slots) (hK : ∀ (X : db_St) (H : Heap) (locs : List Loc) (ls : Array Slot), K X → db_HW E (fun q => s.heap.size ≤ q) s X H locs → lv_has ls 4 [(0, .ref b), (1, .ref (db_ad E 0)), (2, .ref (db_ad E 90)), (3, .int x3)] → W p l e room_1 s m args below meth c H locs cells slots Q (F0 m 1033 ls [])) : ∀ (X : db_St) (H : Heap) (locs : List Loc) (ls : Array Slot), lc_9 xs x3 K X → db_HW E (fun q => s.heap.size ≤ q) s X H locs → lv_has ls 4 [(0, .ref b), (1, .ref (db_ad E 0)), (2, .ref (db_ad E 90)), (3, .int x3)] → W p l e room_1 s m args below meth c H locs cells slots Q (F0 m 517 ls []) := by
  have hx := S.1
  have hb := S.2.1
  intro X H locs ls h hw hl
  unfold lc_9 at h
  refine lv_aload_n hx hb dL_law_517 rfl (lv_at hl 1 rfl) ?_
  refine lv_aload_n hx hb dL_law_518 rfl (lv_at hl 0 rfl) ?_
  refine lv_iload_n hx hb dL_law_519 rfl (lv_at hl 3 rfl) ?_
  refine lv_iconst (v := (1 : Int32)) hx hb dL_law_520 (by decide) ?_
  refine lv_iadd hx hb dL_law_521 ?_
  refine va_sld hx hb hX hbl (Nat.not_le.mpr hbl) hw.2.2.2.1 v1 dL_law_522 ?_
  refine db_callVi S hw (Nat.le_of_ble_eq_true rfl) db_s0 (C := RX10) (T := TX10) (N := 15) (As := [.int (xs ((x3 + (1 : Int32))).toNatClampNeg)]) rfl (ct_X10_together  h) gL_law_X10_together rfl ⟨rfl, rfl, Nat.le_of_ble_eq_true rfl, Nat.le_of_ble_eq_true rfl⟩ 1 rfl (by decide +kernel) hl.1 rfl (Nat.le_of_ble_eq_true rfl) dL_law_523 hf (fun r1 X1 H locs h hw => ?_)
  refine lv_aload_n hx hb dL_law_526 rfl (lv_at hl 2 rfl) ?_
  refine lv_aload_n hx hb dL_law_527 rfl (lv_at hl 0 rfl) ?_
  refine lv_iload_n hx hb dL_law_528 rfl (lv_at hl 3 rfl) ?_
  refine lv_iconst (v := (1 : Int32)) hx hb dL_law_529 (by decide) ?_
  refine lv_iadd hx hb dL_law_530 ?_
  refine va_sld hx hb hX hbl (Nat.not_le.mpr hbl) hw.2.2.2.1 v1 dL_law_531 ?_
  refine db_callVi S hw (Nat.le_of_ble_eq_true rfl) db_s90 (C := RX11) (T := TX11) (N := 19) (As := [.int (xs ((x3 + (1 : Int32))).toNatClampNeg)]) rfl (ct_X11_together  h) gL_law_X11_together rfl ⟨rfl, rfl, Nat.le_of_ble_eq_true rfl, Nat.le_of_ble_eq_true rfl⟩ 1 rfl (by decide +kernel) hl.1 rfl (Nat.le_of_ble_eq_true rfl) dL_law_532 hf (fun r2 X2 H locs h hw => ?_)
  refine lv_icmp_eq (tgt := 1033) hx hb dL_law_535 (by decide) (fun c3 => ?_) (fun c3 => ?_)
  · have h := h.1 c3
    exact hK _ _ _ _ h hw (lv_sub hl [0, 1, 2, 3] rfl)
  · have h := h.2 c3
    exact False.elim h
def lc_10 (xs : Nat → Int32) (x3 : Int32) (K : db_St → Prop) (X : db_St) : Prop := wp_X10_paying X (xs ((x3 + (1 : Int32))).toNatClampNeg) (xs ((x3 + (2 : Int32))).toNatClampNeg) (xs ((x3 + (3 : Int32))).toNatClampNeg) (fun r1 X1 => wp_X11_paying X1 (xs ((x3 + (1 : Int32))).toNatClampNeg) (xs ((x3 + (2 : Int32))).toNatClampNeg) (xs ((x3 + (3 : Int32))).toNatClampNeg) (fun r2 X2 => ((r1 = r2 → K X2) ∧ (¬ (r1 = r2) → False))))
set_option maxHeartbeats 4000000 in
set_option maxRecDepth 100000 in
theorem lwt_10 {p : Program} {l : Launch} {e : Env} {s : State} {m : MethodId} {args : Array Value} {below : List Frame} {meth : Method} {c : Code} {E : db_E} {b L : Nat} {xs : Nat → Int32} {x3 : Int32} {K : db_St → Prop} {cells slots : Nat} {Q : State → Prop} (S : CallFix p m c cL_law 4 s args wsL_law RL) (hX : va_X b L xs s s.heap) (hbl : b < s.heap.size) (v0 : vp_in x3 L) (v1 : vp_in (x3 + 1) L) (v2 : vp_in (x3 + 2) L) (v3 : vp_in (x3 + 3) L) (v4 : vp_in (x3 + 4) L) (hf : cells ≤ room_1.cells ∧ slots ≤ room_1.slots) (hK : ∀ (X : db_St) (H : Heap) (locs : List Loc) (ls : Array Slot), K X → db_HW E (fun q => s.heap.size ≤ q) s X H locs → lv_has ls 4 [(0, .ref b), (1, .ref (db_ad E 0)), (2, .ref (db_ad E 90)), (3, .int x3)] → W p l e room_1 s m args below meth c H locs cells slots Q (F0 m 1033 ls [])) : ∀ (X : db_St) (H : Heap) (locs : List Loc) (ls : Array Slot), lc_10 xs x3 K X → db_HW E (fun q => s.heap.size ≤ q) s X H locs → lv_has ls 4 [(0, .ref b), (1, .ref (db_ad E 0)), (2, .ref (db_ad E 90)), (3, .int x3)] → W p l e room_1 s m args below meth c H locs cells slots Q (F0 m 540 ls []) := by
  have hx := S.1
  have hb := S.2.1
  intro X H locs ls h hw hl
  unfold lc_10 at h
  refine lv_aload_n hx hb dL_law_540 rfl (lv_at hl 1 rfl) ?_
  refine lv_aload_n hx hb dL_law_541 rfl (lv_at hl 0 rfl) ?_
  refine lv_iload_n hx hb dL_law_542 rfl (lv_at hl 3 rfl) ?_
  refine lv_iconst (v := (1 : Int32)) hx hb dL_law_543 (by decide) ?_
  refine lv_iadd hx hb dL_law_544 ?_
  refine va_sld hx hb hX hbl (Nat.not_le.mpr hbl) hw.2.2.2.1 v1 dL_law_545 ?_
  refine lv_aload_n hx hb dL_law_546 rfl (lv_at hl 0 rfl) ?_
  refine lv_iload_n hx hb dL_law_547 rfl (lv_at hl 3 rfl) ?_
  refine lv_iconst (v := (2 : Int32)) hx hb dL_law_548 (by decide) ?_
  refine lv_iadd hx hb dL_law_549 ?_
  refine va_sld hx hb hX hbl (Nat.not_le.mpr hbl) hw.2.2.2.1 v2 dL_law_550 ?_
  refine lv_aload_n hx hb dL_law_551 rfl (lv_at hl 0 rfl) ?_
  refine lv_iload_n hx hb dL_law_552 rfl (lv_at hl 3 rfl) ?_
  refine lv_iconst (v := (3 : Int32)) hx hb dL_law_553 (by decide) ?_
  refine lv_iadd hx hb dL_law_554 ?_
  refine va_sld hx hb hX hbl (Nat.not_le.mpr hbl) hw.2.2.2.1 v3 dL_law_555 ?_
  refine db_callVi S hw (Nat.le_of_ble_eq_true rfl) db_s0 (C := RX10) (T := TX10) (N := 15) (As := [.int (xs ((x3 + (1 : Int32))).toNatClampNeg), .int (xs ((x3 + (2 : Int32))).toNatClampNeg), .int (xs ((x3 + (3 : Int32))).toNatClampNeg)]) rfl (ct_X10_paying  h) gL_law_X10_paying rfl ⟨rfl, rfl, Nat.le_of_ble_eq_true rfl, Nat.le_of_ble_eq_true rfl⟩ 3 rfl (by decide +kernel) hl.1 rfl (Nat.le_of_ble_eq_true rfl) dL_law_556 hf (fun r1 X1 H locs h hw => ?_)
  refine lv_aload_n hx hb dL_law_559 rfl (lv_at hl 2 rfl) ?_
  refine lv_aload_n hx hb dL_law_560 rfl (lv_at hl 0 rfl) ?_
  refine lv_iload_n hx hb dL_law_561 rfl (lv_at hl 3 rfl) ?_
  refine lv_iconst (v := (1 : Int32)) hx hb dL_law_562 (by decide) ?_
  refine lv_iadd hx hb dL_law_563 ?_
  refine va_sld hx hb hX hbl (Nat.not_le.mpr hbl) hw.2.2.2.1 v1 dL_law_564 ?_
  refine lv_aload_n hx hb dL_law_565 rfl (lv_at hl 0 rfl) ?_
  refine lv_iload_n hx hb dL_law_566 rfl (lv_at hl 3 rfl) ?_
  refine lv_iconst (v := (2 : Int32)) hx hb dL_law_567 (by decide) ?_
  refine lv_iadd hx hb dL_law_568 ?_
  refine va_sld hx hb hX hbl (Nat.not_le.mpr hbl) hw.2.2.2.1 v2 dL_law_569 ?_
  refine lv_aload_n hx hb dL_law_570 rfl (lv_at hl 0 rfl) ?_
  refine lv_iload_n hx hb dL_law_571 rfl (lv_at hl 3 rfl) ?_
  refine lv_iconst (v := (3 : Int32)) hx hb dL_law_572 (by decide) ?_
  refine lv_iadd hx hb dL_law_573 ?_
  refine va_sld hx hb hX hbl (Nat.not_le.mpr hbl) hw.2.2.2.1 v3 dL_law_574 ?_
  refine db_callVi S hw (Nat.le_of_ble_eq_true rfl) db_s90 (C := RX11) (T := TX11) (N := 19) (As := [.int (xs ((x3 + (1 : Int32))).toNatClampNeg), .int (xs ((x3 + (2 : Int32))).toNatClampNeg), .int (xs ((x3 + (3 : Int32))).toNatClampNeg)]) rfl (ct_X11_paying  h) gL_law_X11_paying rfl ⟨rfl, rfl, Nat.le_of_ble_eq_true rfl, Nat.le_of_ble_eq_true rfl⟩ 3 rfl (by decide +kernel) hl.1 rfl (Nat.le_of_ble_eq_true rfl) dL_law_575 hf (fun r2 X2 H locs h hw => ?_)
  refine lv_icmp_eq (tgt := 1033) hx hb dL_law_578 (by decide) (fun c3 => ?_) (fun c3 => ?_)
  · have h := h.1 c3
    exact hK _ _ _ _ h hw (lv_sub hl [0, 1, 2, 3] rfl)
  · have h := h.2 c3
    exact False.elim h
def lc_11 (xs : Nat → Int32) (x3 : Int32) (K : db_St → Prop) (X : db_St) : Prop := wp_X10_feasts X (xs ((x3 + (1 : Int32))).toNatClampNeg) (fun r1 X1 => wp_X11_feasts X1 (xs ((x3 + (1 : Int32))).toNatClampNeg) (fun r2 X2 => ((r1 = r2 → K X2) ∧ (¬ (r1 = r2) → False))))
set_option maxHeartbeats 4000000 in
set_option maxRecDepth 100000 in
theorem lwt_11 {p : Program} {l : Launch} {e : Env} {s : State} {m : MethodId} {args : Array Value} {below : List Frame} {meth : Method} {c : Code} {E : db_E} {b L : Nat} {xs : Nat → Int32} {x3 : Int32} {K : db_St → Prop} {cells slots : Nat} {Q : State → Prop} (S : CallFix p m c cL_law 4 s args wsL_law RL) (hX : va_X b L xs s s.heap) (hbl : b < s.heap.size) (v0 : vp_in x3 L) (v1 : vp_in (x3 + 1) L) (v2 : vp_in (x3 + 2) L) (v3 : vp_in (x3 + 3) L) (v4 : vp_in (x3 + 4) L) (hf : cells ≤ room_1.cells ∧ slots ≤ room_1.slots) (hK : ∀ (X : db_St) (H : Heap) (locs : List Loc) (ls : Array Slot), K X → db_HW E (fun q => s.heap.size ≤ q) s X H locs → lv_has ls 4 [(0, .ref b), (1, .ref (db_ad E 0)), (2, .ref (db_ad E 90)), (3, .int x3)] → W p l e room_1 s m args below meth c H locs cells slots Q (F0 m 1033 ls [])) : ∀ (X : db_St) (H : Heap) (locs : List Loc) (ls : Array Slot), lc_11 xs x3 K X → db_HW E (fun q => s.heap.size ≤ q) s X H locs → lv_has ls 4 [(0, .ref b), (1, .ref (db_ad E 0)), (2, .ref (db_ad E 90)), (3, .int x3)] → W p l e room_1 s m args below meth c H locs cells slots Q (F0 m 583 ls []) := by
  have hx := S.1
  have hb := S.2.1
  intro X H locs ls h hw hl
  unfold lc_11 at h
  refine lv_aload_n hx hb dL_law_583 rfl (lv_at hl 1 rfl) ?_
  refine lv_aload_n hx hb dL_law_584 rfl (lv_at hl 0 rfl) ?_
  refine lv_iload_n hx hb dL_law_585 rfl (lv_at hl 3 rfl) ?_
  refine lv_iconst (v := (1 : Int32)) hx hb dL_law_586 (by decide) ?_
  refine lv_iadd hx hb dL_law_587 ?_
  refine va_sld hx hb hX hbl (Nat.not_le.mpr hbl) hw.2.2.2.1 v1 dL_law_588 ?_
  refine db_callVi S hw (Nat.le_of_ble_eq_true rfl) db_s0 (C := RX10) (T := TX10) (N := 15) (As := [.int (xs ((x3 + (1 : Int32))).toNatClampNeg)]) rfl (ct_X10_feasts  h) gL_law_X10_feasts rfl ⟨rfl, rfl, Nat.le_of_ble_eq_true rfl, Nat.le_of_ble_eq_true rfl⟩ 1 rfl (by decide +kernel) hl.1 rfl (Nat.le_of_ble_eq_true rfl) dL_law_589 hf (fun r1 X1 H locs h hw => ?_)
  refine lv_aload_n hx hb dL_law_592 rfl (lv_at hl 2 rfl) ?_
  refine lv_aload_n hx hb dL_law_593 rfl (lv_at hl 0 rfl) ?_
  refine lv_iload_n hx hb dL_law_594 rfl (lv_at hl 3 rfl) ?_
  refine lv_iconst (v := (1 : Int32)) hx hb dL_law_595 (by decide) ?_
  refine lv_iadd hx hb dL_law_596 ?_
  refine va_sld hx hb hX hbl (Nat.not_le.mpr hbl) hw.2.2.2.1 v1 dL_law_597 ?_
  refine db_callVi S hw (Nat.le_of_ble_eq_true rfl) db_s90 (C := RX11) (T := TX11) (N := 19) (As := [.int (xs ((x3 + (1 : Int32))).toNatClampNeg)]) rfl (ct_X11_feasts  h) gL_law_X11_feasts rfl ⟨rfl, rfl, Nat.le_of_ble_eq_true rfl, Nat.le_of_ble_eq_true rfl⟩ 1 rfl (by decide +kernel) hl.1 rfl (Nat.le_of_ble_eq_true rfl) dL_law_598 hf (fun r2 X2 H locs h hw => ?_)
  refine lv_icmp_eq (tgt := 1033) hx hb dL_law_601 (by decide) (fun c3 => ?_) (fun c3 => ?_)
  · have h := h.1 c3
    exact hK _ _ _ _ h hw (lv_sub hl [0, 1, 2, 3] rfl)
  · have h := h.2 c3
    exact False.elim h
def lc_12 (xs : Nat → Int32) (x3 : Int32) (K : db_St → Prop) (X : db_St) : Prop := wp_X10_friends X (xs ((x3 + (1 : Int32))).toNatClampNeg) (fun r1 X1 => wp_X11_friends X1 (xs ((x3 + (1 : Int32))).toNatClampNeg) (fun r2 X2 => ((r1 = r2 → K X2) ∧ (¬ (r1 = r2) → False))))
set_option maxHeartbeats 4000000 in
set_option maxRecDepth 100000 in
theorem lwt_12 {p : Program} {l : Launch} {e : Env} {s : State} {m : MethodId} {args : Array Value} {below : List Frame} {meth : Method} {c : Code} {E : db_E} {b L : Nat} {xs : Nat → Int32} {x3 : Int32} {K : db_St → Prop} {cells slots : Nat} {Q : State → Prop} (S : CallFix p m c cL_law 4 s args wsL_law RL) (hX : va_X b L xs s s.heap) (hbl : b < s.heap.size) (v0 : vp_in x3 L) (v1 : vp_in (x3 + 1) L) (v2 : vp_in (x3 + 2) L) (v3 : vp_in (x3 + 3) L) (v4 : vp_in (x3 + 4) L) (hf : cells ≤ room_1.cells ∧ slots ≤ room_1.slots) (hK : ∀ (X : db_St) (H : Heap) (locs : List Loc) (ls : Array Slot), K X → db_HW E (fun q => s.heap.size ≤ q) s X H locs → lv_has ls 4 [(0, .ref b), (1, .ref (db_ad E 0)), (2, .ref (db_ad E 90)), (3, .int x3)] → W p l e room_1 s m args below meth c H locs cells slots Q (F0 m 1033 ls [])) : ∀ (X : db_St) (H : Heap) (locs : List Loc) (ls : Array Slot), lc_12 xs x3 K X → db_HW E (fun q => s.heap.size ≤ q) s X H locs → lv_has ls 4 [(0, .ref b), (1, .ref (db_ad E 0)), (2, .ref (db_ad E 90)), (3, .int x3)] → W p l e room_1 s m args below meth c H locs cells slots Q (F0 m 606 ls []) := by
  have hx := S.1
  have hb := S.2.1
  intro X H locs ls h hw hl
  unfold lc_12 at h
  refine lv_aload_n hx hb dL_law_606 rfl (lv_at hl 1 rfl) ?_
  refine lv_aload_n hx hb dL_law_607 rfl (lv_at hl 0 rfl) ?_
  refine lv_iload_n hx hb dL_law_608 rfl (lv_at hl 3 rfl) ?_
  refine lv_iconst (v := (1 : Int32)) hx hb dL_law_609 (by decide) ?_
  refine lv_iadd hx hb dL_law_610 ?_
  refine va_sld hx hb hX hbl (Nat.not_le.mpr hbl) hw.2.2.2.1 v1 dL_law_611 ?_
  refine db_callVi S hw (Nat.le_of_ble_eq_true rfl) db_s0 (C := RX10) (T := TX10) (N := 15) (As := [.int (xs ((x3 + (1 : Int32))).toNatClampNeg)]) rfl (ct_X10_friends  h) gL_law_X10_friends rfl ⟨rfl, rfl, Nat.le_of_ble_eq_true rfl, Nat.le_of_ble_eq_true rfl⟩ 1 rfl (by decide +kernel) hl.1 rfl (Nat.le_of_ble_eq_true rfl) dL_law_612 hf (fun r1 X1 H locs h hw => ?_)
  refine lv_aload_n hx hb dL_law_615 rfl (lv_at hl 2 rfl) ?_
  refine lv_aload_n hx hb dL_law_616 rfl (lv_at hl 0 rfl) ?_
  refine lv_iload_n hx hb dL_law_617 rfl (lv_at hl 3 rfl) ?_
  refine lv_iconst (v := (1 : Int32)) hx hb dL_law_618 (by decide) ?_
  refine lv_iadd hx hb dL_law_619 ?_
  refine va_sld hx hb hX hbl (Nat.not_le.mpr hbl) hw.2.2.2.1 v1 dL_law_620 ?_
  refine db_callVi S hw (Nat.le_of_ble_eq_true rfl) db_s90 (C := RX11) (T := TX11) (N := 19) (As := [.int (xs ((x3 + (1 : Int32))).toNatClampNeg)]) rfl (ct_X11_friends  h) gL_law_X11_friends rfl ⟨rfl, rfl, Nat.le_of_ble_eq_true rfl, Nat.le_of_ble_eq_true rfl⟩ 1 rfl (by decide +kernel) hl.1 rfl (Nat.le_of_ble_eq_true rfl) dL_law_621 hf (fun r2 X2 H locs h hw => ?_)
  refine lv_icmp_eq (tgt := 1033) hx hb dL_law_624 (by decide) (fun c3 => ?_) (fun c3 => ?_)
  · have h := h.1 c3
    exact hK _ _ _ _ h hw (lv_sub hl [0, 1, 2, 3] rfl)
  · have h := h.2 c3
    exact False.elim h
def lc_13 (xs : Nat → Int32) (x3 : Int32) (K : db_St → Prop) (X : db_St) : Prop := wp_X10_least X (xs ((x3 + (1 : Int32))).toNatClampNeg) (xs ((x3 + (2 : Int32))).toNatClampNeg) (xs ((x3 + (3 : Int32))).toNatClampNeg) (fun r1 X1 => wp_X11_least X1 (xs ((x3 + (1 : Int32))).toNatClampNeg) (xs ((x3 + (2 : Int32))).toNatClampNeg) (xs ((x3 + (3 : Int32))).toNatClampNeg) (fun r2 X2 => ((r1 = r2 → K X2) ∧ (¬ (r1 = r2) → False))))
set_option maxHeartbeats 4000000 in
set_option maxRecDepth 100000 in
theorem lwt_13 {p : Program} {l : Launch} {e : Env} {s : State} {m : MethodId} {args : Array Value} {below : List Frame} {meth : Method} {c : Code} {E : db_E} {b L : Nat} {xs : Nat → Int32} {x3 : Int32} {K : db_St → Prop} {cells slots : Nat} {Q : State → Prop} (S : CallFix p m c cL_law 4 s args wsL_law RL) (hX : va_X b L xs s s.heap) (hbl : b < s.heap.size) (v0 : vp_in x3 L) (v1 : vp_in (x3 + 1) L) (v2 : vp_in (x3 + 2) L) (v3 : vp_in (x3 + 3) L) (v4 : vp_in (x3 + 4) L) (hf : cells ≤ room_1.cells ∧ slots ≤ room_1.slots) (hK : ∀ (X : db_St) (H : Heap) (locs : List Loc) (ls : Array Slot), K X → db_HW E (fun q => s.heap.size ≤ q) s X H locs → lv_has ls 4 [(0, .ref b), (1, .ref (db_ad E 0)), (2, .ref (db_ad E 90)), (3, .int x3)] → W p l e room_1 s m args below meth c H locs cells slots Q (F0 m 1033 ls [])) : ∀ (X : db_St) (H : Heap) (locs : List Loc) (ls : Array Slot), lc_13 xs x3 K X → db_HW E (fun q => s.heap.size ≤ q) s X H locs → lv_has ls 4 [(0, .ref b), (1, .ref (db_ad E 0)), (2, .ref (db_ad E 90)), (3, .int x3)] → W p l e room_1 s m args below meth c H locs cells slots Q (F0 m 629 ls []) := by
  have hx := S.1
  have hb := S.2.1
  intro X H locs ls h hw hl
  unfold lc_13 at h
  refine lv_aload_n hx hb dL_law_629 rfl (lv_at hl 1 rfl) ?_
  refine lv_aload_n hx hb dL_law_630 rfl (lv_at hl 0 rfl) ?_
  refine lv_iload_n hx hb dL_law_631 rfl (lv_at hl 3 rfl) ?_
  refine lv_iconst (v := (1 : Int32)) hx hb dL_law_632 (by decide) ?_
  refine lv_iadd hx hb dL_law_633 ?_
  refine va_sld hx hb hX hbl (Nat.not_le.mpr hbl) hw.2.2.2.1 v1 dL_law_634 ?_
  refine lv_aload_n hx hb dL_law_635 rfl (lv_at hl 0 rfl) ?_
  refine lv_iload_n hx hb dL_law_636 rfl (lv_at hl 3 rfl) ?_
  refine lv_iconst (v := (2 : Int32)) hx hb dL_law_637 (by decide) ?_
  refine lv_iadd hx hb dL_law_638 ?_
  refine va_sld hx hb hX hbl (Nat.not_le.mpr hbl) hw.2.2.2.1 v2 dL_law_639 ?_
  refine lv_aload_n hx hb dL_law_640 rfl (lv_at hl 0 rfl) ?_
  refine lv_iload_n hx hb dL_law_641 rfl (lv_at hl 3 rfl) ?_
  refine lv_iconst (v := (3 : Int32)) hx hb dL_law_642 (by decide) ?_
  refine lv_iadd hx hb dL_law_643 ?_
  refine va_sld hx hb hX hbl (Nat.not_le.mpr hbl) hw.2.2.2.1 v3 dL_law_644 ?_
  refine db_callVi S hw (Nat.le_of_ble_eq_true rfl) db_s0 (C := RX10) (T := TX10) (N := 15) (As := [.int (xs ((x3 + (1 : Int32))).toNatClampNeg), .int (xs ((x3 + (2 : Int32))).toNatClampNeg), .int (xs ((x3 + (3 : Int32))).toNatClampNeg)]) rfl (ct_X10_least  h) gL_law_X10_least rfl ⟨rfl, rfl, Nat.le_of_ble_eq_true rfl, Nat.le_of_ble_eq_true rfl⟩ 3 rfl (by decide +kernel) hl.1 rfl (Nat.le_of_ble_eq_true rfl) dL_law_645 hf (fun r1 X1 H locs h hw => ?_)
  refine lv_aload_n hx hb dL_law_648 rfl (lv_at hl 2 rfl) ?_
  refine lv_aload_n hx hb dL_law_649 rfl (lv_at hl 0 rfl) ?_
  refine lv_iload_n hx hb dL_law_650 rfl (lv_at hl 3 rfl) ?_
  refine lv_iconst (v := (1 : Int32)) hx hb dL_law_651 (by decide) ?_
  refine lv_iadd hx hb dL_law_652 ?_
  refine va_sld hx hb hX hbl (Nat.not_le.mpr hbl) hw.2.2.2.1 v1 dL_law_653 ?_
  refine lv_aload_n hx hb dL_law_654 rfl (lv_at hl 0 rfl) ?_
  refine lv_iload_n hx hb dL_law_655 rfl (lv_at hl 3 rfl) ?_
  refine lv_iconst (v := (2 : Int32)) hx hb dL_law_656 (by decide) ?_
  refine lv_iadd hx hb dL_law_657 ?_
  refine va_sld hx hb hX hbl (Nat.not_le.mpr hbl) hw.2.2.2.1 v2 dL_law_658 ?_
  refine lv_aload_n hx hb dL_law_659 rfl (lv_at hl 0 rfl) ?_
  refine lv_iload_n hx hb dL_law_660 rfl (lv_at hl 3 rfl) ?_
  refine lv_iconst (v := (3 : Int32)) hx hb dL_law_661 (by decide) ?_
  refine lv_iadd hx hb dL_law_662 ?_
  refine va_sld hx hb hX hbl (Nat.not_le.mpr hbl) hw.2.2.2.1 v3 dL_law_663 ?_
  refine db_callVi S hw (Nat.le_of_ble_eq_true rfl) db_s90 (C := RX11) (T := TX11) (N := 19) (As := [.int (xs ((x3 + (1 : Int32))).toNatClampNeg), .int (xs ((x3 + (2 : Int32))).toNatClampNeg), .int (xs ((x3 + (3 : Int32))).toNatClampNeg)]) rfl (ct_X11_least  h) gL_law_X11_least rfl ⟨rfl, rfl, Nat.le_of_ble_eq_true rfl, Nat.le_of_ble_eq_true rfl⟩ 3 rfl (by decide +kernel) hl.1 rfl (Nat.le_of_ble_eq_true rfl) dL_law_664 hf (fun r2 X2 H locs h hw => ?_)
  refine lv_icmp_eq (tgt := 1033) hx hb dL_law_667 (by decide) (fun c3 => ?_) (fun c3 => ?_)
  · have h := h.1 c3
    exact hK _ _ _ _ h hw (lv_sub hl [0, 1, 2, 3] rfl)
  · have h := h.2 c3
    exact False.elim h
def lc_14 (xs : Nat → Int32) (x3 : Int32) (K : db_St → Prop) (X : db_St) : Prop := wp_X10_soonest X (xs ((x3 + (1 : Int32))).toNatClampNeg) (fun r1 X1 => wp_X11_soonest X1 (xs ((x3 + (1 : Int32))).toNatClampNeg) (fun r2 X2 => ((r1 = r2 → K X2) ∧ (¬ (r1 = r2) → False))))
set_option maxHeartbeats 4000000 in
set_option maxRecDepth 100000 in
theorem lwt_14 {p : Program} {l : Launch} {e : Env} {s : State} {m : MethodId} {args : Array Value} {below : List Frame} {meth : Method} {c : Code} {E : db_E} {b L : Nat} {xs : Nat → Int32} {x3 : Int32} {K : db_St → Prop} {cells slots : Nat} {Q : State → Prop} (S : CallFix p m c cL_law 4 s args wsL_law RL) (hX : va_X b L xs s s.heap) (hbl : b < s.heap.size) (v0 : vp_in x3 L) (v1 : vp_in (x3 + 1) L) (v2 : vp_in (x3 + 2) L) (v3 : vp_in (x3 + 3) L) (v4 : vp_in (x3 + 4) L) (hf : cells ≤ room_1.cells ∧ slots ≤ room_1.slots) (hK : ∀ (X : db_St) (H : Heap) (locs : List Loc) (ls : Array Slot), K X → db_HW E (fun q => s.heap.size ≤ q) s X H locs → lv_has ls 4 [(0, .ref b), (1, .ref (db_ad E 0)), (2, .ref (db_ad E 90)), (3, .int x3)] → W p l e room_1 s m args below meth c H locs cells slots Q (F0 m 1033 ls [])) : ∀ (X : db_St) (H : Heap) (locs : List Loc) (ls : Array Slot), lc_14 xs x3 K X → db_HW E (fun q => s.heap.size ≤ q) s X H locs → lv_has ls 4 [(0, .ref b), (1, .ref (db_ad E 0)), (2, .ref (db_ad E 90)), (3, .int x3)] → W p l e room_1 s m args below meth c H locs cells slots Q (F0 m 672 ls []) := by
  have hx := S.1
  have hb := S.2.1
  intro X H locs ls h hw hl
  unfold lc_14 at h
  refine lv_aload_n hx hb dL_law_672 rfl (lv_at hl 1 rfl) ?_
  refine lv_aload_n hx hb dL_law_673 rfl (lv_at hl 0 rfl) ?_
  refine lv_iload_n hx hb dL_law_674 rfl (lv_at hl 3 rfl) ?_
  refine lv_iconst (v := (1 : Int32)) hx hb dL_law_675 (by decide) ?_
  refine lv_iadd hx hb dL_law_676 ?_
  refine va_sld hx hb hX hbl (Nat.not_le.mpr hbl) hw.2.2.2.1 v1 dL_law_677 ?_
  refine db_callVi S hw (Nat.le_of_ble_eq_true rfl) db_s0 (C := RX10) (T := TX10) (N := 15) (As := [.int (xs ((x3 + (1 : Int32))).toNatClampNeg)]) rfl (ct_X10_soonest  h) gL_law_X10_soonest rfl ⟨rfl, rfl, Nat.le_of_ble_eq_true rfl, Nat.le_of_ble_eq_true rfl⟩ 1 rfl (by decide +kernel) hl.1 rfl (Nat.le_of_ble_eq_true rfl) dL_law_678 hf (fun r1 X1 H locs h hw => ?_)
  refine lv_aload_n hx hb dL_law_681 rfl (lv_at hl 2 rfl) ?_
  refine lv_aload_n hx hb dL_law_682 rfl (lv_at hl 0 rfl) ?_
  refine lv_iload_n hx hb dL_law_683 rfl (lv_at hl 3 rfl) ?_
  refine lv_iconst (v := (1 : Int32)) hx hb dL_law_684 (by decide) ?_
  refine lv_iadd hx hb dL_law_685 ?_
  refine va_sld hx hb hX hbl (Nat.not_le.mpr hbl) hw.2.2.2.1 v1 dL_law_686 ?_
  refine db_callVi S hw (Nat.le_of_ble_eq_true rfl) db_s90 (C := RX11) (T := TX11) (N := 19) (As := [.int (xs ((x3 + (1 : Int32))).toNatClampNeg)]) rfl (ct_X11_soonest  h) gL_law_X11_soonest rfl ⟨rfl, rfl, Nat.le_of_ble_eq_true rfl, Nat.le_of_ble_eq_true rfl⟩ 1 rfl (by decide +kernel) hl.1 rfl (Nat.le_of_ble_eq_true rfl) dL_law_687 hf (fun r2 X2 H locs h hw => ?_)
  refine lv_icmp_eq (tgt := 1033) hx hb dL_law_690 (by decide) (fun c3 => ?_) (fun c3 => ?_)
  · have h := h.1 c3
    exact hK _ _ _ _ h hw (lv_sub hl [0, 1, 2, 3] rfl)
  · have h := h.2 c3
    exact False.elim h
def lc_15 (xs : Nat → Int32) (x3 : Int32) (K : db_St → Prop) (X : db_St) : Prop := wp_X10_needed X (xs ((x3 + (1 : Int32))).toNatClampNeg) (xs ((x3 + (2 : Int32))).toNatClampNeg) (fun r1 X1 => wp_X11_needed X1 (xs ((x3 + (1 : Int32))).toNatClampNeg) (xs ((x3 + (2 : Int32))).toNatClampNeg) (fun r2 X2 => ((r1 = r2 → K X2) ∧ (¬ (r1 = r2) → False))))
set_option maxHeartbeats 4000000 in
set_option maxRecDepth 100000 in
theorem lwt_15 {p : Program} {l : Launch} {e : Env} {s : State} {m : MethodId} {args : Array Value} {below : List Frame} {meth : Method} {c : Code} {E : db_E} {b L : Nat} {xs : Nat → Int32} {x3 : Int32} {K : db_St → Prop} {cells slots : Nat} {Q : State → Prop} (S : CallFix p m c cL_law 4 s args wsL_law RL) (hX : va_X b L xs s s.heap) (hbl : b < s.heap.size) (v0 : vp_in x3 L) (v1 : vp_in (x3 + 1) L) (v2 : vp_in (x3 + 2) L) (v3 : vp_in (x3 + 3) L) (v4 : vp_in (x3 + 4) L) (hf : cells ≤ room_1.cells ∧ slots ≤ room_1.slots) (hK : ∀ (X : db_St) (H : Heap) (locs : List Loc) (ls : Array Slot), K X → db_HW E (fun q => s.heap.size ≤ q) s X H locs → lv_has ls 4 [(0, .ref b), (1, .ref (db_ad E 0)), (2, .ref (db_ad E 90)), (3, .int x3)] → W p l e room_1 s m args below meth c H locs cells slots Q (F0 m 1033 ls [])) : ∀ (X : db_St) (H : Heap) (locs : List Loc) (ls : Array Slot), lc_15 xs x3 K X → db_HW E (fun q => s.heap.size ≤ q) s X H locs → lv_has ls 4 [(0, .ref b), (1, .ref (db_ad E 0)), (2, .ref (db_ad E 90)), (3, .int x3)] → W p l e room_1 s m args below meth c H locs cells slots Q (F0 m 695 ls []) := by
  have hx := S.1
  have hb := S.2.1
  intro X H locs ls h hw hl
  unfold lc_15 at h
  refine lv_aload_n hx hb dL_law_695 rfl (lv_at hl 1 rfl) ?_
  refine lv_aload_n hx hb dL_law_696 rfl (lv_at hl 0 rfl) ?_
  refine lv_iload_n hx hb dL_law_697 rfl (lv_at hl 3 rfl) ?_
  refine lv_iconst (v := (1 : Int32)) hx hb dL_law_698 (by decide) ?_
  refine lv_iadd hx hb dL_law_699 ?_
  refine va_sld hx hb hX hbl (Nat.not_le.mpr hbl) hw.2.2.2.1 v1 dL_law_700 ?_
  refine lv_aload_n hx hb dL_law_701 rfl (lv_at hl 0 rfl) ?_
  refine lv_iload_n hx hb dL_law_702 rfl (lv_at hl 3 rfl) ?_
  refine lv_iconst (v := (2 : Int32)) hx hb dL_law_703 (by decide) ?_
  refine lv_iadd hx hb dL_law_704 ?_
  refine va_sld hx hb hX hbl (Nat.not_le.mpr hbl) hw.2.2.2.1 v2 dL_law_705 ?_
  refine db_callVi S hw (Nat.le_of_ble_eq_true rfl) db_s0 (C := RX10) (T := TX10) (N := 15) (As := [.int (xs ((x3 + (1 : Int32))).toNatClampNeg), .int (xs ((x3 + (2 : Int32))).toNatClampNeg)]) rfl (ct_X10_needed  h) gL_law_X10_needed rfl ⟨rfl, rfl, Nat.le_of_ble_eq_true rfl, Nat.le_of_ble_eq_true rfl⟩ 2 rfl (by decide +kernel) hl.1 rfl (Nat.le_of_ble_eq_true rfl) dL_law_706 hf (fun r1 X1 H locs h hw => ?_)
  refine lv_aload_n hx hb dL_law_709 rfl (lv_at hl 2 rfl) ?_
  refine lv_aload_n hx hb dL_law_710 rfl (lv_at hl 0 rfl) ?_
  refine lv_iload_n hx hb dL_law_711 rfl (lv_at hl 3 rfl) ?_
  refine lv_iconst (v := (1 : Int32)) hx hb dL_law_712 (by decide) ?_
  refine lv_iadd hx hb dL_law_713 ?_
  refine va_sld hx hb hX hbl (Nat.not_le.mpr hbl) hw.2.2.2.1 v1 dL_law_714 ?_
  refine lv_aload_n hx hb dL_law_715 rfl (lv_at hl 0 rfl) ?_
  refine lv_iload_n hx hb dL_law_716 rfl (lv_at hl 3 rfl) ?_
  refine lv_iconst (v := (2 : Int32)) hx hb dL_law_717 (by decide) ?_
  refine lv_iadd hx hb dL_law_718 ?_
  refine va_sld hx hb hX hbl (Nat.not_le.mpr hbl) hw.2.2.2.1 v2 dL_law_719 ?_
  refine db_callVi S hw (Nat.le_of_ble_eq_true rfl) db_s90 (C := RX11) (T := TX11) (N := 19) (As := [.int (xs ((x3 + (1 : Int32))).toNatClampNeg), .int (xs ((x3 + (2 : Int32))).toNatClampNeg)]) rfl (ct_X11_needed  h) gL_law_X11_needed rfl ⟨rfl, rfl, Nat.le_of_ble_eq_true rfl, Nat.le_of_ble_eq_true rfl⟩ 2 rfl (by decide +kernel) hl.1 rfl (Nat.le_of_ble_eq_true rfl) dL_law_720 hf (fun r2 X2 H locs h hw => ?_)
  refine lv_icmp_eq (tgt := 1033) hx hb dL_law_723 (by decide) (fun c3 => ?_) (fun c3 => ?_)
  · have h := h.1 c3
    exact hK _ _ _ _ h hw (lv_sub hl [0, 1, 2, 3] rfl)
  · have h := h.2 c3
    exact False.elim h
def lc_16 (xs : Nat → Int32) (x3 : Int32) (K : db_St → Prop) (X : db_St) : Prop := wp_X10_over X (xs ((x3 + (1 : Int32))).toNatClampNeg) (xs ((x3 + (2 : Int32))).toNatClampNeg) (xs ((x3 + (3 : Int32))).toNatClampNeg) (xs ((x3 + (4 : Int32))).toNatClampNeg) (fun r1 X1 => wp_X11_over X1 (xs ((x3 + (1 : Int32))).toNatClampNeg) (xs ((x3 + (2 : Int32))).toNatClampNeg) (xs ((x3 + (3 : Int32))).toNatClampNeg) (xs ((x3 + (4 : Int32))).toNatClampNeg) (fun r2 X2 => ((r1 = r2 → K X2) ∧ (¬ (r1 = r2) → False))))
set_option maxHeartbeats 4000000 in
set_option maxRecDepth 100000 in
theorem lwt_16 {p : Program} {l : Launch} {e : Env} {s : State} {m : MethodId} {args : Array Value} {below : List Frame} {meth : Method} {c : Code} {E : db_E} {b L : Nat} {xs : Nat → Int32} {x3 : Int32} {K : db_St → Prop} {cells slots : Nat} {Q : State → Prop} (S : CallFix p m c cL_law 4 s args wsL_law RL) (hX : va_X b L xs s s.heap) (hbl : b < s.heap.size) (v0 : vp_in x3 L) (v1 : vp_in (x3 + 1) L) (v2 : vp_in (x3 + 2) L) (v3 : vp_in (x3 + 3) L) (v4 : vp_in (x3 + 4) L) (hf : cells ≤ room_1.cells ∧ slots ≤ room_1.slots) (hK : ∀ (X : db_St) (H : Heap) (locs : List Loc) (ls : Array Slot), K X → db_HW E (fun q => s.heap.size ≤ q) s X H locs → lv_has ls 4 [(0, .ref b), (1, .ref (db_ad E 0)), (2, .ref (db_ad E 90)), (3, .int x3)] → W p l e room_1 s m args below meth c H locs cells slots Q (F0 m 1033 ls [])) : ∀ (X : db_St) (H : Heap) (locs : List Loc) (ls : Array Slot), lc_16 xs x3 K X → db_HW E (fun q => s.heap.size ≤ q) s X H locs → lv_has ls 4 [(0, .ref b), (1, .ref (db_ad E 0)), (2, .ref (db_ad E 90)), (3, .int x3)] → W p l e room_1 s m args below meth c H locs cells slots Q (F0 m 728 ls []) := by
  have hx := S.1
  have hb := S.2.1
  intro X H locs ls h hw hl
  unfold lc_16 at h
  refine lv_aload_n hx hb dL_law_728 rfl (lv_at hl 1 rfl) ?_
  refine lv_aload_n hx hb dL_law_729 rfl (lv_at hl 0 rfl) ?_
  refine lv_iload_n hx hb dL_law_730 rfl (lv_at hl 3 rfl) ?_
  refine lv_iconst (v := (1 : Int32)) hx hb dL_law_731 (by decide) ?_
  refine lv_iadd hx hb dL_law_732 ?_
  refine va_sld hx hb hX hbl (Nat.not_le.mpr hbl) hw.2.2.2.1 v1 dL_law_733 ?_
  refine lv_aload_n hx hb dL_law_734 rfl (lv_at hl 0 rfl) ?_
  refine lv_iload_n hx hb dL_law_735 rfl (lv_at hl 3 rfl) ?_
  refine lv_iconst (v := (2 : Int32)) hx hb dL_law_736 (by decide) ?_
  refine lv_iadd hx hb dL_law_737 ?_
  refine va_sld hx hb hX hbl (Nat.not_le.mpr hbl) hw.2.2.2.1 v2 dL_law_738 ?_
  refine lv_aload_n hx hb dL_law_739 rfl (lv_at hl 0 rfl) ?_
  refine lv_iload_n hx hb dL_law_740 rfl (lv_at hl 3 rfl) ?_
  refine lv_iconst (v := (3 : Int32)) hx hb dL_law_741 (by decide) ?_
  refine lv_iadd hx hb dL_law_742 ?_
  refine va_sld hx hb hX hbl (Nat.not_le.mpr hbl) hw.2.2.2.1 v3 dL_law_743 ?_
  refine lv_aload_n hx hb dL_law_744 rfl (lv_at hl 0 rfl) ?_
  refine lv_iload_n hx hb dL_law_745 rfl (lv_at hl 3 rfl) ?_
  refine lv_iconst (v := (4 : Int32)) hx hb dL_law_746 (by decide) ?_
  refine lv_iadd hx hb dL_law_747 ?_
  refine va_sld hx hb hX hbl (Nat.not_le.mpr hbl) hw.2.2.2.1 v4 dL_law_748 ?_
  refine db_callVi S hw (Nat.le_of_ble_eq_true rfl) db_s0 (C := RX10) (T := TX10) (N := 15) (As := [.int (xs ((x3 + (1 : Int32))).toNatClampNeg), .int (xs ((x3 + (2 : Int32))).toNatClampNeg), .int (xs ((x3 + (3 : Int32))).toNatClampNeg), .int (xs ((x3 + (4 : Int32))).toNatClampNeg)]) rfl (ct_X10_over  h) gL_law_X10_over rfl ⟨rfl, rfl, Nat.le_of_ble_eq_true rfl, Nat.le_of_ble_eq_true rfl⟩ 4 rfl (by decide +kernel) hl.1 rfl (Nat.le_of_ble_eq_true rfl) dL_law_749 hf (fun r1 X1 H locs h hw => ?_)
  refine lv_aload_n hx hb dL_law_752 rfl (lv_at hl 2 rfl) ?_
  refine lv_aload_n hx hb dL_law_753 rfl (lv_at hl 0 rfl) ?_
  refine lv_iload_n hx hb dL_law_754 rfl (lv_at hl 3 rfl) ?_
  refine lv_iconst (v := (1 : Int32)) hx hb dL_law_755 (by decide) ?_
  refine lv_iadd hx hb dL_law_756 ?_
  refine va_sld hx hb hX hbl (Nat.not_le.mpr hbl) hw.2.2.2.1 v1 dL_law_757 ?_
  refine lv_aload_n hx hb dL_law_758 rfl (lv_at hl 0 rfl) ?_
  refine lv_iload_n hx hb dL_law_759 rfl (lv_at hl 3 rfl) ?_
  refine lv_iconst (v := (2 : Int32)) hx hb dL_law_760 (by decide) ?_
  refine lv_iadd hx hb dL_law_761 ?_
  refine va_sld hx hb hX hbl (Nat.not_le.mpr hbl) hw.2.2.2.1 v2 dL_law_762 ?_
  refine lv_aload_n hx hb dL_law_763 rfl (lv_at hl 0 rfl) ?_
  refine lv_iload_n hx hb dL_law_764 rfl (lv_at hl 3 rfl) ?_
  refine lv_iconst (v := (3 : Int32)) hx hb dL_law_765 (by decide) ?_
  refine lv_iadd hx hb dL_law_766 ?_
  refine va_sld hx hb hX hbl (Nat.not_le.mpr hbl) hw.2.2.2.1 v3 dL_law_767 ?_
  refine lv_aload_n hx hb dL_law_768 rfl (lv_at hl 0 rfl) ?_
  refine lv_iload_n hx hb dL_law_769 rfl (lv_at hl 3 rfl) ?_
  refine lv_iconst (v := (4 : Int32)) hx hb dL_law_770 (by decide) ?_
  refine lv_iadd hx hb dL_law_771 ?_
  refine va_sld hx hb hX hbl (Nat.not_le.mpr hbl) hw.2.2.2.1 v4 dL_law_772 ?_
  refine db_callVi S hw (Nat.le_of_ble_eq_true rfl) db_s90 (C := RX11) (T := TX11) (N := 19) (As := [.int (xs ((x3 + (1 : Int32))).toNatClampNeg), .int (xs ((x3 + (2 : Int32))).toNatClampNeg), .int (xs ((x3 + (3 : Int32))).toNatClampNeg), .int (xs ((x3 + (4 : Int32))).toNatClampNeg)]) rfl (ct_X11_over  h) gL_law_X11_over rfl ⟨rfl, rfl, Nat.le_of_ble_eq_true rfl, Nat.le_of_ble_eq_true rfl⟩ 4 rfl (by decide +kernel) hl.1 rfl (Nat.le_of_ble_eq_true rfl) dL_law_773 hf (fun r2 X2 H locs h hw => ?_)
  refine lv_icmp_eq (tgt := 1033) hx hb dL_law_776 (by decide) (fun c3 => ?_) (fun c3 => ?_)
  · have h := h.1 c3
    exact hK _ _ _ _ h hw (lv_sub hl [0, 1, 2, 3] rfl)
  · have h := h.2 c3
    exact False.elim h
def lc_17 (xs : Nat → Int32) (x3 : Int32) (K : db_St → Prop) (X : db_St) : Prop := wp_X10_byPutting X (xs ((x3 + (1 : Int32))).toNatClampNeg) (xs ((x3 + (2 : Int32))).toNatClampNeg) (fun r1 X1 => wp_X11_byPutting X1 (xs ((x3 + (1 : Int32))).toNatClampNeg) (xs ((x3 + (2 : Int32))).toNatClampNeg) (fun r2 X2 => ((r1 = r2 → K X2) ∧ (¬ (r1 = r2) → False))))
set_option maxHeartbeats 4000000 in
set_option maxRecDepth 100000 in
theorem lwt_17 {p : Program} {l : Launch} {e : Env} {s : State} {m : MethodId} {args : Array Value} {below : List Frame} {meth : Method} {c : Code} {E : db_E} {b L : Nat} {xs : Nat → Int32} {x3 : Int32} {K : db_St → Prop} {cells slots : Nat} {Q : State → Prop} (S : CallFix p m c cL_law 4 s args wsL_law RL) (hX : va_X b L xs s s.heap) (hbl : b < s.heap.size) (v0 : vp_in x3 L) (v1 : vp_in (x3 + 1) L) (v2 : vp_in (x3 + 2) L) (v3 : vp_in (x3 + 3) L) (v4 : vp_in (x3 + 4) L) (hf : cells ≤ room_1.cells ∧ slots ≤ room_1.slots) (hK : ∀ (X : db_St) (H : Heap) (locs : List Loc) (ls : Array Slot), K X → db_HW E (fun q => s.heap.size ≤ q) s X H locs → lv_has ls 4 [(0, .ref b), (1, .ref (db_ad E 0)), (2, .ref (db_ad E 90)), (3, .int x3)] → W p l e room_1 s m args below meth c H locs cells slots Q (F0 m 1033 ls [])) : ∀ (X : db_St) (H : Heap) (locs : List Loc) (ls : Array Slot), lc_17 xs x3 K X → db_HW E (fun q => s.heap.size ≤ q) s X H locs → lv_has ls 4 [(0, .ref b), (1, .ref (db_ad E 0)), (2, .ref (db_ad E 90)), (3, .int x3)] → W p l e room_1 s m args below meth c H locs cells slots Q (F0 m 781 ls []) := by
  have hx := S.1
  have hb := S.2.1
  intro X H locs ls h hw hl
  unfold lc_17 at h
  refine lv_aload_n hx hb dL_law_781 rfl (lv_at hl 1 rfl) ?_
  refine lv_aload_n hx hb dL_law_782 rfl (lv_at hl 0 rfl) ?_
  refine lv_iload_n hx hb dL_law_783 rfl (lv_at hl 3 rfl) ?_
  refine lv_iconst (v := (1 : Int32)) hx hb dL_law_784 (by decide) ?_
  refine lv_iadd hx hb dL_law_785 ?_
  refine va_sld hx hb hX hbl (Nat.not_le.mpr hbl) hw.2.2.2.1 v1 dL_law_786 ?_
  refine lv_aload_n hx hb dL_law_787 rfl (lv_at hl 0 rfl) ?_
  refine lv_iload_n hx hb dL_law_788 rfl (lv_at hl 3 rfl) ?_
  refine lv_iconst (v := (2 : Int32)) hx hb dL_law_789 (by decide) ?_
  refine lv_iadd hx hb dL_law_790 ?_
  refine va_sld hx hb hX hbl (Nat.not_le.mpr hbl) hw.2.2.2.1 v2 dL_law_791 ?_
  refine db_callVi S hw (Nat.le_of_ble_eq_true rfl) db_s0 (C := RX10) (T := TX10) (N := 15) (As := [.int (xs ((x3 + (1 : Int32))).toNatClampNeg), .int (xs ((x3 + (2 : Int32))).toNatClampNeg)]) rfl (ct_X10_byPutting  h) gL_law_X10_byPutting rfl ⟨rfl, rfl, Nat.le_of_ble_eq_true rfl, Nat.le_of_ble_eq_true rfl⟩ 2 rfl (by decide +kernel) hl.1 rfl (Nat.le_of_ble_eq_true rfl) dL_law_792 hf (fun r1 X1 H locs h hw => ?_)
  refine lv_aload_n hx hb dL_law_795 rfl (lv_at hl 2 rfl) ?_
  refine lv_aload_n hx hb dL_law_796 rfl (lv_at hl 0 rfl) ?_
  refine lv_iload_n hx hb dL_law_797 rfl (lv_at hl 3 rfl) ?_
  refine lv_iconst (v := (1 : Int32)) hx hb dL_law_798 (by decide) ?_
  refine lv_iadd hx hb dL_law_799 ?_
  refine va_sld hx hb hX hbl (Nat.not_le.mpr hbl) hw.2.2.2.1 v1 dL_law_800 ?_
  refine lv_aload_n hx hb dL_law_801 rfl (lv_at hl 0 rfl) ?_
  refine lv_iload_n hx hb dL_law_802 rfl (lv_at hl 3 rfl) ?_
  refine lv_iconst (v := (2 : Int32)) hx hb dL_law_803 (by decide) ?_
  refine lv_iadd hx hb dL_law_804 ?_
  refine va_sld hx hb hX hbl (Nat.not_le.mpr hbl) hw.2.2.2.1 v2 dL_law_805 ?_
  refine db_callVi S hw (Nat.le_of_ble_eq_true rfl) db_s90 (C := RX11) (T := TX11) (N := 19) (As := [.int (xs ((x3 + (1 : Int32))).toNatClampNeg), .int (xs ((x3 + (2 : Int32))).toNatClampNeg)]) rfl (ct_X11_byPutting  h) gL_law_X11_byPutting rfl ⟨rfl, rfl, Nat.le_of_ble_eq_true rfl, Nat.le_of_ble_eq_true rfl⟩ 2 rfl (by decide +kernel) hl.1 rfl (Nat.le_of_ble_eq_true rfl) dL_law_806 hf (fun r2 X2 H locs h hw => ?_)
  refine lv_icmp_eq (tgt := 1033) hx hb dL_law_809 (by decide) (fun c3 => ?_) (fun c3 => ?_)
  · have h := h.1 c3
    exact hK _ _ _ _ h hw (lv_sub hl [0, 1, 2, 3] rfl)
  · have h := h.2 c3
    exact False.elim h
def lc_18 (xs : Nat → Int32) (x3 : Int32) (K : db_St → Prop) (X : db_St) : Prop := wp_X10_ring X (fun r1 X1 => wp_X11_ring X1 (fun r2 X2 => ((r1 = r2 → K X2) ∧ (¬ (r1 = r2) → False))))
set_option maxHeartbeats 4000000 in
set_option maxRecDepth 100000 in
theorem lwt_18 {p : Program} {l : Launch} {e : Env} {s : State} {m : MethodId} {args : Array Value} {below : List Frame} {meth : Method} {c : Code} {E : db_E} {b L : Nat} {xs : Nat → Int32} {x3 : Int32} {K : db_St → Prop} {cells slots : Nat} {Q : State → Prop} (S : CallFix p m c cL_law 4 s args wsL_law RL) (hX : va_X b L xs s s.heap) (hbl : b < s.heap.size) (v0 : vp_in x3 L) (v1 : vp_in (x3 + 1) L) (v2 : vp_in (x3 + 2) L) (v3 : vp_in (x3 + 3) L) (v4 : vp_in (x3 + 4) L) (hf : cells ≤ room_1.cells ∧ slots ≤ room_1.slots) (hK : ∀ (X : db_St) (H : Heap) (locs : List Loc) (ls : Array Slot), K X → db_HW E (fun q => s.heap.size ≤ q) s X H locs → lv_has ls 4 [(0, .ref b), (1, .ref (db_ad E 0)), (2, .ref (db_ad E 90)), (3, .int x3)] → W p l e room_1 s m args below meth c H locs cells slots Q (F0 m 1033 ls [])) : ∀ (X : db_St) (H : Heap) (locs : List Loc) (ls : Array Slot), lc_18 xs x3 K X → db_HW E (fun q => s.heap.size ≤ q) s X H locs → lv_has ls 4 [(0, .ref b), (1, .ref (db_ad E 0)), (2, .ref (db_ad E 90)), (3, .int x3)] → W p l e room_1 s m args below meth c H locs cells slots Q (F0 m 814 ls []) := by
  have hx := S.1
  have hb := S.2.1
  intro X H locs ls h hw hl
  unfold lc_18 at h
  refine lv_aload_n hx hb dL_law_814 rfl (lv_at hl 1 rfl) ?_
  refine db_callVi S hw (Nat.le_of_ble_eq_true rfl) db_s0 (C := RX10) (T := TX10) (N := 15) (As := []) rfl (ct_X10_ring  h) gL_law_X10_ring rfl ⟨rfl, rfl, Nat.le_of_ble_eq_true rfl, Nat.le_of_ble_eq_true rfl⟩ 0 rfl (by decide +kernel) hl.1 rfl (Nat.le_of_ble_eq_true rfl) dL_law_815 hf (fun r1 X1 H locs h hw => ?_)
  refine lv_aload_n hx hb dL_law_818 rfl (lv_at hl 2 rfl) ?_
  refine db_callVi S hw (Nat.le_of_ble_eq_true rfl) db_s90 (C := RX11) (T := TX11) (N := 19) (As := []) rfl (ct_X11_ring  h) gL_law_X11_ring rfl ⟨rfl, rfl, Nat.le_of_ble_eq_true rfl, Nat.le_of_ble_eq_true rfl⟩ 0 rfl (by decide +kernel) hl.1 rfl (Nat.le_of_ble_eq_true rfl) dL_law_819 hf (fun r2 X2 H locs h hw => ?_)
  refine lv_icmp_eq (tgt := 1033) hx hb dL_law_822 (by decide) (fun c3 => ?_) (fun c3 => ?_)
  · have h := h.1 c3
    exact hK _ _ _ _ h hw (lv_sub hl [0, 1, 2, 3] rfl)
  · have h := h.2 c3
    exact False.elim h
def lc_19 (xs : Nat → Int32) (x3 : Int32) (K : db_St → Prop) (X : db_St) : Prop := wp_X10_stops X (fun r1 X1 => wp_X11_stops X1 (fun r2 X2 => ((r1 = r2 → K X2) ∧ (¬ (r1 = r2) → False))))
set_option maxHeartbeats 4000000 in
set_option maxRecDepth 100000 in
theorem lwt_19 {p : Program} {l : Launch} {e : Env} {s : State} {m : MethodId} {args : Array Value} {below : List Frame} {meth : Method} {c : Code} {E : db_E} {b L : Nat} {xs : Nat → Int32} {x3 : Int32} {K : db_St → Prop} {cells slots : Nat} {Q : State → Prop} (S : CallFix p m c cL_law 4 s args wsL_law RL) (hX : va_X b L xs s s.heap) (hbl : b < s.heap.size) (v0 : vp_in x3 L) (v1 : vp_in (x3 + 1) L) (v2 : vp_in (x3 + 2) L) (v3 : vp_in (x3 + 3) L) (v4 : vp_in (x3 + 4) L) (hf : cells ≤ room_1.cells ∧ slots ≤ room_1.slots) (hK : ∀ (X : db_St) (H : Heap) (locs : List Loc) (ls : Array Slot), K X → db_HW E (fun q => s.heap.size ≤ q) s X H locs → lv_has ls 4 [(0, .ref b), (1, .ref (db_ad E 0)), (2, .ref (db_ad E 90)), (3, .int x3)] → W p l e room_1 s m args below meth c H locs cells slots Q (F0 m 1033 ls [])) : ∀ (X : db_St) (H : Heap) (locs : List Loc) (ls : Array Slot), lc_19 xs x3 K X → db_HW E (fun q => s.heap.size ≤ q) s X H locs → lv_has ls 4 [(0, .ref b), (1, .ref (db_ad E 0)), (2, .ref (db_ad E 90)), (3, .int x3)] → W p l e room_1 s m args below meth c H locs cells slots Q (F0 m 827 ls []) := by
  have hx := S.1
  have hb := S.2.1
  intro X H locs ls h hw hl
  unfold lc_19 at h
  refine lv_aload_n hx hb dL_law_827 rfl (lv_at hl 1 rfl) ?_
  refine db_callVi S hw (Nat.le_of_ble_eq_true rfl) db_s0 (C := RX10) (T := TX10) (N := 15) (As := []) rfl (ct_X10_stops  h) gL_law_X10_stops rfl ⟨rfl, rfl, Nat.le_of_ble_eq_true rfl, Nat.le_of_ble_eq_true rfl⟩ 0 rfl (by decide +kernel) hl.1 rfl (Nat.le_of_ble_eq_true rfl) dL_law_828 hf (fun r1 X1 H locs h hw => ?_)
  refine lv_aload_n hx hb dL_law_831 rfl (lv_at hl 2 rfl) ?_
  refine db_callVi S hw (Nat.le_of_ble_eq_true rfl) db_s90 (C := RX11) (T := TX11) (N := 19) (As := []) rfl (ct_X11_stops  h) gL_law_X11_stops rfl ⟨rfl, rfl, Nat.le_of_ble_eq_true rfl, Nat.le_of_ble_eq_true rfl⟩ 0 rfl (by decide +kernel) hl.1 rfl (Nat.le_of_ble_eq_true rfl) dL_law_832 hf (fun r2 X2 H locs h hw => ?_)
  refine lv_icmp_eq (tgt := 1033) hx hb dL_law_835 (by decide) (fun c3 => ?_) (fun c3 => ?_)
  · have h := h.1 c3
    exact hK _ _ _ _ h hw (lv_sub hl [0, 1, 2, 3] rfl)
  · have h := h.2 c3
    exact False.elim h
def lc_20 (xs : Nat → Int32) (x3 : Int32) (K : db_St → Prop) (X : db_St) : Prop := wp_X10_put X (xs ((x3 + (1 : Int32))).toNatClampNeg) (fun r1 X1 => wp_X11_put X1 (xs ((x3 + (1 : Int32))).toNatClampNeg) (fun r2 X2 => ((r1 = r2 → K X2) ∧ (¬ (r1 = r2) → False))))
set_option maxHeartbeats 4000000 in
set_option maxRecDepth 100000 in
theorem lwt_20 {p : Program} {l : Launch} {e : Env} {s : State} {m : MethodId} {args : Array Value} {below : List Frame} {meth : Method} {c : Code} {E : db_E} {b L : Nat} {xs : Nat → Int32} {x3 : Int32} {K : db_St → Prop} {cells slots : Nat} {Q : State → Prop} (S : CallFix p m c cL_law 4 s args wsL_law RL) (hX : va_X b L xs s s.heap) (hbl : b < s.heap.size) (v0 : vp_in x3 L) (v1 : vp_in (x3 + 1) L) (v2 : vp_in (x3 + 2) L) (v3 : vp_in (x3 + 3) L) (v4 : vp_in (x3 + 4) L) (hf : cells ≤ room_1.cells ∧ slots ≤ room_1.slots) (hK : ∀ (X : db_St) (H : Heap) (locs : List Loc) (ls : Array Slot), K X → db_HW E (fun q => s.heap.size ≤ q) s X H locs → lv_has ls 4 [(0, .ref b), (1, .ref (db_ad E 0)), (2, .ref (db_ad E 90)), (3, .int x3)] → W p l e room_1 s m args below meth c H locs cells slots Q (F0 m 1033 ls [])) : ∀ (X : db_St) (H : Heap) (locs : List Loc) (ls : Array Slot), lc_20 xs x3 K X → db_HW E (fun q => s.heap.size ≤ q) s X H locs → lv_has ls 4 [(0, .ref b), (1, .ref (db_ad E 0)), (2, .ref (db_ad E 90)), (3, .int x3)] → W p l e room_1 s m args below meth c H locs cells slots Q (F0 m 840 ls []) := by
  have hx := S.1
  have hb := S.2.1
  intro X H locs ls h hw hl
  unfold lc_20 at h
  refine lv_aload_n hx hb dL_law_840 rfl (lv_at hl 1 rfl) ?_
  refine lv_aload_n hx hb dL_law_841 rfl (lv_at hl 0 rfl) ?_
  refine lv_iload_n hx hb dL_law_842 rfl (lv_at hl 3 rfl) ?_
  refine lv_iconst (v := (1 : Int32)) hx hb dL_law_843 (by decide) ?_
  refine lv_iadd hx hb dL_law_844 ?_
  refine va_sld hx hb hX hbl (Nat.not_le.mpr hbl) hw.2.2.2.1 v1 dL_law_845 ?_
  refine db_callVi S hw (Nat.le_of_ble_eq_true rfl) db_s0 (C := RX10) (T := TX10) (N := 15) (As := [.int (xs ((x3 + (1 : Int32))).toNatClampNeg)]) rfl (ct_X10_put  h) gL_law_X10_put rfl ⟨rfl, rfl, Nat.le_of_ble_eq_true rfl, Nat.le_of_ble_eq_true rfl⟩ 1 rfl (by decide +kernel) hl.1 rfl (Nat.le_of_ble_eq_true rfl) dL_law_846 hf (fun r1 X1 H locs h hw => ?_)
  refine lv_aload_n hx hb dL_law_849 rfl (lv_at hl 2 rfl) ?_
  refine lv_aload_n hx hb dL_law_850 rfl (lv_at hl 0 rfl) ?_
  refine lv_iload_n hx hb dL_law_851 rfl (lv_at hl 3 rfl) ?_
  refine lv_iconst (v := (1 : Int32)) hx hb dL_law_852 (by decide) ?_
  refine lv_iadd hx hb dL_law_853 ?_
  refine va_sld hx hb hX hbl (Nat.not_le.mpr hbl) hw.2.2.2.1 v1 dL_law_854 ?_
  refine db_callVi S hw (Nat.le_of_ble_eq_true rfl) db_s90 (C := RX11) (T := TX11) (N := 19) (As := [.int (xs ((x3 + (1 : Int32))).toNatClampNeg)]) rfl (ct_X11_put  h) gL_law_X11_put rfl ⟨rfl, rfl, Nat.le_of_ble_eq_true rfl, Nat.le_of_ble_eq_true rfl⟩ 1 rfl (by decide +kernel) hl.1 rfl (Nat.le_of_ble_eq_true rfl) dL_law_855 hf (fun r2 X2 H locs h hw => ?_)
  refine lv_icmp_eq (tgt := 1033) hx hb dL_law_858 (by decide) (fun c3 => ?_) (fun c3 => ?_)
  · have h := h.1 c3
    exact hK _ _ _ _ h hw (lv_sub hl [0, 1, 2, 3] rfl)
  · have h := h.2 c3
    exact False.elim h
def lc_21 (xs : Nat → Int32) (x3 : Int32) (K : db_St → Prop) (X : db_St) : Prop := wp_X10_judge X (fun r1 X1 => wp_X11_judge X1 (fun r2 X2 => ((r1 = r2 → K X2) ∧ (¬ (r1 = r2) → False))))
set_option maxHeartbeats 4000000 in
set_option maxRecDepth 100000 in
theorem lwt_21 {p : Program} {l : Launch} {e : Env} {s : State} {m : MethodId} {args : Array Value} {below : List Frame} {meth : Method} {c : Code} {E : db_E} {b L : Nat} {xs : Nat → Int32} {x3 : Int32} {K : db_St → Prop} {cells slots : Nat} {Q : State → Prop} (S : CallFix p m c cL_law 4 s args wsL_law RL) (hX : va_X b L xs s s.heap) (hbl : b < s.heap.size) (v0 : vp_in x3 L) (v1 : vp_in (x3 + 1) L) (v2 : vp_in (x3 + 2) L) (v3 : vp_in (x3 + 3) L) (v4 : vp_in (x3 + 4) L) (hf : cells ≤ room_1.cells ∧ slots ≤ room_1.slots) (hK : ∀ (X : db_St) (H : Heap) (locs : List Loc) (ls : Array Slot), K X → db_HW E (fun q => s.heap.size ≤ q) s X H locs → lv_has ls 4 [(0, .ref b), (1, .ref (db_ad E 0)), (2, .ref (db_ad E 90)), (3, .int x3)] → W p l e room_1 s m args below meth c H locs cells slots Q (F0 m 1033 ls [])) : ∀ (X : db_St) (H : Heap) (locs : List Loc) (ls : Array Slot), lc_21 xs x3 K X → db_HW E (fun q => s.heap.size ≤ q) s X H locs → lv_has ls 4 [(0, .ref b), (1, .ref (db_ad E 0)), (2, .ref (db_ad E 90)), (3, .int x3)] → W p l e room_1 s m args below meth c H locs cells slots Q (F0 m 863 ls []) := by
  have hx := S.1
  have hb := S.2.1
  intro X H locs ls h hw hl
  unfold lc_21 at h
  refine lv_aload_n hx hb dL_law_863 rfl (lv_at hl 1 rfl) ?_
  refine db_callVi S hw (Nat.le_of_ble_eq_true rfl) db_s0 (C := RX10) (T := TX10) (N := 15) (As := []) rfl (ct_X10_judge  h) gL_law_X10_judge rfl ⟨rfl, rfl, Nat.le_of_ble_eq_true rfl, Nat.le_of_ble_eq_true rfl⟩ 0 rfl (by decide +kernel) hl.1 rfl (Nat.le_of_ble_eq_true rfl) dL_law_864 hf (fun r1 X1 H locs h hw => ?_)
  refine lv_aload_n hx hb dL_law_867 rfl (lv_at hl 2 rfl) ?_
  refine db_callVi S hw (Nat.le_of_ble_eq_true rfl) db_s90 (C := RX11) (T := TX11) (N := 19) (As := []) rfl (ct_X11_judge  h) gL_law_X11_judge rfl ⟨rfl, rfl, Nat.le_of_ble_eq_true rfl, Nat.le_of_ble_eq_true rfl⟩ 0 rfl (by decide +kernel) hl.1 rfl (Nat.le_of_ble_eq_true rfl) dL_law_868 hf (fun r2 X2 H locs h hw => ?_)
  refine lv_icmp_eq (tgt := 1033) hx hb dL_law_871 (by decide) (fun c3 => ?_) (fun c3 => ?_)
  · have h := h.1 c3
    exact hK _ _ _ _ h hw (lv_sub hl [0, 1, 2, 3] rfl)
  · have h := h.2 c3
    exact False.elim h
def lc_22 (xs : Nat → Int32) (x3 : Int32) (K : db_St → Prop) (X : db_St) : Prop := wp_X10_paid X (fun r1 X1 => wp_X11_paid X1 (fun r2 X2 => ((r1 = r2 → K X2) ∧ (¬ (r1 = r2) → False))))
set_option maxHeartbeats 4000000 in
set_option maxRecDepth 100000 in
theorem lwt_22 {p : Program} {l : Launch} {e : Env} {s : State} {m : MethodId} {args : Array Value} {below : List Frame} {meth : Method} {c : Code} {E : db_E} {b L : Nat} {xs : Nat → Int32} {x3 : Int32} {K : db_St → Prop} {cells slots : Nat} {Q : State → Prop} (S : CallFix p m c cL_law 4 s args wsL_law RL) (hX : va_X b L xs s s.heap) (hbl : b < s.heap.size) (v0 : vp_in x3 L) (v1 : vp_in (x3 + 1) L) (v2 : vp_in (x3 + 2) L) (v3 : vp_in (x3 + 3) L) (v4 : vp_in (x3 + 4) L) (hf : cells ≤ room_1.cells ∧ slots ≤ room_1.slots) (hK : ∀ (X : db_St) (H : Heap) (locs : List Loc) (ls : Array Slot), K X → db_HW E (fun q => s.heap.size ≤ q) s X H locs → lv_has ls 4 [(0, .ref b), (1, .ref (db_ad E 0)), (2, .ref (db_ad E 90)), (3, .int x3)] → W p l e room_1 s m args below meth c H locs cells slots Q (F0 m 1033 ls [])) : ∀ (X : db_St) (H : Heap) (locs : List Loc) (ls : Array Slot), lc_22 xs x3 K X → db_HW E (fun q => s.heap.size ≤ q) s X H locs → lv_has ls 4 [(0, .ref b), (1, .ref (db_ad E 0)), (2, .ref (db_ad E 90)), (3, .int x3)] → W p l e room_1 s m args below meth c H locs cells slots Q (F0 m 876 ls []) := by
  have hx := S.1
  have hb := S.2.1
  intro X H locs ls h hw hl
  unfold lc_22 at h
  refine lv_aload_n hx hb dL_law_876 rfl (lv_at hl 1 rfl) ?_
  refine db_callVi S hw (Nat.le_of_ble_eq_true rfl) db_s0 (C := RX10) (T := TX10) (N := 15) (As := []) rfl (ct_X10_paid  h) gL_law_X10_paid rfl ⟨rfl, rfl, Nat.le_of_ble_eq_true rfl, Nat.le_of_ble_eq_true rfl⟩ 0 rfl (by decide +kernel) hl.1 rfl (Nat.le_of_ble_eq_true rfl) dL_law_877 hf (fun r1 X1 H locs h hw => ?_)
  refine lv_aload_n hx hb dL_law_880 rfl (lv_at hl 2 rfl) ?_
  refine db_callVi S hw (Nat.le_of_ble_eq_true rfl) db_s90 (C := RX11) (T := TX11) (N := 19) (As := []) rfl (ct_X11_paid  h) gL_law_X11_paid rfl ⟨rfl, rfl, Nat.le_of_ble_eq_true rfl, Nat.le_of_ble_eq_true rfl⟩ 0 rfl (by decide +kernel) hl.1 rfl (Nat.le_of_ble_eq_true rfl) dL_law_881 hf (fun r2 X2 H locs h hw => ?_)
  refine lv_icmp_eq (tgt := 1033) hx hb dL_law_884 (by decide) (fun c3 => ?_) (fun c3 => ?_)
  · have h := h.1 c3
    exact hK _ _ _ _ h hw (lv_sub hl [0, 1, 2, 3] rfl)
  · have h := h.2 c3
    exact False.elim h
def lc_23 (xs : Nat → Int32) (x3 : Int32) (K : db_St → Prop) (X : db_St) : Prop := (((xs ((x3 + (1 : Int32))).toNatClampNeg) = 0 → wp_X10_beside X (0 : Int32) (fun r1 X1 => (((xs ((x3 + (1 : Int32))).toNatClampNeg) = 0 → wp_X11_beside X1 (0 : Int32) (fun r2 X2 => ((r1 = r2 → K X2) ∧ (¬ (r1 = r2) → False)))) ∧ (¬ ((xs ((x3 + (1 : Int32))).toNatClampNeg) = 0) → wp_X11_beside X1 (1 : Int32) (fun r4 X4 => ((r1 = r4 → K X4) ∧ (¬ (r1 = r4) → False))))))) ∧ (¬ ((xs ((x3 + (1 : Int32))).toNatClampNeg) = 0) → wp_X10_beside X (1 : Int32) (fun r7 X7 => (((xs ((x3 + (1 : Int32))).toNatClampNeg) = 0 → wp_X11_beside X7 (0 : Int32) (fun r8 X8 => ((r7 = r8 → K X8) ∧ (¬ (r7 = r8) → False)))) ∧ (¬ ((xs ((x3 + (1 : Int32))).toNatClampNeg) = 0) → wp_X11_beside X7 (1 : Int32) (fun r10 X10 => ((r7 = r10 → K X10) ∧ (¬ (r7 = r10) → False))))))))
set_option maxHeartbeats 4000000 in
set_option maxRecDepth 100000 in
theorem lwt_23 {p : Program} {l : Launch} {e : Env} {s : State} {m : MethodId} {args : Array Value} {below : List Frame} {meth : Method} {c : Code} {E : db_E} {b L : Nat} {xs : Nat → Int32} {x3 : Int32} {K : db_St → Prop} {cells slots : Nat} {Q : State → Prop} (S : CallFix p m c cL_law 4 s args wsL_law RL) (hX : va_X b L xs s s.heap) (hbl : b < s.heap.size) (v0 : vp_in x3 L) (v1 : vp_in (x3 + 1) L) (v2 : vp_in (x3 + 2) L) (v3 : vp_in (x3 + 3) L) (v4 : vp_in (x3 + 4) L) (hf : cells ≤ room_1.cells ∧ slots ≤ room_1.slots) (hK : ∀ (X : db_St) (H : Heap) (locs : List Loc) (ls : Array Slot), K X → db_HW E (fun q => s.heap.size ≤ q) s X H locs → lv_has ls 4 [(0, .ref b), (1, .ref (db_ad E 0)), (2, .ref (db_ad E 90)), (3, .int x3)] → W p l e room_1 s m args below meth c H locs cells slots Q (F0 m 1033 ls [])) : ∀ (X : db_St) (H : Heap) (locs : List Loc) (ls : Array Slot), lc_23 xs x3 K X → db_HW E (fun q => s.heap.size ≤ q) s X H locs → lv_has ls 4 [(0, .ref b), (1, .ref (db_ad E 0)), (2, .ref (db_ad E 90)), (3, .int x3)] → W p l e room_1 s m args below meth c H locs cells slots Q (F0 m 889 ls []) := by
  have hx := S.1
  have hb := S.2.1
  intro X H locs ls h hw hl
  unfold lc_23 at h
  refine lv_aload_n hx hb dL_law_889 rfl (lv_at hl 1 rfl) ?_
  refine lv_aload_n hx hb dL_law_890 rfl (lv_at hl 0 rfl) ?_
  refine lv_iload_n hx hb dL_law_891 rfl (lv_at hl 3 rfl) ?_
  refine lv_iconst (v := (1 : Int32)) hx hb dL_law_892 (by decide) ?_
  refine lv_iadd hx hb dL_law_893 ?_
  refine va_sld hx hb hX hbl (Nat.not_le.mpr hbl) hw.2.2.2.1 v1 dL_law_894 ?_
  refine lv_if_eq (tgt := 902) hx hb dL_law_895 (by decide) (fun c13 => ?_) (fun c13 => ?_)
  · have h := h.1 c13
    refine lv_iconst (v := (0 : Int32)) hx hb dL_law_902 (by decide) ?_
    refine db_callVi S hw (Nat.le_of_ble_eq_true rfl) db_s0 (C := RX10) (T := TX10) (N := 15) (As := [.int (0 : Int32)]) rfl (ct_X10_beside  h) gL_law_X10_beside rfl ⟨rfl, rfl, Nat.le_of_ble_eq_true rfl, Nat.le_of_ble_eq_true rfl⟩ 1 rfl (by decide +kernel) hl.1 rfl (Nat.le_of_ble_eq_true rfl) dL_law_903 hf (fun r1 X1 H locs h hw => ?_)
    refine lv_aload_n hx hb dL_law_906 rfl (lv_at hl 2 rfl) ?_
    refine lv_aload_n hx hb dL_law_907 rfl (lv_at hl 0 rfl) ?_
    refine lv_iload_n hx hb dL_law_908 rfl (lv_at hl 3 rfl) ?_
    refine lv_iconst (v := (1 : Int32)) hx hb dL_law_909 (by decide) ?_
    refine lv_iadd hx hb dL_law_910 ?_
    refine va_sld hx hb hX hbl (Nat.not_le.mpr hbl) hw.2.2.2.1 v1 dL_law_911 ?_
    refine lv_if_eq (tgt := 919) hx hb dL_law_912 (by decide) (fun c6 => ?_) (fun c6 => ?_)
    · have h := h.1 c6
      refine lv_iconst (v := (0 : Int32)) hx hb dL_law_919 (by decide) ?_
      refine db_callVi S hw (Nat.le_of_ble_eq_true rfl) db_s90 (C := RX11) (T := TX11) (N := 19) (As := [.int (0 : Int32)]) rfl (ct_X11_beside  h) gL_law_X11_beside rfl ⟨rfl, rfl, Nat.le_of_ble_eq_true rfl, Nat.le_of_ble_eq_true rfl⟩ 1 rfl (by decide +kernel) hl.1 rfl (Nat.le_of_ble_eq_true rfl) dL_law_920 hf (fun r2 X2 H locs h hw => ?_)
      refine lv_icmp_eq (tgt := 1033) hx hb dL_law_923 (by decide) (fun c3 => ?_) (fun c3 => ?_)
      · have h := h.1 c3
        exact hK _ _ _ _ h hw (lv_sub hl [0, 1, 2, 3] rfl)
      · have h := h.2 c3
        exact False.elim h
    · have h := h.2 c6
      refine lv_iconst (v := (1 : Int32)) hx hb dL_law_915 (by decide) ?_
      refine lv_goto (tgt := 920) hx hb dL_law_916 (by decide) ?_
      refine db_callVi S hw (Nat.le_of_ble_eq_true rfl) db_s90 (C := RX11) (T := TX11) (N := 19) (As := [.int (1 : Int32)]) rfl (ct_X11_beside  h) gL_law_X11_beside rfl ⟨rfl, rfl, Nat.le_of_ble_eq_true rfl, Nat.le_of_ble_eq_true rfl⟩ 1 rfl (by decide +kernel) hl.1 rfl (Nat.le_of_ble_eq_true rfl) dL_law_920 hf (fun r4 X4 H locs h hw => ?_)
      refine lv_icmp_eq (tgt := 1033) hx hb dL_law_923 (by decide) (fun c5 => ?_) (fun c5 => ?_)
      · have h := h.1 c5
        exact hK _ _ _ _ h hw (lv_sub hl [0, 1, 2, 3] rfl)
      · have h := h.2 c5
        exact False.elim h
  · have h := h.2 c13
    refine lv_iconst (v := (1 : Int32)) hx hb dL_law_898 (by decide) ?_
    refine lv_goto (tgt := 903) hx hb dL_law_899 (by decide) ?_
    refine db_callVi S hw (Nat.le_of_ble_eq_true rfl) db_s0 (C := RX10) (T := TX10) (N := 15) (As := [.int (1 : Int32)]) rfl (ct_X10_beside  h) gL_law_X10_beside rfl ⟨rfl, rfl, Nat.le_of_ble_eq_true rfl, Nat.le_of_ble_eq_true rfl⟩ 1 rfl (by decide +kernel) hl.1 rfl (Nat.le_of_ble_eq_true rfl) dL_law_903 hf (fun r7 X7 H locs h hw => ?_)
    refine lv_aload_n hx hb dL_law_906 rfl (lv_at hl 2 rfl) ?_
    refine lv_aload_n hx hb dL_law_907 rfl (lv_at hl 0 rfl) ?_
    refine lv_iload_n hx hb dL_law_908 rfl (lv_at hl 3 rfl) ?_
    refine lv_iconst (v := (1 : Int32)) hx hb dL_law_909 (by decide) ?_
    refine lv_iadd hx hb dL_law_910 ?_
    refine va_sld hx hb hX hbl (Nat.not_le.mpr hbl) hw.2.2.2.1 v1 dL_law_911 ?_
    refine lv_if_eq (tgt := 919) hx hb dL_law_912 (by decide) (fun c12 => ?_) (fun c12 => ?_)
    · have h := h.1 c12
      refine lv_iconst (v := (0 : Int32)) hx hb dL_law_919 (by decide) ?_
      refine db_callVi S hw (Nat.le_of_ble_eq_true rfl) db_s90 (C := RX11) (T := TX11) (N := 19) (As := [.int (0 : Int32)]) rfl (ct_X11_beside  h) gL_law_X11_beside rfl ⟨rfl, rfl, Nat.le_of_ble_eq_true rfl, Nat.le_of_ble_eq_true rfl⟩ 1 rfl (by decide +kernel) hl.1 rfl (Nat.le_of_ble_eq_true rfl) dL_law_920 hf (fun r8 X8 H locs h hw => ?_)
      refine lv_icmp_eq (tgt := 1033) hx hb dL_law_923 (by decide) (fun c9 => ?_) (fun c9 => ?_)
      · have h := h.1 c9
        exact hK _ _ _ _ h hw (lv_sub hl [0, 1, 2, 3] rfl)
      · have h := h.2 c9
        exact False.elim h
    · have h := h.2 c12
      refine lv_iconst (v := (1 : Int32)) hx hb dL_law_915 (by decide) ?_
      refine lv_goto (tgt := 920) hx hb dL_law_916 (by decide) ?_
      refine db_callVi S hw (Nat.le_of_ble_eq_true rfl) db_s90 (C := RX11) (T := TX11) (N := 19) (As := [.int (1 : Int32)]) rfl (ct_X11_beside  h) gL_law_X11_beside rfl ⟨rfl, rfl, Nat.le_of_ble_eq_true rfl, Nat.le_of_ble_eq_true rfl⟩ 1 rfl (by decide +kernel) hl.1 rfl (Nat.le_of_ble_eq_true rfl) dL_law_920 hf (fun r10 X10 H locs h hw => ?_)
      refine lv_icmp_eq (tgt := 1033) hx hb dL_law_923 (by decide) (fun c11 => ?_) (fun c11 => ?_)
      · have h := h.1 c11
        exact hK _ _ _ _ h hw (lv_sub hl [0, 1, 2, 3] rfl)
      · have h := h.2 c11
        exact False.elim h
def lc_24 (xs : Nat → Int32) (x3 : Int32) (K : db_St → Prop) (X : db_St) : Prop := wp_X10_part X (xs ((x3 + (1 : Int32))).toNatClampNeg) (xs ((x3 + (2 : Int32))).toNatClampNeg) (fun r1 X1 => wp_X11_part X1 (xs ((x3 + (1 : Int32))).toNatClampNeg) (xs ((x3 + (2 : Int32))).toNatClampNeg) (fun r2 X2 => ((r1 = r2 → K X2) ∧ (¬ (r1 = r2) → False))))
set_option maxHeartbeats 4000000 in
set_option maxRecDepth 100000 in
theorem lwt_24 {p : Program} {l : Launch} {e : Env} {s : State} {m : MethodId} {args : Array Value} {below : List Frame} {meth : Method} {c : Code} {E : db_E} {b L : Nat} {xs : Nat → Int32} {x3 : Int32} {K : db_St → Prop} {cells slots : Nat} {Q : State → Prop} (S : CallFix p m c cL_law 4 s args wsL_law RL) (hX : va_X b L xs s s.heap) (hbl : b < s.heap.size) (v0 : vp_in x3 L) (v1 : vp_in (x3 + 1) L) (v2 : vp_in (x3 + 2) L) (v3 : vp_in (x3 + 3) L) (v4 : vp_in (x3 + 4) L) (hf : cells ≤ room_1.cells ∧ slots ≤ room_1.slots) (hK : ∀ (X : db_St) (H : Heap) (locs : List Loc) (ls : Array Slot), K X → db_HW E (fun q => s.heap.size ≤ q) s X H locs → lv_has ls 4 [(0, .ref b), (1, .ref (db_ad E 0)), (2, .ref (db_ad E 90)), (3, .int x3)] → W p l e room_1 s m args below meth c H locs cells slots Q (F0 m 1033 ls [])) : ∀ (X : db_St) (H : Heap) (locs : List Loc) (ls : Array Slot), lc_24 xs x3 K X → db_HW E (fun q => s.heap.size ≤ q) s X H locs → lv_has ls 4 [(0, .ref b), (1, .ref (db_ad E 0)), (2, .ref (db_ad E 90)), (3, .int x3)] → W p l e room_1 s m args below meth c H locs cells slots Q (F0 m 928 ls []) := by
  have hx := S.1
  have hb := S.2.1
  intro X H locs ls h hw hl
  unfold lc_24 at h
  refine lv_aload_n hx hb dL_law_928 rfl (lv_at hl 1 rfl) ?_
  refine lv_aload_n hx hb dL_law_929 rfl (lv_at hl 0 rfl) ?_
  refine lv_iload_n hx hb dL_law_930 rfl (lv_at hl 3 rfl) ?_
  refine lv_iconst (v := (1 : Int32)) hx hb dL_law_931 (by decide) ?_
  refine lv_iadd hx hb dL_law_932 ?_
  refine va_sld hx hb hX hbl (Nat.not_le.mpr hbl) hw.2.2.2.1 v1 dL_law_933 ?_
  refine lv_aload_n hx hb dL_law_934 rfl (lv_at hl 0 rfl) ?_
  refine lv_iload_n hx hb dL_law_935 rfl (lv_at hl 3 rfl) ?_
  refine lv_iconst (v := (2 : Int32)) hx hb dL_law_936 (by decide) ?_
  refine lv_iadd hx hb dL_law_937 ?_
  refine va_sld hx hb hX hbl (Nat.not_le.mpr hbl) hw.2.2.2.1 v2 dL_law_938 ?_
  refine db_callVi S hw (Nat.le_of_ble_eq_true rfl) db_s0 (C := RX10) (T := TX10) (N := 15) (As := [.int (xs ((x3 + (1 : Int32))).toNatClampNeg), .int (xs ((x3 + (2 : Int32))).toNatClampNeg)]) rfl (ct_X10_part  h) gL_law_X10_part rfl ⟨rfl, rfl, Nat.le_of_ble_eq_true rfl, Nat.le_of_ble_eq_true rfl⟩ 2 rfl (by decide +kernel) hl.1 rfl (Nat.le_of_ble_eq_true rfl) dL_law_939 hf (fun r1 X1 H locs h hw => ?_)
  refine lv_aload_n hx hb dL_law_942 rfl (lv_at hl 2 rfl) ?_
  refine lv_aload_n hx hb dL_law_943 rfl (lv_at hl 0 rfl) ?_
  refine lv_iload_n hx hb dL_law_944 rfl (lv_at hl 3 rfl) ?_
  refine lv_iconst (v := (1 : Int32)) hx hb dL_law_945 (by decide) ?_
  refine lv_iadd hx hb dL_law_946 ?_
  refine va_sld hx hb hX hbl (Nat.not_le.mpr hbl) hw.2.2.2.1 v1 dL_law_947 ?_
  refine lv_aload_n hx hb dL_law_948 rfl (lv_at hl 0 rfl) ?_
  refine lv_iload_n hx hb dL_law_949 rfl (lv_at hl 3 rfl) ?_
  refine lv_iconst (v := (2 : Int32)) hx hb dL_law_950 (by decide) ?_
  refine lv_iadd hx hb dL_law_951 ?_
  refine va_sld hx hb hX hbl (Nat.not_le.mpr hbl) hw.2.2.2.1 v2 dL_law_952 ?_
  refine db_callVi S hw (Nat.le_of_ble_eq_true rfl) db_s90 (C := RX11) (T := TX11) (N := 19) (As := [.int (xs ((x3 + (1 : Int32))).toNatClampNeg), .int (xs ((x3 + (2 : Int32))).toNatClampNeg)]) rfl (ct_X11_part  h) gL_law_X11_part rfl ⟨rfl, rfl, Nat.le_of_ble_eq_true rfl, Nat.le_of_ble_eq_true rfl⟩ 2 rfl (by decide +kernel) hl.1 rfl (Nat.le_of_ble_eq_true rfl) dL_law_953 hf (fun r2 X2 H locs h hw => ?_)
  refine lv_icmp_eq (tgt := 1033) hx hb dL_law_956 (by decide) (fun c3 => ?_) (fun c3 => ?_)
  · have h := h.1 c3
    exact hK _ _ _ _ h hw (lv_sub hl [0, 1, 2, 3] rfl)
  · have h := h.2 c3
    exact False.elim h
def lc_25 (xs : Nat → Int32) (x3 : Int32) (K : db_St → Prop) (X : db_St) : Prop := wp_X10_kin X (xs ((x3 + (1 : Int32))).toNatClampNeg) (fun r1 X1 => wp_X11_kin X1 (xs ((x3 + (1 : Int32))).toNatClampNeg) (fun r2 X2 => ((r1 = r2 → K X2) ∧ (¬ (r1 = r2) → False))))
set_option maxHeartbeats 4000000 in
set_option maxRecDepth 100000 in
theorem lwt_25 {p : Program} {l : Launch} {e : Env} {s : State} {m : MethodId} {args : Array Value} {below : List Frame} {meth : Method} {c : Code} {E : db_E} {b L : Nat} {xs : Nat → Int32} {x3 : Int32} {K : db_St → Prop} {cells slots : Nat} {Q : State → Prop} (S : CallFix p m c cL_law 4 s args wsL_law RL) (hX : va_X b L xs s s.heap) (hbl : b < s.heap.size) (v0 : vp_in x3 L) (v1 : vp_in (x3 + 1) L) (v2 : vp_in (x3 + 2) L) (v3 : vp_in (x3 + 3) L) (v4 : vp_in (x3 + 4) L) (hf : cells ≤ room_1.cells ∧ slots ≤ room_1.slots) (hK : ∀ (X : db_St) (H : Heap) (locs : List Loc) (ls : Array Slot), K X → db_HW E (fun q => s.heap.size ≤ q) s X H locs → lv_has ls 4 [(0, .ref b), (1, .ref (db_ad E 0)), (2, .ref (db_ad E 90)), (3, .int x3)] → W p l e room_1 s m args below meth c H locs cells slots Q (F0 m 1033 ls [])) : ∀ (X : db_St) (H : Heap) (locs : List Loc) (ls : Array Slot), lc_25 xs x3 K X → db_HW E (fun q => s.heap.size ≤ q) s X H locs → lv_has ls 4 [(0, .ref b), (1, .ref (db_ad E 0)), (2, .ref (db_ad E 90)), (3, .int x3)] → W p l e room_1 s m args below meth c H locs cells slots Q (F0 m 961 ls []) := by
  have hx := S.1
  have hb := S.2.1
  intro X H locs ls h hw hl
  unfold lc_25 at h
  refine lv_aload_n hx hb dL_law_961 rfl (lv_at hl 1 rfl) ?_
  refine lv_aload_n hx hb dL_law_962 rfl (lv_at hl 0 rfl) ?_
  refine lv_iload_n hx hb dL_law_963 rfl (lv_at hl 3 rfl) ?_
  refine lv_iconst (v := (1 : Int32)) hx hb dL_law_964 (by decide) ?_
  refine lv_iadd hx hb dL_law_965 ?_
  refine va_sld hx hb hX hbl (Nat.not_le.mpr hbl) hw.2.2.2.1 v1 dL_law_966 ?_
  refine db_callVi S hw (Nat.le_of_ble_eq_true rfl) db_s0 (C := RX10) (T := TX10) (N := 15) (As := [.int (xs ((x3 + (1 : Int32))).toNatClampNeg)]) rfl (ct_X10_kin  h) gL_law_X10_kin rfl ⟨rfl, rfl, Nat.le_of_ble_eq_true rfl, Nat.le_of_ble_eq_true rfl⟩ 1 rfl (by decide +kernel) hl.1 rfl (Nat.le_of_ble_eq_true rfl) dL_law_967 hf (fun r1 X1 H locs h hw => ?_)
  refine lv_aload_n hx hb dL_law_970 rfl (lv_at hl 2 rfl) ?_
  refine lv_aload_n hx hb dL_law_971 rfl (lv_at hl 0 rfl) ?_
  refine lv_iload_n hx hb dL_law_972 rfl (lv_at hl 3 rfl) ?_
  refine lv_iconst (v := (1 : Int32)) hx hb dL_law_973 (by decide) ?_
  refine lv_iadd hx hb dL_law_974 ?_
  refine va_sld hx hb hX hbl (Nat.not_le.mpr hbl) hw.2.2.2.1 v1 dL_law_975 ?_
  refine db_callVi S hw (Nat.le_of_ble_eq_true rfl) db_s90 (C := RX11) (T := TX11) (N := 19) (As := [.int (xs ((x3 + (1 : Int32))).toNatClampNeg)]) rfl (ct_X11_kin  h) gL_law_X11_kin rfl ⟨rfl, rfl, Nat.le_of_ble_eq_true rfl, Nat.le_of_ble_eq_true rfl⟩ 1 rfl (by decide +kernel) hl.1 rfl (Nat.le_of_ble_eq_true rfl) dL_law_976 hf (fun r2 X2 H locs h hw => ?_)
  refine lv_icmp_eq (tgt := 1033) hx hb dL_law_979 (by decide) (fun c3 => ?_) (fun c3 => ?_)
  · have h := h.1 c3
    exact hK _ _ _ _ h hw (lv_sub hl [0, 1, 2, 3] rfl)
  · have h := h.2 c3
    exact False.elim h
def lc_26 (xs : Nat → Int32) (x3 : Int32) (K : db_St → Prop) (X : db_St) : Prop := wp_X10_image X (fun r1 X1 => wp_X11_image X1 (fun r2 X2 => ((r1 = r2 → K X2) ∧ (¬ (r1 = r2) → False))))
set_option maxHeartbeats 4000000 in
set_option maxRecDepth 100000 in
theorem lwt_26 {p : Program} {l : Launch} {e : Env} {s : State} {m : MethodId} {args : Array Value} {below : List Frame} {meth : Method} {c : Code} {E : db_E} {b L : Nat} {xs : Nat → Int32} {x3 : Int32} {K : db_St → Prop} {cells slots : Nat} {Q : State → Prop} (S : CallFix p m c cL_law 4 s args wsL_law RL) (hX : va_X b L xs s s.heap) (hbl : b < s.heap.size) (v0 : vp_in x3 L) (v1 : vp_in (x3 + 1) L) (v2 : vp_in (x3 + 2) L) (v3 : vp_in (x3 + 3) L) (v4 : vp_in (x3 + 4) L) (hf : cells ≤ room_1.cells ∧ slots ≤ room_1.slots) (hK : ∀ (X : db_St) (H : Heap) (locs : List Loc) (ls : Array Slot), K X → db_HW E (fun q => s.heap.size ≤ q) s X H locs → lv_has ls 4 [(0, .ref b), (1, .ref (db_ad E 0)), (2, .ref (db_ad E 90)), (3, .int x3)] → W p l e room_1 s m args below meth c H locs cells slots Q (F0 m 1033 ls [])) : ∀ (X : db_St) (H : Heap) (locs : List Loc) (ls : Array Slot), lc_26 xs x3 K X → db_HW E (fun q => s.heap.size ≤ q) s X H locs → lv_has ls 4 [(0, .ref b), (1, .ref (db_ad E 0)), (2, .ref (db_ad E 90)), (3, .int x3)] → W p l e room_1 s m args below meth c H locs cells slots Q (F0 m 984 ls []) := by
  have hx := S.1
  have hb := S.2.1
  intro X H locs ls h hw hl
  unfold lc_26 at h
  refine lv_aload_n hx hb dL_law_984 rfl (lv_at hl 1 rfl) ?_
  refine db_callVi S hw (Nat.le_of_ble_eq_true rfl) db_s0 (C := RX10) (T := TX10) (N := 15) (As := []) rfl (ct_X10_image  h) gL_law_X10_image rfl ⟨rfl, rfl, Nat.le_of_ble_eq_true rfl, Nat.le_of_ble_eq_true rfl⟩ 0 rfl (by decide +kernel) hl.1 rfl (Nat.le_of_ble_eq_true rfl) dL_law_985 hf (fun r1 X1 H locs h hw => ?_)
  refine lv_aload_n hx hb dL_law_988 rfl (lv_at hl 2 rfl) ?_
  refine db_callVi S hw (Nat.le_of_ble_eq_true rfl) db_s90 (C := RX11) (T := TX11) (N := 19) (As := []) rfl (ct_X11_image  h) gL_law_X11_image rfl ⟨rfl, rfl, Nat.le_of_ble_eq_true rfl, Nat.le_of_ble_eq_true rfl⟩ 0 rfl (by decide +kernel) hl.1 rfl (Nat.le_of_ble_eq_true rfl) dL_law_989 hf (fun r2 X2 H locs h hw => ?_)
  refine lv_icmp_eq (tgt := 1033) hx hb dL_law_992 (by decide) (fun c3 => ?_) (fun c3 => ?_)
  · have h := h.1 c3
    exact hK _ _ _ _ h hw (lv_sub hl [0, 1, 2, 3] rfl)
  · have h := h.2 c3
    exact False.elim h
def lc_27 (xs : Nat → Int32) (x3 : Int32) (K : db_St → Prop) (X : db_St) : Prop := wp_X10_on X (fun r1 X1 => wp_X11_on X1 (fun r2 X2 => ((r1 = r2 → K X2) ∧ (¬ (r1 = r2) → False))))
set_option maxHeartbeats 4000000 in
set_option maxRecDepth 100000 in
theorem lwt_27 {p : Program} {l : Launch} {e : Env} {s : State} {m : MethodId} {args : Array Value} {below : List Frame} {meth : Method} {c : Code} {E : db_E} {b L : Nat} {xs : Nat → Int32} {x3 : Int32} {K : db_St → Prop} {cells slots : Nat} {Q : State → Prop} (S : CallFix p m c cL_law 4 s args wsL_law RL) (hX : va_X b L xs s s.heap) (hbl : b < s.heap.size) (v0 : vp_in x3 L) (v1 : vp_in (x3 + 1) L) (v2 : vp_in (x3 + 2) L) (v3 : vp_in (x3 + 3) L) (v4 : vp_in (x3 + 4) L) (hf : cells ≤ room_1.cells ∧ slots ≤ room_1.slots) (hK : ∀ (X : db_St) (H : Heap) (locs : List Loc) (ls : Array Slot), K X → db_HW E (fun q => s.heap.size ≤ q) s X H locs → lv_has ls 4 [(0, .ref b), (1, .ref (db_ad E 0)), (2, .ref (db_ad E 90)), (3, .int x3)] → W p l e room_1 s m args below meth c H locs cells slots Q (F0 m 1033 ls [])) : ∀ (X : db_St) (H : Heap) (locs : List Loc) (ls : Array Slot), lc_27 xs x3 K X → db_HW E (fun q => s.heap.size ≤ q) s X H locs → lv_has ls 4 [(0, .ref b), (1, .ref (db_ad E 0)), (2, .ref (db_ad E 90)), (3, .int x3)] → W p l e room_1 s m args below meth c H locs cells slots Q (F0 m 997 ls []) := by
  have hx := S.1
  have hb := S.2.1
  intro X H locs ls h hw hl
  unfold lc_27 at h
  refine lv_aload_n hx hb dL_law_997 rfl (lv_at hl 1 rfl) ?_
  refine db_callVi S hw (Nat.le_of_ble_eq_true rfl) db_s0 (C := RX10) (T := TX10) (N := 15) (As := []) rfl (ct_X10_on  h) gL_law_X10_on rfl ⟨rfl, rfl, Nat.le_of_ble_eq_true rfl, Nat.le_of_ble_eq_true rfl⟩ 0 rfl (by decide +kernel) hl.1 rfl (Nat.le_of_ble_eq_true rfl) dL_law_998 hf (fun r1 X1 H locs h hw => ?_)
  refine lv_aload_n hx hb dL_law_1001 rfl (lv_at hl 2 rfl) ?_
  refine db_callVi S hw (Nat.le_of_ble_eq_true rfl) db_s90 (C := RX11) (T := TX11) (N := 19) (As := []) rfl (ct_X11_on  h) gL_law_X11_on rfl ⟨rfl, rfl, Nat.le_of_ble_eq_true rfl, Nat.le_of_ble_eq_true rfl⟩ 0 rfl (by decide +kernel) hl.1 rfl (Nat.le_of_ble_eq_true rfl) dL_law_1002 hf (fun r2 X2 H locs h hw => ?_)
  refine lv_icmp_eq (tgt := 1033) hx hb dL_law_1005 (by decide) (fun c3 => ?_) (fun c3 => ?_)
  · have h := h.1 c3
    exact hK _ _ _ _ h hw (lv_sub hl [0, 1, 2, 3] rfl)
  · have h := h.2 c3
    exact False.elim h
def lc_28 (xs : Nat → Int32) (x3 : Int32) (K : db_St → Prop) (X : db_St) : Prop := wp_X10_count X (xs ((x3 + (1 : Int32))).toNatClampNeg) (fun r1 X1 => wp_X11_count X1 (xs ((x3 + (1 : Int32))).toNatClampNeg) (fun r2 X2 => ((r1 = r2 → K X2) ∧ (¬ (r1 = r2) → False))))
set_option maxHeartbeats 4000000 in
set_option maxRecDepth 100000 in
theorem lwt_28 {p : Program} {l : Launch} {e : Env} {s : State} {m : MethodId} {args : Array Value} {below : List Frame} {meth : Method} {c : Code} {E : db_E} {b L : Nat} {xs : Nat → Int32} {x3 : Int32} {K : db_St → Prop} {cells slots : Nat} {Q : State → Prop} (S : CallFix p m c cL_law 4 s args wsL_law RL) (hX : va_X b L xs s s.heap) (hbl : b < s.heap.size) (v0 : vp_in x3 L) (v1 : vp_in (x3 + 1) L) (v2 : vp_in (x3 + 2) L) (v3 : vp_in (x3 + 3) L) (v4 : vp_in (x3 + 4) L) (hf : cells ≤ room_1.cells ∧ slots ≤ room_1.slots) (hK : ∀ (X : db_St) (H : Heap) (locs : List Loc) (ls : Array Slot), K X → db_HW E (fun q => s.heap.size ≤ q) s X H locs → lv_has ls 4 [(0, .ref b), (1, .ref (db_ad E 0)), (2, .ref (db_ad E 90)), (3, .int x3)] → W p l e room_1 s m args below meth c H locs cells slots Q (F0 m 1033 ls [])) : ∀ (X : db_St) (H : Heap) (locs : List Loc) (ls : Array Slot), lc_28 xs x3 K X → db_HW E (fun q => s.heap.size ≤ q) s X H locs → lv_has ls 4 [(0, .ref b), (1, .ref (db_ad E 0)), (2, .ref (db_ad E 90)), (3, .int x3)] → W p l e room_1 s m args below meth c H locs cells slots Q (F0 m 1010 ls []) := by
  have hx := S.1
  have hb := S.2.1
  intro X H locs ls h hw hl
  unfold lc_28 at h
  refine lv_aload_n hx hb dL_law_1010 rfl (lv_at hl 1 rfl) ?_
  refine lv_aload_n hx hb dL_law_1011 rfl (lv_at hl 0 rfl) ?_
  refine lv_iload_n hx hb dL_law_1012 rfl (lv_at hl 3 rfl) ?_
  refine lv_iconst (v := (1 : Int32)) hx hb dL_law_1013 (by decide) ?_
  refine lv_iadd hx hb dL_law_1014 ?_
  refine va_sld hx hb hX hbl (Nat.not_le.mpr hbl) hw.2.2.2.1 v1 dL_law_1015 ?_
  refine db_callVi S hw (Nat.le_of_ble_eq_true rfl) db_s0 (C := RX10) (T := TX10) (N := 15) (As := [.int (xs ((x3 + (1 : Int32))).toNatClampNeg)]) rfl (ct_X10_count  h) gL_law_X10_count rfl ⟨rfl, rfl, Nat.le_of_ble_eq_true rfl, Nat.le_of_ble_eq_true rfl⟩ 1 rfl (by decide +kernel) hl.1 rfl (Nat.le_of_ble_eq_true rfl) dL_law_1016 hf (fun r1 X1 H locs h hw => ?_)
  refine lv_aload_n hx hb dL_law_1019 rfl (lv_at hl 2 rfl) ?_
  refine lv_aload_n hx hb dL_law_1020 rfl (lv_at hl 0 rfl) ?_
  refine lv_iload_n hx hb dL_law_1021 rfl (lv_at hl 3 rfl) ?_
  refine lv_iconst (v := (1 : Int32)) hx hb dL_law_1022 (by decide) ?_
  refine lv_iadd hx hb dL_law_1023 ?_
  refine va_sld hx hb hX hbl (Nat.not_le.mpr hbl) hw.2.2.2.1 v1 dL_law_1024 ?_
  refine db_callVi S hw (Nat.le_of_ble_eq_true rfl) db_s90 (C := RX11) (T := TX11) (N := 19) (As := [.int (xs ((x3 + (1 : Int32))).toNatClampNeg)]) rfl (ct_X11_count  h) gL_law_X11_count rfl ⟨rfl, rfl, Nat.le_of_ble_eq_true rfl, Nat.le_of_ble_eq_true rfl⟩ 1 rfl (by decide +kernel) hl.1 rfl (Nat.le_of_ble_eq_true rfl) dL_law_1025 hf (fun r2 X2 H locs h hw => ?_)
  refine lv_icmp_eq (tgt := 1033) hx hb dL_law_1028 (by decide) (fun c3 => ?_) (fun c3 => ?_)
  · have h := h.1 c3
    exact hK _ _ _ _ h hw (lv_sub hl [0, 1, 2, 3] rfl)
  · have h := h.2 c3
    exact False.elim h
def lc_all (xs : Nat → Int32) (x3 : Int32) (K : db_St → Prop) (X : db_St) : Prop := (((xs x3.toNatClampNeg &&& 31) = (0 : Int32) → lc_0 xs x3 K X) ∧ (¬ (xs x3.toNatClampNeg &&& 31) = (0 : Int32) → (((xs x3.toNatClampNeg &&& 31) = (1 : Int32) → lc_1 xs x3 K X) ∧ (¬ (xs x3.toNatClampNeg &&& 31) = (1 : Int32) → (((xs x3.toNatClampNeg &&& 31) = (2 : Int32) → lc_2 xs x3 K X) ∧ (¬ (xs x3.toNatClampNeg &&& 31) = (2 : Int32) → (((xs x3.toNatClampNeg &&& 31) = (3 : Int32) → lc_3 xs x3 K X) ∧ (¬ (xs x3.toNatClampNeg &&& 31) = (3 : Int32) → (((xs x3.toNatClampNeg &&& 31) = (4 : Int32) → lc_4 xs x3 K X) ∧ (¬ (xs x3.toNatClampNeg &&& 31) = (4 : Int32) → (((xs x3.toNatClampNeg &&& 31) = (5 : Int32) → lc_5 xs x3 K X) ∧ (¬ (xs x3.toNatClampNeg &&& 31) = (5 : Int32) → (((xs x3.toNatClampNeg &&& 31) = (6 : Int32) → lc_6 xs x3 K X) ∧ (¬ (xs x3.toNatClampNeg &&& 31) = (6 : Int32) → (((xs x3.toNatClampNeg &&& 31) = (7 : Int32) → lc_7 xs x3 K X) ∧ (¬ (xs x3.toNatClampNeg &&& 31) = (7 : Int32) → (((xs x3.toNatClampNeg &&& 31) = (8 : Int32) → lc_8 xs x3 K X) ∧ (¬ (xs x3.toNatClampNeg &&& 31) = (8 : Int32) → (((xs x3.toNatClampNeg &&& 31) = (9 : Int32) → lc_9 xs x3 K X) ∧ (¬ (xs x3.toNatClampNeg &&& 31) = (9 : Int32) → (((xs x3.toNatClampNeg &&& 31) = (10 : Int32) → lc_10 xs x3 K X) ∧ (¬ (xs x3.toNatClampNeg &&& 31) = (10 : Int32) → (((xs x3.toNatClampNeg &&& 31) = (11 : Int32) → lc_11 xs x3 K X) ∧ (¬ (xs x3.toNatClampNeg &&& 31) = (11 : Int32) → (((xs x3.toNatClampNeg &&& 31) = (12 : Int32) → lc_12 xs x3 K X) ∧ (¬ (xs x3.toNatClampNeg &&& 31) = (12 : Int32) → (((xs x3.toNatClampNeg &&& 31) = (13 : Int32) → lc_13 xs x3 K X) ∧ (¬ (xs x3.toNatClampNeg &&& 31) = (13 : Int32) → (((xs x3.toNatClampNeg &&& 31) = (14 : Int32) → lc_14 xs x3 K X) ∧ (¬ (xs x3.toNatClampNeg &&& 31) = (14 : Int32) → (((xs x3.toNatClampNeg &&& 31) = (15 : Int32) → lc_15 xs x3 K X) ∧ (¬ (xs x3.toNatClampNeg &&& 31) = (15 : Int32) → (((xs x3.toNatClampNeg &&& 31) = (16 : Int32) → lc_16 xs x3 K X) ∧ (¬ (xs x3.toNatClampNeg &&& 31) = (16 : Int32) → (((xs x3.toNatClampNeg &&& 31) = (17 : Int32) → lc_17 xs x3 K X) ∧ (¬ (xs x3.toNatClampNeg &&& 31) = (17 : Int32) → (((xs x3.toNatClampNeg &&& 31) = (18 : Int32) → lc_18 xs x3 K X) ∧ (¬ (xs x3.toNatClampNeg &&& 31) = (18 : Int32) → (((xs x3.toNatClampNeg &&& 31) = (19 : Int32) → lc_19 xs x3 K X) ∧ (¬ (xs x3.toNatClampNeg &&& 31) = (19 : Int32) → (((xs x3.toNatClampNeg &&& 31) = (20 : Int32) → lc_20 xs x3 K X) ∧ (¬ (xs x3.toNatClampNeg &&& 31) = (20 : Int32) → (((xs x3.toNatClampNeg &&& 31) = (21 : Int32) → lc_21 xs x3 K X) ∧ (¬ (xs x3.toNatClampNeg &&& 31) = (21 : Int32) → (((xs x3.toNatClampNeg &&& 31) = (22 : Int32) → lc_22 xs x3 K X) ∧ (¬ (xs x3.toNatClampNeg &&& 31) = (22 : Int32) → (((xs x3.toNatClampNeg &&& 31) = (23 : Int32) → lc_23 xs x3 K X) ∧ (¬ (xs x3.toNatClampNeg &&& 31) = (23 : Int32) → (((xs x3.toNatClampNeg &&& 31) = (24 : Int32) → lc_24 xs x3 K X) ∧ (¬ (xs x3.toNatClampNeg &&& 31) = (24 : Int32) → (((xs x3.toNatClampNeg &&& 31) = (25 : Int32) → lc_25 xs x3 K X) ∧ (¬ (xs x3.toNatClampNeg &&& 31) = (25 : Int32) → (((xs x3.toNatClampNeg &&& 31) = (26 : Int32) → lc_26 xs x3 K X) ∧ (¬ (xs x3.toNatClampNeg &&& 31) = (26 : Int32) → (((xs x3.toNatClampNeg &&& 31) = (27 : Int32) → lc_27 xs x3 K X) ∧ (¬ (xs x3.toNatClampNeg &&& 31) = (27 : Int32) → (((xs x3.toNatClampNeg &&& 31) = (28 : Int32) → lc_28 xs x3 K X) ∧ (¬ (xs x3.toNatClampNeg &&& 31) = (28 : Int32) → K X))))))))))))))))))))))))))))))))))))))))))))))))))))))))))
set_option maxHeartbeats 4000000 in
set_option maxRecDepth 100000 in
theorem lwt_all {p : Program} {l : Launch} {e : Env} {s : State} {m : MethodId} {args : Array Value} {below : List Frame} {meth : Method} {c : Code} {E : db_E} {b L : Nat} {xs : Nat → Int32} {x3 : Int32} {K : db_St → Prop} {cells slots : Nat} {Q : State → Prop} (S : CallFix p m c cL_law 4 s args wsL_law RL) (hX : va_X b L xs s s.heap) (hbl : b < s.heap.size) (v0 : vp_in x3 L) (v1 : vp_in (x3 + 1) L) (v2 : vp_in (x3 + 2) L) (v3 : vp_in (x3 + 3) L) (v4 : vp_in (x3 + 4) L) (hf : cells ≤ room_1.cells ∧ slots ≤ room_1.slots) (hK : ∀ (X : db_St) (H : Heap) (locs : List Loc) (ls : Array Slot), K X → db_HW E (fun q => s.heap.size ≤ q) s X H locs → lv_has ls 4 [(0, .ref b), (1, .ref (db_ad E 0)), (2, .ref (db_ad E 90)), (3, .int x3)] → W p l e room_1 s m args below meth c H locs cells slots Q (F0 m 1033 ls [])) : ∀ (X : db_St) (H : Heap) (locs : List Loc) (ls : Array Slot), lc_all xs x3 K X → db_HW E (fun q => s.heap.size ≤ q) s X H locs → lv_has ls 4 [(0, .ref b), (1, .ref (db_ad E 0)), (2, .ref (db_ad E 90)), (3, .int x3)] → W p l e room_1 s m args below meth c H locs cells slots Q (F0 m 26 ls []) := by
  have hx := S.1
  have hb := S.2.1
  intro X H locs ls h hw hl
  unfold lc_all at h
  refine lv_aload_n hx hb dL_law_26 rfl (lv_at hl 0 rfl) ?_
  refine lv_iload_n hx hb dL_law_27 rfl (lv_at hl 3 rfl) ?_
  refine va_sld hx hb hX hbl (Nat.not_le.mpr hbl) hw.2.2.2.1 v0 dL_law_28 ?_
  refine lv_bipush (v := (31 : Int32)) hx hb dL_law_29 (by decide) ?_
  refine lv_iand hx hb dL_law_31 ?_
  by_cases c0 : (xs x3.toNatClampNeg &&& 31) = (0 : Int32)
  · have h := h.1 c0
    refine lv_tableIn (off := 132) (tgt := 164) hx hb dL_law_32 (by rw [c0]; decide) (by rw [c0]; decide) (by rw [c0]; rfl) (by decide) ?_
    exact lwt_0 S hX hbl v0 v1 v2 v3 v4 hf hK _ _ _ _ h hw hl
  · have h := h.2 c0
    by_cases c1 : (xs x3.toNatClampNeg &&& 31) = (1 : Int32)
    · have h := h.1 c1
      refine lv_tableIn (off := 195) (tgt := 227) hx hb dL_law_32 (by rw [c1]; decide) (by rw [c1]; decide) (by rw [c1]; rfl) (by decide) ?_
      exact lwt_1 S hX hbl v0 v1 v2 v3 v4 hf hK _ _ _ _ h hw hl
    · have h := h.2 c1
      by_cases c2 : (xs x3.toNatClampNeg &&& 31) = (2 : Int32)
      · have h := h.1 c2
        refine lv_tableIn (off := 218) (tgt := 250) hx hb dL_law_32 (by rw [c2]; decide) (by rw [c2]; decide) (by rw [c2]; rfl) (by decide) ?_
        exact lwt_2 S hX hbl v0 v1 v2 v3 v4 hf hK _ _ _ _ h hw hl
      · have h := h.2 c2
        by_cases c3 : (xs x3.toNatClampNeg &&& 31) = (3 : Int32)
        · have h := h.1 c3
          refine lv_tableIn (off := 261) (tgt := 293) hx hb dL_law_32 (by rw [c3]; decide) (by rw [c3]; decide) (by rw [c3]; rfl) (by decide) ?_
          exact lwt_3 S hX hbl v0 v1 v2 v3 v4 hf hK _ _ _ _ h hw hl
        · have h := h.2 c3
          by_cases c4 : (xs x3.toNatClampNeg &&& 31) = (4 : Int32)
          · have h := h.1 c4
            refine lv_tableIn (off := 294) (tgt := 326) hx hb dL_law_32 (by rw [c4]; decide) (by rw [c4]; decide) (by rw [c4]; rfl) (by decide) ?_
            exact lwt_4 S hX hbl v0 v1 v2 v3 v4 hf hK _ _ _ _ h hw hl
          · have h := h.2 c4
            by_cases c5 : (xs x3.toNatClampNeg &&& 31) = (5 : Int32)
            · have h := h.1 c5
              refine lv_tableIn (off := 327) (tgt := 359) hx hb dL_law_32 (by rw [c5]; decide) (by rw [c5]; decide) (by rw [c5]; rfl) (by decide) ?_
              exact lwt_5 S hX hbl v0 v1 v2 v3 v4 hf hK _ _ _ _ h hw hl
            · have h := h.2 c5
              by_cases c6 : (xs x3.toNatClampNeg &&& 31) = (6 : Int32)
              · have h := h.1 c6
                refine lv_tableIn (off := 370) (tgt := 402) hx hb dL_law_32 (by rw [c6]; decide) (by rw [c6]; decide) (by rw [c6]; rfl) (by decide) ?_
                exact lwt_6 S hX hbl v0 v1 v2 v3 v4 hf hK _ _ _ _ h hw hl
              · have h := h.2 c6
                by_cases c7 : (xs x3.toNatClampNeg &&& 31) = (7 : Int32)
                · have h := h.1 c7
                  refine lv_tableIn (off := 413) (tgt := 445) hx hb dL_law_32 (by rw [c7]; decide) (by rw [c7]; decide) (by rw [c7]; rfl) (by decide) ?_
                  exact lwt_7 S hX hbl v0 v1 v2 v3 v4 hf hK _ _ _ _ h hw hl
                · have h := h.2 c7
                  by_cases c8 : (xs x3.toNatClampNeg &&& 31) = (8 : Int32)
                  · have h := h.1 c8
                    refine lv_tableIn (off := 472) (tgt := 504) hx hb dL_law_32 (by rw [c8]; decide) (by rw [c8]; decide) (by rw [c8]; rfl) (by decide) ?_
                    exact lwt_8 S hX hbl v0 v1 v2 v3 v4 hf hK _ _ _ _ h hw hl
                  · have h := h.2 c8
                    by_cases c9 : (xs x3.toNatClampNeg &&& 31) = (9 : Int32)
                    · have h := h.1 c9
                      refine lv_tableIn (off := 485) (tgt := 517) hx hb dL_law_32 (by rw [c9]; decide) (by rw [c9]; decide) (by rw [c9]; rfl) (by decide) ?_
                      exact lwt_9 S hX hbl v0 v1 v2 v3 v4 hf hK _ _ _ _ h hw hl
                    · have h := h.2 c9
                      by_cases c10 : (xs x3.toNatClampNeg &&& 31) = (10 : Int32)
                      · have h := h.1 c10
                        refine lv_tableIn (off := 508) (tgt := 540) hx hb dL_law_32 (by rw [c10]; decide) (by rw [c10]; decide) (by rw [c10]; rfl) (by decide) ?_
                        exact lwt_10 S hX hbl v0 v1 v2 v3 v4 hf hK _ _ _ _ h hw hl
                      · have h := h.2 c10
                        by_cases c11 : (xs x3.toNatClampNeg &&& 31) = (11 : Int32)
                        · have h := h.1 c11
                          refine lv_tableIn (off := 551) (tgt := 583) hx hb dL_law_32 (by rw [c11]; decide) (by rw [c11]; decide) (by rw [c11]; rfl) (by decide) ?_
                          exact lwt_11 S hX hbl v0 v1 v2 v3 v4 hf hK _ _ _ _ h hw hl
                        · have h := h.2 c11
                          by_cases c12 : (xs x3.toNatClampNeg &&& 31) = (12 : Int32)
                          · have h := h.1 c12
                            refine lv_tableIn (off := 574) (tgt := 606) hx hb dL_law_32 (by rw [c12]; decide) (by rw [c12]; decide) (by rw [c12]; rfl) (by decide) ?_
                            exact lwt_12 S hX hbl v0 v1 v2 v3 v4 hf hK _ _ _ _ h hw hl
                          · have h := h.2 c12
                            by_cases c13 : (xs x3.toNatClampNeg &&& 31) = (13 : Int32)
                            · have h := h.1 c13
                              refine lv_tableIn (off := 597) (tgt := 629) hx hb dL_law_32 (by rw [c13]; decide) (by rw [c13]; decide) (by rw [c13]; rfl) (by decide) ?_
                              exact lwt_13 S hX hbl v0 v1 v2 v3 v4 hf hK _ _ _ _ h hw hl
                            · have h := h.2 c13
                              by_cases c14 : (xs x3.toNatClampNeg &&& 31) = (14 : Int32)
                              · have h := h.1 c14
                                refine lv_tableIn (off := 640) (tgt := 672) hx hb dL_law_32 (by rw [c14]; decide) (by rw [c14]; decide) (by rw [c14]; rfl) (by decide) ?_
                                exact lwt_14 S hX hbl v0 v1 v2 v3 v4 hf hK _ _ _ _ h hw hl
                              · have h := h.2 c14
                                by_cases c15 : (xs x3.toNatClampNeg &&& 31) = (15 : Int32)
                                · have h := h.1 c15
                                  refine lv_tableIn (off := 663) (tgt := 695) hx hb dL_law_32 (by rw [c15]; decide) (by rw [c15]; decide) (by rw [c15]; rfl) (by decide) ?_
                                  exact lwt_15 S hX hbl v0 v1 v2 v3 v4 hf hK _ _ _ _ h hw hl
                                · have h := h.2 c15
                                  by_cases c16 : (xs x3.toNatClampNeg &&& 31) = (16 : Int32)
                                  · have h := h.1 c16
                                    refine lv_tableIn (off := 696) (tgt := 728) hx hb dL_law_32 (by rw [c16]; decide) (by rw [c16]; decide) (by rw [c16]; rfl) (by decide) ?_
                                    exact lwt_16 S hX hbl v0 v1 v2 v3 v4 hf hK _ _ _ _ h hw hl
                                  · have h := h.2 c16
                                    by_cases c17 : (xs x3.toNatClampNeg &&& 31) = (17 : Int32)
                                    · have h := h.1 c17
                                      refine lv_tableIn (off := 749) (tgt := 781) hx hb dL_law_32 (by rw [c17]; decide) (by rw [c17]; decide) (by rw [c17]; rfl) (by decide) ?_
                                      exact lwt_17 S hX hbl v0 v1 v2 v3 v4 hf hK _ _ _ _ h hw hl
                                    · have h := h.2 c17
                                      by_cases c18 : (xs x3.toNatClampNeg &&& 31) = (18 : Int32)
                                      · have h := h.1 c18
                                        refine lv_tableIn (off := 782) (tgt := 814) hx hb dL_law_32 (by rw [c18]; decide) (by rw [c18]; decide) (by rw [c18]; rfl) (by decide) ?_
                                        exact lwt_18 S hX hbl v0 v1 v2 v3 v4 hf hK _ _ _ _ h hw hl
                                      · have h := h.2 c18
                                        by_cases c19 : (xs x3.toNatClampNeg &&& 31) = (19 : Int32)
                                        · have h := h.1 c19
                                          refine lv_tableIn (off := 795) (tgt := 827) hx hb dL_law_32 (by rw [c19]; decide) (by rw [c19]; decide) (by rw [c19]; rfl) (by decide) ?_
                                          exact lwt_19 S hX hbl v0 v1 v2 v3 v4 hf hK _ _ _ _ h hw hl
                                        · have h := h.2 c19
                                          by_cases c20 : (xs x3.toNatClampNeg &&& 31) = (20 : Int32)
                                          · have h := h.1 c20
                                            refine lv_tableIn (off := 808) (tgt := 840) hx hb dL_law_32 (by rw [c20]; decide) (by rw [c20]; decide) (by rw [c20]; rfl) (by decide) ?_
                                            exact lwt_20 S hX hbl v0 v1 v2 v3 v4 hf hK _ _ _ _ h hw hl
                                          · have h := h.2 c20
                                            by_cases c21 : (xs x3.toNatClampNeg &&& 31) = (21 : Int32)
                                            · have h := h.1 c21
                                              refine lv_tableIn (off := 831) (tgt := 863) hx hb dL_law_32 (by rw [c21]; decide) (by rw [c21]; decide) (by rw [c21]; rfl) (by decide) ?_
                                              exact lwt_21 S hX hbl v0 v1 v2 v3 v4 hf hK _ _ _ _ h hw hl
                                            · have h := h.2 c21
                                              by_cases c22 : (xs x3.toNatClampNeg &&& 31) = (22 : Int32)
                                              · have h := h.1 c22
                                                refine lv_tableIn (off := 844) (tgt := 876) hx hb dL_law_32 (by rw [c22]; decide) (by rw [c22]; decide) (by rw [c22]; rfl) (by decide) ?_
                                                exact lwt_22 S hX hbl v0 v1 v2 v3 v4 hf hK _ _ _ _ h hw hl
                                              · have h := h.2 c22
                                                by_cases c23 : (xs x3.toNatClampNeg &&& 31) = (23 : Int32)
                                                · have h := h.1 c23
                                                  refine lv_tableIn (off := 857) (tgt := 889) hx hb dL_law_32 (by rw [c23]; decide) (by rw [c23]; decide) (by rw [c23]; rfl) (by decide) ?_
                                                  exact lwt_23 S hX hbl v0 v1 v2 v3 v4 hf hK _ _ _ _ h hw hl
                                                · have h := h.2 c23
                                                  by_cases c24 : (xs x3.toNatClampNeg &&& 31) = (24 : Int32)
                                                  · have h := h.1 c24
                                                    refine lv_tableIn (off := 896) (tgt := 928) hx hb dL_law_32 (by rw [c24]; decide) (by rw [c24]; decide) (by rw [c24]; rfl) (by decide) ?_
                                                    exact lwt_24 S hX hbl v0 v1 v2 v3 v4 hf hK _ _ _ _ h hw hl
                                                  · have h := h.2 c24
                                                    by_cases c25 : (xs x3.toNatClampNeg &&& 31) = (25 : Int32)
                                                    · have h := h.1 c25
                                                      refine lv_tableIn (off := 929) (tgt := 961) hx hb dL_law_32 (by rw [c25]; decide) (by rw [c25]; decide) (by rw [c25]; rfl) (by decide) ?_
                                                      exact lwt_25 S hX hbl v0 v1 v2 v3 v4 hf hK _ _ _ _ h hw hl
                                                    · have h := h.2 c25
                                                      by_cases c26 : (xs x3.toNatClampNeg &&& 31) = (26 : Int32)
                                                      · have h := h.1 c26
                                                        refine lv_tableIn (off := 952) (tgt := 984) hx hb dL_law_32 (by rw [c26]; decide) (by rw [c26]; decide) (by rw [c26]; rfl) (by decide) ?_
                                                        exact lwt_26 S hX hbl v0 v1 v2 v3 v4 hf hK _ _ _ _ h hw hl
                                                      · have h := h.2 c26
                                                        by_cases c27 : (xs x3.toNatClampNeg &&& 31) = (27 : Int32)
                                                        · have h := h.1 c27
                                                          refine lv_tableIn (off := 965) (tgt := 997) hx hb dL_law_32 (by rw [c27]; decide) (by rw [c27]; decide) (by rw [c27]; rfl) (by decide) ?_
                                                          exact lwt_27 S hX hbl v0 v1 v2 v3 v4 hf hK _ _ _ _ h hw hl
                                                        · have h := h.2 c27
                                                          by_cases c28 : (xs x3.toNatClampNeg &&& 31) = (28 : Int32)
                                                          · have h := h.1 c28
                                                            refine lv_tableIn (off := 978) (tgt := 1010) hx hb dL_law_32 (by rw [c28]; decide) (by rw [c28]; decide) (by rw [c28]; rfl) (by decide) ?_
                                                            exact lwt_28 S hX hbl v0 v1 v2 v3 v4 hf hK _ _ _ _ h hw hl
                                                          · have h := h.2 c28
                                                            refine lv_tableOut (tgt := 1033) hx hb dL_law_32 (by have z0_ := lv_neT (a := 0) c0 rfl; have z1_ := lv_neT (a := 1) c1 rfl; have z2_ := lv_neT (a := 2) c2 rfl; have z3_ := lv_neT (a := 3) c3 rfl; have z4_ := lv_neT (a := 4) c4 rfl; have z5_ := lv_neT (a := 5) c5 rfl; have z6_ := lv_neT (a := 6) c6 rfl; have z7_ := lv_neT (a := 7) c7 rfl; have z8_ := lv_neT (a := 8) c8 rfl; have z9_ := lv_neT (a := 9) c9 rfl; have z10_ := lv_neT (a := 10) c10 rfl; have z11_ := lv_neT (a := 11) c11 rfl; have z12_ := lv_neT (a := 12) c12 rfl; have z13_ := lv_neT (a := 13) c13 rfl; have z14_ := lv_neT (a := 14) c14 rfl; have z15_ := lv_neT (a := 15) c15 rfl; have z16_ := lv_neT (a := 16) c16 rfl; have z17_ := lv_neT (a := 17) c17 rfl; have z18_ := lv_neT (a := 18) c18 rfl; have z19_ := lv_neT (a := 19) c19 rfl; have z20_ := lv_neT (a := 20) c20 rfl; have z21_ := lv_neT (a := 21) c21 rfl; have z22_ := lv_neT (a := 22) c22 rfl; have z23_ := lv_neT (a := 23) c23 rfl; have z24_ := lv_neT (a := 24) c24 rfl; have z25_ := lv_neT (a := 25) c25 rfl; have z26_ := lv_neT (a := 26) c26 rfl; have z27_ := lv_neT (a := 27) c27 rfl; have z28_ := lv_neT (a := 28) c28 rfl; omega) (by decide) ?_
                                                            exact hK _ _ _ _ h hw hl
