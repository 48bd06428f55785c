/-! The claim out of the walk: the law's start. -/
set_option maxHeartbeats 40000000 in
set_option maxRecDepth 100000 in
/-- YOUR PART: from the entry, for every script of at most 2560 ints, the law comes to its end with true -/
theorem whole_start {p : Program} {e : Env} {s : State} {m : MethodId} {below : List Frame} {meth : Method} {c : Code} (l : Launch) (hflags : l.flags = flags0) {b L : Nat} {xs : Nat → Int32} (hL : L ≤ 2560) (C0 : lw_At p s m meth c b L xs) : W p l e room_1 s m #[Value.ref b] below meth c s.heap [] 0 0 (lw_Z below #[Value.ref b] s) (entryFrame m ([Value.ref b] : List Value).toArray 4) := by
  obtain ⟨hx, hb, hr, hml, hown, htt, hX, hbl, hlocks, hgv⟩ := id C0
  have hts : ∀ w ∈ wsL_law, w.before #[Value.ref b] s = true := fun w h => htt w (wsL_law_in w h)
  have hA : ∀ q : Nat, s.heap.size ≤ q → (fun q : Nat => s.heap.size ≤ q) q := fun _ h => h
  obtain ⟨dC, dI, hKc⟩ := st_K htt
  obtain ⟨a0, t0, f0⟩ := st_prim (htt (.arrayClass .int) (List.mem_append_right _ (List.mem_of_getElem? (i := 41) (by decide +kernel))))
  obtain ⟨a1, t1, f1⟩ := st_prim (htt (.arrayClass .byte) (List.mem_append_right _ (List.mem_of_getElem? (i := 42) (by decide +kernel))))
  obtain ⟨a2, t2, f2⟩ := st_prim (htt (.arrayClass .long) (List.mem_append_right _ (List.mem_of_getElem? (i := 252) (by decide +kernel))))
  obtain ⟨a3, t3, f3⟩ := st_prim (htt (.arrayClass .boolean) (List.mem_append_right _ (List.mem_of_getElem? (i := 266) (by decide +kernel))))
  obtain ⟨a4, t4, f4⟩ := st_obj (htt (.arrayOver (.object "DaysOnBread$Book")) (List.mem_append_right _ (List.mem_of_getElem? (i := 76) (by decide +kernel))))
  obtain ⟨tG, g1, g2⟩ := st_gr_ok hgv htt
  obtain ⟨tM, m1, m2⟩ := st_ms_ok hgv htt
  obtain ⟨tA, cellA, cI, z1, z2, z3, z4, z5, z6, z7, z8⟩ := st_at_ok hgv htt
  have hN : db_nI s := st_nI htt
  have hNe : db_nest s := st_nest htt
  obtain ⟨E, hE⟩ : ∃ E : db_E, E = (dC, dI, (fun k => [a0, a1, a2, a3, a4].getD k a0), (fun _ => tA), tG, tM) := ⟨_, rfl⟩
  have hK : va_K (db_G E) vwCl (db_tys E) s := by
    rw [hE]
    refine ⟨hKc, fun k q hq => ?_⟩
    match k, hq with
    | 0, hq => cases hq; exact ⟨t0, f0⟩
    | 1, hq => cases hq; exact ⟨t1, f1⟩
    | 2, hq => cases hq; exact ⟨t2, f2⟩
    | 3, hq => cases hq; exact ⟨t3, f3⟩
    | 4, hq => cases hq; exact ⟨t4, f4⟩
    | k + 5, hq => simp [db_tys] at hq
  have hSt : db_stat E (fun q : Nat => s.heap.size ≤ q) s s.heap := by
    rw [hE]; exact ⟨g1, g2, m1, m2⟩
  have hT : db_AT E (fun q : Nat => s.heap.size ≤ q) s s.heap := by
    rw [hE]
    refine ⟨z1, cellA, z2, ?_, z5, z6, z7, Nat.not_le.mpr z8⟩
    rw [z4]
    exact Option.some.inj (z3.symm.trans f0)
  clear hE
  have hS : va_S (fun q : Nat => s.heap.size ≤ q) s.heap s.heap [] := va_S.rf
  have hP : va_P (db_G E) vwCl [] s.heap := fun k q h => by simp at h
  have hD : va_D (fun q : Nat => s.heap.size ≤ q) [] := ⟨fun i j p q h => by simp at h, fun k q h => by simp at h⟩
  have hl := lv_entry ([.ref b]) (n := 4) (Nat.le_of_ble_eq_true rfl)
  rw [lg_entry_eq]
  generalize (lg_sl ([.ref b]) ++ List.replicate (4 - (lg_sl ([.ref b])).length) Slot.unset).toArray = ls at hl ⊢
  have hl : lv_has ls 4 [(0, .ref b)] := hl
  refine va_new (ci := 10) (fs := [.null, .null, .null, .null, .null, .null, .null, .null, .null, .null, .null, .null, .null, .null, .int 0]) (C := RX10) (T := TX10) (N := 15) hx hb hts inlX10 tyX10 tyX10_ok hown (hts (.classLink RL 7 RX10) (List.mem_of_getElem? (i := 0) rfl)) (hts (.instantiable RX10 15) (List.mem_of_getElem? (i := 1) rfl)) (hts (.initialized RX10) (List.mem_of_getElem? (i := 2) rfl)) hK hP hD hS hA rfl (fun j hj => by rcases (show j = 0 ∨ j = 1 ∨ j = 2 ∨ j = 3 ∨ j = 4 ∨ j = 5 ∨ j = 6 ∨ j = 7 ∨ j = 8 ∨ j = 9 ∨ j = 10 ∨ j = 11 ∨ j = 12 ∨ j = 13 ∨ j = 14 by omega) with rfl | rfl | rfl | rfl | rfl | rfl | rfl | rfl | rfl | rfl | rfl | rfl | rfl | rfl | rfl <;> rfl) (Nat.le_of_ble_eq_true rfl) (Nat.le_of_ble_eq_true rfl) dL_law_0 (fun q0v H hP hD hS => ?_)
  have hP : va_P (db_G E) vwCl [(q0v, .inr (10, [.null, .null, .null, .null, .null, .null, .null, .null, .null, .null, .null, .null, .null, .null, .int 0]))] H := hP
  have hD : va_D (fun q : Nat => s.heap.size ≤ q) [(q0v, .inr (10, [.null, .null, .null, .null, .null, .null, .null, .null, .null, .null, .null, .null, .null, .null, .int 0]))] := hD
  refine W.widen (k := 1) (n := 15) (Nat.le_of_ble_eq_true rfl) (Nat.le_of_ble_eq_true rfl) ?_
  refine lv_dup hx hb dL_law_3 rfl ?_
  have hPc := hP.sub (ws' := [(q0v, .inr (10, [.null, .null, .null, .null, .null, .null, .null, .null, .null, .null, .null, .null, .null, .null, .int 0]))]) [0] rfl
  have hDc := hD.sub (ws' := [(q0v, .inr (10, [.null, .null, .null, .null, .null, .null, .null, .null, .null, .null, .null, .null, .null, .null, .int 0]))]) [0] (by decide) rfl
  have hFc := va_free (wc := [(q0v, .inr (10, [.null, .null, .null, .null, .null, .null, .null, .null, .null, .null, .null, .null, .null, .null, .int 0]))]) hD hS hA [0] rfl
  refine va_callv (va_runI (As := []) (rest := [.ref q0v]) ⟨hx, hb, hml, hown, hts⟩ (ci_X10 l E q0v H.size) (cwI 0 hts gL_law_X10_init rfl rfl rfl (hts (.initialized RX10) (List.mem_of_getElem? (i := 2) rfl)) (hts (.methodLink RL 9 yX10_init) (List.mem_of_getElem? (i := 7) rfl)) (hts (.instanceMethod yX10_init) (List.mem_of_getElem? (i := 8) rfl)) rfl (by decide +kernel) ⟨Nat.le_of_ble_eq_true rfl, Nat.le_of_ble_eq_true rfl⟩) ⟨fun a U g mk q => by obtain ⟨q0, q1, qP, qK, qD, qN, qT⟩ := q; exact ⟨q0, q1, qP, va_K.moved (u := U) (U := U.calling g mk a) (Vm.Alike.refl U.vm) qK, qD, db_nI.same (u := U) (U := U.calling g mk a) rfl qN, db_AT.moved (u := U) (U := U.calling g mk a) (Vm.Alike.refl U.vm) qT⟩, fun U hU hW => ⟨rfl, by rw [hU], by rw [hU]; exact hPc, va_K.moved hW.alike hK, hDc.weaken (fun _ _ _ _ => trivial), db_nI.warm hW hN, by rw [hU]; exact ((hT.kept hS.2.1).narrow hFc).moved hW.alike⟩⟩ rfl rfl hl.1 rfl (lv_room (Nat.le_of_ble_eq_true rfl)) dL_law_4 ⟨Nat.le_of_ble_eq_true rfl, Nat.le_of_ble_eq_true rfl⟩) hS (fun q _ h => hFc q h) hFc (fun u t H1 locs ht hvm hw hB hz1 hk1 hS => ?_)
  obtain ⟨q1, q2, q4, q6, q8, q10, q12, q14, q16, q18, q20, q22, q24, q26, b3, b5, b7, b9, b11, b13, b15, b17, b19, b21, b23, b25, b27, hP1, hD1⟩ := hB
  rw [ht] at hP1
  obtain ⟨R10, eR10⟩ : ∃ z_ : va_W, z_ = rs_X10 E q0v q1 q2 q4 q6 q8 q10 q12 q14 q16 q18 q20 q22 q24 q26 b3 b5 b7 b9 b11 b13 b15 b17 b19 b21 b23 b25 b27 := ⟨_, rfl⟩
  rw [← eR10] at hP1 hD1
  obtain ⟨hP, hD⟩ := di_join (F := []) (G := []) (x := (q0v, .inr (10, [.null, .null, .null, .null, .null, .null, .null, .null, .null, .null, .null, .null, .null, .null, .int 0]))) (w1 := R10) hP hD hk1 hFc hP1 hD1
  rw [List.nil_append, List.append_nil] at hP hD
  generalize H1 = H at hP hS ⊢
  refine W.widen (k := 90) (n := 12737) (Nat.le_of_ble_eq_true rfl) (Nat.le_of_ble_eq_true rfl) ?_
  refine lv_astore_n (lv' := [(1, .ref q0v), (0, .ref b)]) hx hb dL_law_7 rfl hl (by decide) rfl (fun ls hl => ?_)
  refine va_new (ci := 11) (fs := [.null, .null, .null, .int 0, .null, .int 0, .int 0, .null, .null, .null, .null, .long 0, .long 0, .null, .int 0, .null, .null, .int 0, .int 0]) (C := RX11) (T := TX11) (N := 19) hx hb hts inlX11 tyX11 tyX11_ok hown (hts (.classLink RL 10 RX11) (List.mem_of_getElem? (i := 3) rfl)) (hts (.instantiable RX11 19) (List.mem_of_getElem? (i := 4) rfl)) (hts (.initialized RX11) (List.mem_of_getElem? (i := 5) rfl)) hK hP hD hS hA rfl (fun j hj => by rcases (show j = 0 ∨ j = 1 ∨ j = 2 ∨ j = 3 ∨ j = 4 ∨ j = 5 ∨ j = 6 ∨ j = 7 ∨ j = 8 ∨ j = 9 ∨ j = 10 ∨ j = 11 ∨ j = 12 ∨ j = 13 ∨ j = 14 ∨ j = 15 ∨ j = 16 ∨ j = 17 ∨ j = 18 by omega) with rfl | rfl | rfl | rfl | rfl | rfl | rfl | rfl | rfl | rfl | rfl | rfl | rfl | rfl | rfl | rfl | rfl | rfl | rfl <;> rfl) (Nat.le_of_ble_eq_true rfl) (Nat.le_of_ble_eq_true rfl) dL_law_8 (fun p0v H hP hD hS => ?_)
  refine W.widen (k := 91) (n := 12756) (Nat.le_of_ble_eq_true rfl) (Nat.le_of_ble_eq_true rfl) ?_
  refine lv_dup hx hb dL_law_11 rfl ?_
  have hPs : va_P (db_G E) vwCl (([] ++ [(p0v, .inr (11, [.null, .null, .null, .int 0, .null, .int 0, .int 0, .null, .null, .null, .null, .long 0, .long 0, .null, .int 0, .null, .null, .int 0, .int 0]))]) ++ R10) H := di_mvP (F := []) hP
  have hDs : va_D (fun q : Nat => s.heap.size ≤ q) (([] ++ [(p0v, .inr (11, [.null, .null, .null, .int 0, .null, .int 0, .int 0, .null, .null, .null, .null, .long 0, .long 0, .null, .int 0, .null, .null, .int 0, .int 0]))]) ++ R10) := di_mvD (F := []) hD
  have hPc := hPs.sub (ws' := [(p0v, .inr (11, [.null, .null, .null, .int 0, .null, .int 0, .int 0, .null, .null, .null, .null, .long 0, .long 0, .null, .int 0, .null, .null, .int 0, .int 0]))]) [0] rfl
  have hDc := hDs.sub (ws' := [(p0v, .inr (11, [.null, .null, .null, .int 0, .null, .int 0, .int 0, .null, .null, .null, .null, .long 0, .long 0, .null, .int 0, .null, .null, .int 0, .int 0]))]) [0] (by decide) rfl
  have hFc := va_free (wc := [(p0v, .inr (11, [.null, .null, .null, .int 0, .null, .int 0, .int 0, .null, .null, .null, .null, .long 0, .long 0, .null, .int 0, .null, .null, .int 0, .int 0]))]) hDs hS hA [0] rfl
  refine va_callv (va_runI (As := []) (rest := [.ref p0v]) ⟨hx, hb, hml, hown, hts⟩ (ci_X11 l E p0v H.size) (cwI 0 hts gL_law_X11_init rfl rfl rfl (hts (.initialized RX11) (List.mem_of_getElem? (i := 5) rfl)) (hts (.methodLink RL 12 yX11_init) (List.mem_of_getElem? (i := 134) rfl)) (hts (.instanceMethod yX11_init) (List.mem_of_getElem? (i := 135) rfl)) rfl (by decide +kernel) ⟨Nat.le_of_ble_eq_true rfl, Nat.le_of_ble_eq_true rfl⟩) ⟨fun a U g mk q => by obtain ⟨q0, q1, qP, qK, qD⟩ := q; exact ⟨q0, q1, qP, va_K.moved (u := U) (U := U.calling g mk a) (Vm.Alike.refl U.vm) qK, qD⟩, fun U hU hW => ⟨rfl, by rw [hU], by rw [hU]; exact hPc, va_K.moved hW.alike hK, hDc.weaken (fun _ _ _ _ => trivial)⟩⟩ rfl rfl hl.1 rfl (lv_room (Nat.le_of_ble_eq_true rfl)) dL_law_12 ⟨Nat.le_of_ble_eq_true rfl, Nat.le_of_ble_eq_true rfl⟩) hS (fun q _ h => hFc q h) hFc (fun u t H1 locs ht hvm hw hB hz1 hk1 hS => ?_)
  obtain ⟨bm, hP1, hD1⟩ := hB
  rw [ht] at hP1
  obtain ⟨hP, hD⟩ := di_join (F := R10) (G := []) (x := (p0v, .inr (11, [.null, .null, .null, .int 0, .null, .int 0, .int 0, .null, .null, .null, .null, .long 0, .long 0, .null, .int 0, .null, .null, .int 0, .int 0]))) (w1 := rs_X11 E p0v bm) (by rw [List.append_nil]; exact hP) (by rw [List.append_nil]; exact hD) hk1 hFc hP1 hD1
  rw [List.append_nil] at hP hD
  generalize H1 = H at hP hS ⊢
  subst eR10
  obtain ⟨hP, hD⟩ := db_canon E q0v p0v q1 q2 q4 q6 q8 q10 q12 q14 q16 q18 q20 q22 q24 q26 b3 b5 b7 b9 b11 b13 b15 b17 b19 b21 b23 b25 b27 bm hP hD
  refine W.widen (k := 102) (n := 24626) (Nat.le_of_ble_eq_true rfl) (Nat.le_of_ble_eq_true rfl) ?_
  refine lv_astore_n (lv' := [(2, .ref p0v), (1, .ref q0v), (0, .ref b)]) hx hb dL_law_15 rfl hl (by decide) rfl (fun ls hl => ?_)
  refine lv_iconst (v := 0) hx hb dL_law_16 (by decide) ?_
  refine lv_istore_n (lv' := [(3, .int 0), (2, .ref p0v), (1, .ref q0v), (0, .ref b)]) hx hb dL_law_17 rfl hl (by decide) rfl (fun ls hl => ?_)
  exact law_loop (E := (db_EL E q0v p0v q1 q2 q4 q6 q8 q10 q12 q14 q16 q18 q20 q22 q24 q26 b3 b5 b7 b9 b11 b13 b15 b17 b19 b21 b23 b25 b27 bm)) (K := Sim) op_all hL C0 (L + 6) 0 (Nat.zero_le _) (by omega) 0 rfl db_X0 H _ ls sim_X0 ⟨hP, hK, hD, hS, hNe, hSt, hA⟩ (lv_sub hl [3, 2, 1, 0] rfl)
-- ===== YOUR PART ENDS =====
set_option maxHeartbeats 4000000 in
theorem lw_walk (l : Launch) (hflags : l.flags = flags0) (b : Addr) (xs : List Int32) : MetFree l x (headSpec (Jvm.Cond.code x code maxLocals ret :: tables_1) room_1) (lw_P b xs) (fun _ _ _ _ _ => True) lw_Q := by
  refine MetFree.of_bodyS (code := code) (maxLocals := maxLocals) (ret := ret) (by decide) ?_ ?_
  · intro args s m h hn
    obtain ⟨meth, c, h1, h2, h3, h4, h5, h6, -, -⟩ := Cond.code_spec hn (atoms_spec (ws := Jvm.Cond.code x code maxLocals ret :: tables_1) h _ List.mem_cons_self)
    exact ⟨meth, c, h1, h2, h3, h4, h5, h6⟩
  · intro p e s m args below meth c s₁ B hml0 hP _
    obtain ⟨rfl, hx, hbd, hgv⟩ := hP
    obtain ⟨scr, harrAt, hlist, hof, hsmall⟩ := hx
    obtain ⟨hcb, hkn, -, -⟩ := State.arrayAt?_spec harrAt
    have hown : s.vm.findClass R_law = some m.cls := findClass_of_methodNamed B.named
    have hts0 : ∀ c ∈ (Jvm.Cond.code x code maxLocals ret :: tables_1), c.before #[Value.ref b] s = true := atoms_spec (ws := Jvm.Cond.code x code maxLocals ret :: tables_1) B.pre
    have hts : ∀ w ∈ lw_tbl, w.before #[Value.ref b] s = true := k2_hts_sels lw_privs (fun w hw => hts0 w (List.mem_cons_of_mem _ hw)) lw_privs_ok
    have hml : c.maxLocals = 4 := B.maxLocals_eq (hts0 _ List.mem_cons_self)
    have X₀ : Stand p l e room_1 s m #[Value.ref b] below meth c s₁ [] 0 0 := Stand.of_body B
    have hh0 : s₁.heap = s.heap := by rw [B.state]; rfl
    have hsz : scr.slots.size = xs.length := by rw [← Array.length_toList, hlist, List.length_map]
    have hval : ∀ j : Nat, j < xs.length → scr.slots[j]? = some (.int (xs.getD j 0)) := fun j hj => by
      rw [← Array.getElem?_toList, hlist]
      simp [hj]
    have hbl : b < s.heap.size := (Array.getElem?_eq_some_iff.mp hcb).1
    have hX : va_X b xs.length (fun j => xs.getD j 0) s s.heap := ⟨scr, hcb, hof, hkn, hsz, hval⟩
    have K : W p l e room_1 s m #[Value.ref b] below meth c s₁.heap [] 0 0 (lw_Z below #[Value.ref b] s) (entryFrame m ([Value.ref b] : List Value).toArray 4) := by
      rw [hh0]
      exact whole_start l hflags hbd ⟨B.exec, B.bytes, B.returns, hml, hown, hts, hX, hbl, B.notSynchronized, hgv⟩
    obtain ⟨t, a1, o, b1, b2, b3⟩ := K s₁ rfl X₀
    exact ⟨t, o, a1, b1, b2, b3⟩
theorem lw_pre_spec {args : Array Value} {s : State} (h : (Jvm.Cond.and given_1 narrow_1).before args s = true) (hr : rest_1_c.before args s = true) : ∃ (b : Addr) (xs : List Int32), lw_P b xs args s := by
  have hs := flat_of_before _ h
  have hq := flat_of_before _ hr
  have hc : (Cond.count 1).before args s = true := hs _ (by decide +kernel)
  have harr : (Cond.arrayOf (.arg 0) .int).before args s = true := hs _ (by decide +kernel)
  have hle : (Cond.le (.length (.arg 0)) (.int 2560)).before args s = true := hs _ (by decide +kernel)
  have hlen : (Cond.isInt (.length (.arg 0))).before args s = true := hq _ (by decide +kernel)
  have hall : (Cond.all (.arg 0) (.isInt (.elem (.arg 0) (.index 0)))).before args s = true := hq _ (by decide +kernel)
  obtain ⟨b, xs, hb, hx⟩ := State.ints_of_pre rfl harr hlen hall
  have hsm : xs.length < 2 ^ 31 := hx.choose_spec.2.2.2
  have hev : (Term.length (.arg 0)).eval args s none [] s = some (.int xs.length.toInt32) := hx.length_eval hb
  have hv := Cond.le_ints hev (show (Term.int 2560).eval args s none [] s = some (.int 2560) from rfl)
  have hd : xs.length.toInt32 ≤ 2560 := by
    simpa [Cond.before, Cond.holds, hv] using hle
  have hN : xs.length ≤ 2560 := (Int32.ofNat_le_ofNat hsm (by decide)).mp (show Int32.ofNat xs.length ≤ Int32.ofNat 2560 from hd)
  exact ⟨b, xs, Cond.one_arg hc (show args[0]? = some (.ref b) from hb), hx, hN, h⟩
theorem lw_comes (l : Launch) (hflags : l.flags = flags0) : Comes l x (Jvm.Cond.code x code maxLocals ret :: tables_1) room_1 (fun tb e args s => Calls_1 tb e args s ∧ rest_1 tb e args s ∧ Pre_1 tb e args s)
    (fun _ _ args s o t => lw_Q args s o t) := by
  intro p e ha hc hk s m args below hf hfit hheap happ hpre
  obtain ⟨b, xs, hP⟩ := lw_pre_spec hpre.2.2 hpre.2.1
  obtain ⟨k, o, h1, h2, h3, hQ⟩ := lw_walk l hflags b xs p e ha hc hk s m args below hf ((Spec.applies_iff_loose hf).mp happ).1 hP trivial
  exact ⟨k, o, h1, h2, h3, hQ⟩
theorem lw_frame {s t : State} {o : Outcome} {args : Array Value} (h : Framed s o t [] 600000 7302249) :
    Framed s o t (fieldLocs frame_1_writes args s ++ arrayLocs frame_1_arrays args s ++ staticLocs frame_1_statics s) 600000 7302249 := h
theorem lw_limb (L : Cond) (hL : ∀ (args : Array Value) (s t : State), L.after args s (.returned (some (.int 1))) t = true) :
    ArmFor flags0 classFile x code maxLocals ret World_1 tables_1 room_1 Calls_1 rest_1 Pre_1
      (fun tb e a s o t => postC L tb e a s o t ∧ Framed s o t (fieldLocs frame_1_writes a s ++ arrayLocs frame_1_arrays a s ++ staticLocs frame_1_statics s) 600000 7302249) := by
  intro l hflags _ _ p e ha hc hk s m args below hf hfit hheap happ hpre
  obtain ⟨k, o, h1, h2, h3, rfl, hF⟩ := lw_comes l hflags p e ha hc hk s m args below hf hfit hheap happ hpre
  exact ⟨k, _, h1, h2, h3, hL args s _, lw_frame hF⟩
theorem i_vc : Claimed_1_1 ∧ Claimed_1_2 := ⟨lw_limb limb_1_1 (fun args s t => by simp [limb_1_1, Cond.after, Cond.holds, Cond.value]), lw_limb limb_1_2 (fun args s t => Cond.after_iff.mpr (by
  first | (rw [show limb_1_2 = Cond.eq .result (.int 1) from rfl, Cond.eq_ints (x := 1) (y := 1) rfl rfl]; simp; done) | (simp [limb_1_2, Cond.value, Term.eval]; done)))⟩
