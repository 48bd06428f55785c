set_option maxHeartbeats 4000000 in
set_option maxRecDepth 100000 in
theorem law_loop {p : Program} {l : Launch} {e : Env} {s : State} {m : MethodId} {below : List Frame} {meth : Method} {c : Code} {E : db_E} {b L : Nat} {xs : Nat → Int32} {K : db_St → Prop} (hop : ∀ (xs : Nat → Int32) (x3 : Int32) (X : db_St), K X → lc_all xs x3 K X) (hL : L ≤ 2560) (C0 : lw_At p s m meth c b L xs) :
    ∀ (n i : Nat), i ≤ L + 5 → L + 6 ≤ i + n → ∀ (x3 : Int32), x3 = nI i → ∀ (X : db_St) (H : Heap) (locs : List Loc) (ls : Array Slot), K X → db_HW E (fun q => s.heap.size ≤ q) s X H locs → lv_has ls 4 [(0, .ref b), (1, .ref (db_ad E 0)), (2, .ref (db_ad E 90)), (3, .int x3)] → W p l e room_1 s m #[Value.ref b] below meth c H locs 102 24626 (lw_Z below #[Value.ref b] s) (F0 m 18 ls []) := by
  obtain ⟨hx, hb, hr, hml, hown, hts, hX, hbl, hlocks, hgv⟩ := id C0
  have S : CallFix p m c cL_law 4 s #[Value.ref b] wsL_law RL := ⟨hx, hb, hml, hown, fun w h => hts w (wsL_law_in w h)⟩
  intro n
  induction n with
  | zero =>
    intro i h1 h2
    exact absurd h2 (by omega)
  | succ n ih =>
    intro i hi hin x3 e3 X H locs ls hk hw hl
    have e5 : (5 : Int32) = nI 5 := by decide
    have hsub : (Int32.ofNat L - 5).toInt = (L : Int) - 5 := by
      rw [e5]
      exact pk_sub_toInt (a := L) (b := 5) (by omega) (by omega)
    have h3 : x3.toInt = (i : Int) := by rw [e3]; exact nI_toInt (by omega)
    refine lv_iload_n hx hb dL_law_18 rfl (lv_at hl 3 rfl) ?_
    refine lv_aload_n hx hb dL_law_19 rfl (lv_at hl 0 rfl) ?_
    refine va_slen hx hb hX hbl (Nat.not_le.mpr hbl) hw.2.2.2.1 dL_law_20 ?_
    refine lv_iconst (v := (5 : Int32)) hx hb dL_law_21 (by decide) ?_
    refine lv_isub hx hb dL_law_22 ?_
    refine lv_icmp_gt (tgt := 1039) hx hb dL_law_23 (by decide) (fun c1 => ?_) (fun c1 => ?_)
    · refine lv_iconst (v := 1) hx hb dL_law_1039 (by decide) ?_
      refine va_forget (fun q hq => hw.2.2.2.1.2.2 q hq) ?_
      refine W.widen (k := 600000) (n := 7302249) (Nat.le_of_ble_eq_true rfl) (Nat.le_of_ble_eq_true rfl) ?_
      exact lw_ret hx hb hr hlocks dL_law_1040
    · have h5 : i + 5 ≤ L := by
        rw [Int32.lt_iff_toInt_lt, hsub, h3] at c1
        omega
      have hv : ∀ k : Nat, k < 5 → vp_in (nI (i + k)) L := fun k hk => vp_in_nI (by omega) (by omega)
      have v0 : vp_in x3 L := by rw [e3]; exact hv 0 (by omega)
      have v1 : vp_in (x3 + 1) L := by rw [e3, nI_1]; exact hv 1 (by omega)
      have v2 : vp_in (x3 + 2) L := by rw [e3, show (2 : Int32) = nI 2 by decide, nI_add]; exact hv 2 (by omega)
      have v3 : vp_in (x3 + 3) L := by rw [e3, show (3 : Int32) = nI 3 by decide, nI_add]; exact hv 3 (by omega)
      have v4 : vp_in (x3 + 4) L := by rw [e3, show (4 : Int32) = nI 4 by decide, nI_add]; exact hv 4 (by omega)
      refine lwt_all S hX hbl v0 v1 v2 v3 v4 ⟨Nat.le_of_ble_eq_true rfl, Nat.le_of_ble_eq_true rfl⟩ (fun X H locs ls hk hw hl => ?_) X H locs ls (hop xs x3 X hk) hw hl
      refine lv_iinc (v := (x3 + 5)) (lv' := [(3, .int (x3 + 5)), (0, .ref b), (1, .ref (db_ad E 0)), (2, .ref (db_ad E 90))]) hx hb dL_law_1033 hl (k := 3) rfl (congrArg (fun z_ => x3 + z_) (show Int32.ofInt 5 = (5 : Int32) by decide)) (by decide) rfl (fun ls hl => ?_)
      refine lv_goto (tgt := 18) hx hb dL_law_1036 (by decide) ?_
      exact ih (i + 5) (by omega) (by omega) (x3 + 5) (by rw [e3, e5, nI_add]) X H locs ls hk hw (lv_sub hl [1, 2, 3, 0] rfl)
