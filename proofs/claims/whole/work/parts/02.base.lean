/-! The world of class and reference together: 102 cells in one order; what they hold is a function of two tables of numbers (X.1: ints, X.2: longs), by cell and place. -/
abbrev db_St : Type := (Nat → Nat → Int32) × (Nat → Nat → Int64)
def db_si (X : db_St) (k j : Nat) (v : Int32) : db_St := (fun a => if a = k then upd (X.1 k) j v else X.1 a, X.2)
def db_sl (X : db_St) (k j : Nat) (v : Int64) : db_St := (X.1, fun a => if a = k then vp_updL (X.2 k) j v else X.2 a)
def db_sa (X : db_St) (k : Nat) (f : Nat → Int32) : db_St := (fun a => if a = k then f else X.1 a, X.2)
theorem db_si_1 (X : db_St) (k j : Nat) (v : Int32) (a b : Nat) : (db_si X k j v).1 a b = if a = k then (if b = j then v else X.1 k b) else X.1 a b := by
  by_cases h : a = k <;> simp [db_si, h, upd]
theorem db_si_2 (X : db_St) (k j : Nat) (v : Int32) : (db_si X k j v).2 = X.2 := rfl
theorem db_sl_1 (X : db_St) (k j : Nat) (v : Int64) : (db_sl X k j v).1 = X.1 := rfl
theorem db_sl_2 (X : db_St) (k j : Nat) (v : Int64) (a b : Nat) : (db_sl X k j v).2 a b = if a = k then (if b = j then v else X.2 k b) else X.2 a b := by
  by_cases h : a = k <;> simp [db_sl, h, vp_updL]
theorem db_sa_1 (X : db_St) (k : Nat) (f : Nat → Int32) (a : Nat) : (db_sa X k f).1 a = if a = k then f else X.1 a := rfl
theorem db_sa_2 (X : db_St) (k : Nat) (f : Nat → Int32) : (db_sa X k f).2 = X.2 := rfl
-- the shapes: an array (its type's place, its length), or an object (its class's place; its fields: 0 an int, 1 a long, r + 2 a reference to cell r)
abbrev db_Sh : Type := (Nat × Nat) ⊕ (Nat × List Nat)
def db_bk (k : Nat) : List db_Sh := [.inr (0, [k + 3, k + 4, k + 5, 0, 0, 0]), .inl (0, 10), .inl (0, 10), .inl (0, 10)]
def db_shf (k : Nat) : List db_Sh := [.inr (8, [k + 3, k + 28, k + 29, k + 30, 0]), .inl (4, 6)] ++ (db_bk (k + 2) ++ (db_bk (k + 6) ++ (db_bk (k + 10) ++ (db_bk (k + 14) ++ (db_bk (k + 18) ++ (db_bk (k + 22) ++ [.inl (0, 12), .inl (0, 12), .inl (0, 12)]))))))
def db_shL : List db_Sh := [.inr (10, [3, 4, 6, 8, 9, 38, 40, 45, 48, 51, 54, 56, 85, 87, 0]), .inl (0, 7), .inr (2, [5, 0]), .inl (1, 16), .inr (2, [7, 0]), .inl (1, 100), .inr (7, [4, 0, 0, 0, 0])] ++ (db_shf 7 ++ ([.inr (4, [39, 0, 0]), .inl (0, 24), .inr (5, [41, 42, 43, 44, 0]), .inl (0, 12), .inl (0, 12), .inl (0, 12), .inl (0, 12), .inr (3, [38, 46, 47, 0, 0, 0, 0]), .inl (0, 6), .inl (0, 6), .inr (1, [38, 49, 50]), .inl (0, 7007), .inl (0, 6), .inr (9, [40, 52, 53]), .inl (2, 384), .inl (2, 384), .inr (6, [40, 55]), .inl (3, 4096)] ++ (db_shf 54 ++ [.inr (4, [86, 0, 0]), .inl (0, 24), .inr (5, [88, 89, 90, 91, 0]), .inl (0, 12), .inl (0, 12), .inl (0, 12), .inl (0, 12), .inr (11, [93, 94, 95, 0, 96, 0, 0, 97, 98, 99, 100, 1, 1, 101, 0, 102, 103, 0, 0]), .inl (0, 7), .inl (0, 310), .inl (0, 310), .inl (0, 16), .inl (0, 7007), .inl (0, 6), .inl (0, 6), .inl (0, 6), .inl (0, 4096), .inl (0, 100), .inl (0, 6)])))
def db_sh (k : Nat) : db_Sh := db_shL.getD k (.inl (0, 0))
theorem db_shL_len : db_shL.length = 102 := by decide +kernel
abbrev db_E : Type := (Nat → ClassId) × (Nat → Nat → Nat) × (Nat → ClassId) × (Nat → Nat) × Nat × Nat
def db_G (E : db_E) : va_G := (E.1, E.2.1)
def db_cy (E : db_E) (t : Nat) : ClassId := E.2.2.1 t
def db_ad (E : db_E) (k : Nat) : Nat := E.2.2.2.1 k
def db_tG (E : db_E) : Nat := E.2.2.2.2.1
def db_tM (E : db_E) : Nat := E.2.2.2.2.2
def db_tys (E : db_E) : List (ClassId × FieldType) := [(db_cy E 0, .int), (db_cy E 1, .byte), (db_cy E 2, .long), (db_cy E 3, .boolean), (db_cy E 4, .object "DaysOnBread$Book")]
def db_sv (E : db_E) (f : Nat → Int32) (g : Nat → Int64) (j d : Nat) : Value := match d with
  | 0 => .int (f j)
  | 1 => .long (g j)
  | r + 2 => .ref (db_ad E r)
def db_fs (E : db_E) (f : Nat → Int32) (g : Nat → Int64) : Nat → List Nat → List Value
  | _, [] => []
  | o, d :: ds => db_sv E f g o d :: db_fs E f g (o + 1) ds
def db_bks (E : db_E) (k : Nat) : Nat → Option Nat := fun j => some (db_ad E (k + 1 + 4 * j))
def db_cell (E : db_E) (k : Nat) (f : Nat → Int32) (g : Nat → Int64) : va_E := match db_sh k with
  | .inr (ci, ds) => .inr (ci, db_fs E f g 0 ds)
  | .inl (t, n) => .inl (db_cy E t, n, if t = 2 then .inr (.inl g) else if t = 4 then .inr (.inr (.inr (.inr (db_bks E k)))) else .inl f)
def db_wl (E : db_E) (X : db_St) : va_W := (List.range 102).map (fun k => (db_ad E k, db_cell E k (X.1 k) (X.2 k)))
theorem db_wl_at (E : db_E) (X : db_St) {k : Nat} (h : k < 102) : (db_wl E X)[k]? = some (db_ad E k, db_cell E k (X.1 k) (X.2 k)) := by
  simp [db_wl, h]
theorem db_wl_of {E : db_E} {X : db_St} {k : Nat} {q : Nat × va_E} (h : (db_wl E X)[k]? = some q) : k < 102 ∧ q = (db_ad E k, db_cell E k (X.1 k) (X.2 k)) := by
  have hk : k < 102 := by
    have := (List.getElem?_eq_some_iff.mp h).1
    simpa [db_wl] using this
  rw [db_wl_at E X hk] at h
  exact ⟨hk, (Option.some.inj h).symm⟩
theorem db_wl_o {E : db_E} {X : db_St} {k ci : Nat} {ds : List Nat} (h : k < 102) (hs : db_sh k = .inr (ci, ds)) : (db_wl E X)[k]? = some (db_ad E k, .inr (ci, db_fs E (X.1 k) (X.2 k) 0 ds)) := by
  rw [db_wl_at E X h]; simp [db_cell, hs]
theorem db_wl_i {E : db_E} {X : db_St} {k t n : Nat} (h : k < 102) (hs : db_sh k = .inl (t, n)) (h2 : t ≠ 2) (h4 : t ≠ 4) : (db_wl E X)[k]? = some (db_ad E k, .inl (db_cy E t, n, .inl (X.1 k))) := by
  rw [db_wl_at E X h]; simp [db_cell, hs, h2, h4]
theorem db_wl_l {E : db_E} {X : db_St} {k n : Nat} (h : k < 102) (hs : db_sh k = .inl (2, n)) : (db_wl E X)[k]? = some (db_ad E k, .inl (db_cy E 2, n, .inr (.inl (X.2 k)))) := by
  rw [db_wl_at E X h]; simp [db_cell, hs]
theorem db_wl_q {E : db_E} {X : db_St} {k n : Nat} (h : k < 102) (hs : db_sh k = .inl (4, n)) : (db_wl E X)[k]? = some (db_ad E k, .inl (db_cy E 4, n, .inr (.inr (.inr (.inr (db_bks E k)))))) := by
  rw [db_wl_at E X h]; simp [db_cell, hs]
/-- the list with one place replaced, as the list of another state -/
theorem db_wl_set {E : db_E} {X X' : db_St} {k : Nat} {e : va_E} (h : k < 102) (h1 : ∀ a, a ≠ k → X'.1 a = X.1 a) (h2 : ∀ a, a ≠ k → X'.2 a = X.2 a) (he : e = db_cell E k (X'.1 k) (X'.2 k)) : (db_wl E X).set k (db_ad E k, e) = db_wl E X' := by
  apply List.ext_getElem?
  intro a
  by_cases ha : a < 102
  · rw [db_wl_at E X' ha]
    by_cases hk : a = k
    · subst hk
      rw [List.getElem?_set_self (by simpa [db_wl] using ha), he]
    · rw [List.getElem?_set_ne (fun q => hk q.symm), db_wl_at E X ha, h1 a hk, h2 a hk]
  · rw [List.getElem?_eq_none (by simp [db_wl]; omega), List.getElem?_eq_none (by simp [db_wl]; omega)]
theorem db_fs_at {E : db_E} {f : Nat → Int32} {g : Nat → Int64} : ∀ (ds : List Nat) (o j d : Nat), ds[j]? = some d → (db_fs E f g o ds)[j]? = some (db_sv E f g (o + j) d)
  | [], _, _, _, h => by simp at h
  | d0 :: ds, o, 0, d, h => by
    simp at h
    subst h
    simp [db_fs]
  | d0 :: ds, o, j + 1, d, h => by
    simp at h
    have := db_fs_at (E := E) (f := f) (g := g) ds (o + 1) j d h
    simp only [db_fs, List.getElem?_cons_succ]
    rw [this, show o + 1 + j = o + (j + 1) by omega]
theorem db_fs_congr {E : db_E} {f f' : Nat → Int32} {g g' : Nat → Int64} : ∀ (ds : List Nat) (o : Nat), (∀ m, o ≤ m → f m = f' m) → (∀ m, o ≤ m → g m = g' m) → db_fs E f g o ds = db_fs E f' g' o ds
  | [], _, _, _ => rfl
  | d0 :: ds, o, h1, h2 => by
    have ih := db_fs_congr (E := E) ds (o + 1) (fun m hm => h1 m (by omega)) (fun m hm => h2 m (by omega))
    have e : db_sv E f g o d0 = db_sv E f' g' o d0 := by
      match d0 with
      | 0 => simp [db_sv, h1 o (Nat.le_refl o)]
      | 1 => simp [db_sv, h2 o (Nat.le_refl o)]
      | r + 2 => rfl
    simp only [db_fs, ih, e]
theorem db_fs_seti {E : db_E} {f : Nat → Int32} {g : Nat → Int64} (v : Int32) : ∀ (ds : List Nat) (o j : Nat), ds[j]? = some 0 → (db_fs E f g o ds).set j (.int v) = db_fs E (upd f (o + j) v) g o ds
  | [], _, _, h => by simp at h
  | d0 :: ds, o, 0, h => by
    simp at h
    subst h
    have e := db_fs_congr (E := E) (f := f) (f' := upd f o v) (g := g) (g' := g) ds (o + 1) (fun m hm => by simp [upd, show m ≠ o by omega]) (fun _ _ => rfl)
    simp [db_fs, db_sv, upd, ← e]
  | d0 :: ds, o, j + 1, h => by
    simp at h
    have ih := db_fs_seti (E := E) (f := f) (g := g) v ds (o + 1) j h
    have e : db_sv E f g o d0 = db_sv E (upd f (o + (j + 1)) v) g o d0 := by
      match d0 with
      | 0 => simp [db_sv, upd]
      | 1 => rfl
      | r + 2 => rfl
    simp only [db_fs, List.set_cons_succ]
    rw [ih, ← e, show o + 1 + j = o + (j + 1) by omega]
theorem db_fs_setl {E : db_E} {f : Nat → Int32} {g : Nat → Int64} (v : Int64) : ∀ (ds : List Nat) (o j : Nat), ds[j]? = some 1 → (db_fs E f g o ds).set j (.long v) = db_fs E f (vp_updL g (o + j) v) o ds
  | [], _, _, h => by simp at h
  | d0 :: ds, o, 0, h => by
    simp at h
    subst h
    have e := db_fs_congr (E := E) (f := f) (f' := f) (g := g) (g' := vp_updL g o v) ds (o + 1) (fun _ _ => rfl) (fun m hm => by simp [vp_updL, show m ≠ o by omega])
    simp [db_fs, db_sv, vp_updL, ← e]
  | d0 :: ds, o, j + 1, h => by
    simp at h
    have ih := db_fs_setl (E := E) (f := f) (g := g) v ds (o + 1) j h
    have e : db_sv E f g o d0 = db_sv E f (vp_updL g (o + (j + 1)) v) o d0 := by
      match d0 with
      | 0 => rfl
      | 1 => simp [db_sv, vp_updL]
      | r + 2 => rfl
    simp only [db_fs, List.set_cons_succ]
    rw [ih, ← e, show o + 1 + j = o + (j + 1) by omega]
theorem db_fs_len {E : db_E} {f : Nat → Int32} {g : Nat → Int64} : ∀ (ds : List Nat) (o : Nat), (db_fs E f g o ds).length = ds.length
  | [], _ => rfl
  | _ :: ds, o => by simp [db_fs, db_fs_len ds (o + 1)]
theorem db_wl_puti {E : db_E} {X : db_St} {k ci j : Nat} {ds : List Nat} (h : k < 102) (hs : db_sh k = .inr (ci, ds)) (hd : ds[j]? = some 0) (v : Int32) : (db_wl E X).set k (db_ad E k, .inr (ci, (db_fs E (X.1 k) (X.2 k) 0 ds).set j (.int v))) = db_wl E (db_si X k j v) := by
  refine db_wl_set h (fun a ha => by simp [db_si, ha]) (fun a _ => rfl) ?_
  rw [db_fs_seti v ds 0 j hd]
  simp [db_cell, hs, db_si]
theorem db_wl_putl {E : db_E} {X : db_St} {k ci j : Nat} {ds : List Nat} (h : k < 102) (hs : db_sh k = .inr (ci, ds)) (hd : ds[j]? = some 1) (v : Int64) : (db_wl E X).set k (db_ad E k, .inr (ci, (db_fs E (X.1 k) (X.2 k) 0 ds).set j (.long v))) = db_wl E (db_sl X k j v) := by
  refine db_wl_set h (fun a _ => rfl) (fun a ha => by simp [db_sl, ha]) ?_
  rw [db_fs_setl v ds 0 j hd]
  simp [db_cell, hs, db_sl]
theorem db_wl_sti {E : db_E} {X : db_St} {k t n : Nat} (h : k < 102) (hs : db_sh k = .inl (t, n)) (h2 : t ≠ 2) (h4 : t ≠ 4) (i : Nat) (v : Int32) : (db_wl E X).set k (db_ad E k, .inl (db_cy E t, n, .inl (upd (X.1 k) i v))) = db_wl E (db_si X k i v) := by
  refine db_wl_set h (fun a ha => by simp [db_si, ha]) (fun a _ => rfl) ?_
  simp [db_cell, hs, h2, h4, db_si]
theorem db_wl_sta {E : db_E} {X : db_St} {k t n : Nat} (h : k < 102) (hs : db_sh k = .inl (t, n)) (h2 : t ≠ 2) (h4 : t ≠ 4) (f : Nat → Int32) : (db_wl E X).set k (db_ad E k, .inl (db_cy E t, n, .inl f)) = db_wl E (db_sa X k f) := by
  refine db_wl_set h (fun a ha => by simp [db_sa, ha]) (fun a _ => rfl) ?_
  simp [db_cell, hs, h2, h4, db_sa]
theorem db_wl_stl {E : db_E} {X : db_St} {k n : Nat} (h : k < 102) (hs : db_sh k = .inl (2, n)) (i : Nat) (v : Int64) : (db_wl E X).set k (db_ad E k, .inl (db_cy E 2, n, .inr (.inl (vp_updL (X.2 k) i v)))) = db_wl E (db_sl X k i v) := by
  refine db_wl_set h (fun a _ => rfl) (fun a ha => by simp [db_sl, ha]) ?_
  simp [db_cell, hs, db_sl]
-- what the tables say of links across the nest
def db_nestF : List (String × Nat × String × String × String × String) := [("DaysOnBread", 143, "DaysOnBread$RuleText", "place", "I", "DaysOnBread"), ("DaysOnBread", 131, "DaysOnBread$RuleText", "deed", "I", "DaysOnBread"), ("DaysOnBread", 134, "DaysOnBread$RuleText", "marks", "I", "DaysOnBread"), ("DaysOnBread", 137, "DaysOnBread$RuleText", "days", "I", "DaysOnBread"), ("DaysOnBread", 146, "DaysOnBread$Book", "deeds", "[I", "DaysOnBread"), ("DaysOnBread", 149, "DaysOnBread$Book", "marks", "[I", "DaysOnBread"), ("DaysOnBread$Shelf", 47, "DaysOnBread$Book", "days", "[I", "DaysOnBread"), ("DaysOnBread", 151, "DaysOnBread$Book", "days", "[I", "DaysOnBread"), ("DaysOnBread$Shelf", 28, "DaysOnBread$Book", "size", "I", "DaysOnBread"), ("DaysOnBread", 119, "DaysOnBread$Book", "size", "I", "DaysOnBread"), ("DaysOnBread$Shelf", 40, "DaysOnBread$Book", "leansOn", "I", "DaysOnBread"), ("DaysOnBread", 153, "DaysOnBread$Book", "leansOn", "I", "DaysOnBread"), ("DaysOnBread", 156, "DaysOnBread$Book", "mode", "I", "DaysOnBread"), ("DaysOnBread$Shelf", 61, "DaysOnBread$Book", "mode", "I", "DaysOnBread"), ("DaysOnBread", 115, "DaysOnBread$Shelf", "books", "[LDaysOnBread$Book;", "DaysOnBread"), ("DaysOnBread", 173, "DaysOnBread$Shelf", "doneSize", "I", "DaysOnBread"), ("DaysOnBread", 193, "DaysOnBread$Payings", "feasts", "I", "DaysOnBread"), ("DaysOnBread$Course", 22, "DaysOnBread$Payings", "friends", "I", "DaysOnBread"), ("DaysOnBread$Burden", 29, "DaysOnBread$Payings", "friends", "I", "DaysOnBread"), ("DaysOnBread", 201, "DaysOnBread$Payings", "friends", "I", "DaysOnBread"), ("DaysOnBread$Ways", 53, "DaysOnBread$Puttings", "from", "[I", "DaysOnBread"), ("DaysOnBread$Rings", 58, "DaysOnBread$Puttings", "from", "[I", "DaysOnBread"), ("DaysOnBread$Ways", 59, "DaysOnBread$Puttings", "owed", "[I", "DaysOnBread"), ("DaysOnBread$Rings", 52, "DaysOnBread$Puttings", "owed", "[I", "DaysOnBread"), ("DaysOnBread$Ways", 49, "DaysOnBread$Puttings", "to", "[I", "DaysOnBread"), ("DaysOnBread$Rings", 55, "DaysOnBread$Puttings", "to", "[I", "DaysOnBread"), ("DaysOnBread$Ways", 56, "DaysOnBread$Puttings", "instead", "[I", "DaysOnBread"), ("DaysOnBread$Rings", 48, "DaysOnBread$Puttings", "instead", "[I", "DaysOnBread"), ("DaysOnBread$Rings", 22, "DaysOnBread$Puttings", "size", "I", "DaysOnBread"), ("DaysOnBread$Ways", 39, "DaysOnBread$Puttings", "size", "I", "DaysOnBread"), ("DaysOnBread", 213, "DaysOnBread$Puttings", "size", "I", "DaysOnBread"), ("DaysOnBread", 231, "DaysOnBread$Course", "tenths", "I", "DaysOnBread"), ("DaysOnBread$RuleText", 45, "DaysOnBread", "MARK_SIGNS", "[C", "DaysOnBread")]
def db_nestM : List (String × Nat × MethodName × String) := [("DaysOnBread$Shelf", 32, ⟨"DaysOnBread", "isBook", "(I)Z"⟩, "DaysOnBread"), ("DaysOnBread$Course", 80, ⟨"DaysOnBread", "isKind", "(I)Z"⟩, "DaysOnBread")]
def db_nest (U : State) : Prop := (∀ q ∈ db_nestF, va_Nw (.fieldLinkNest q.1 q.2.1 q.2.2.1 q.2.2.2.1 q.2.2.2.2.1 q.2.2.2.2.2) U) ∧ ∀ q ∈ db_nestM, va_Nw (.methodLinkNest q.1 q.2.1 q.2.2.1 q.2.2.2) U
theorem db_nest.same {u U : State} (h : u.vm = U.vm) (hn : db_nest u) : db_nest U := ⟨fun q hq => va_Nw.same rfl h (hn.1 q hq), fun q hq => va_Nw.same rfl h (hn.2 q hq)⟩
theorem db_nest.warm {s U : State} (h : s.WarmedH U.vm) (hn : db_nest s) : db_nest U := ⟨fun q hq => va_Nw.warmF h (hn.1 q hq), fun q hq => va_Nw.warmM h (hn.2 q hq)⟩
-- the static arrays that are read
def db_fG : Nat → Value := fun j => .int (match j with | 0 => 99 | 1 => 99 | 2 => 9 | _ => 999)
def db_fM : Nat → Value := fun j => .int (match j with | 0 => 98 | 1 => 100 | 2 => 109 | _ => 114)
def db_stat (E : db_E) (A : Nat → Prop) (U : State) (H : Heap) : Prop := va_Z "DaysOnBread" "GREATEST" "[I" (.ref (db_tG E)) A U H ∧ va_T .int (db_tG E) 4 db_fG A U H ∧ va_Z "DaysOnBread" "MARK_SIGNS" "[C" (.ref (db_tM E)) A U H ∧ va_T .char (db_tM E) 4 db_fM A U H
def db_Aw (E : db_E) (sz : Nat) : Nat → Prop := fun q => (∃ k, k < 102 ∧ q = db_ad E k) ∨ sz ≤ q
def db_HU (E : db_E) (X : db_St) (U : State) : Prop := va_P (db_G E) vwCl (db_wl E X) U.heap ∧ va_K (db_G E) vwCl (db_tys E) U ∧ va_D (fun _ => True) (db_wl E X) ∧ db_nest U ∧ db_stat E (db_Aw E U.heap.size) U U.heap
def db_HW (E : db_E) (A : Nat → Prop) (s : State) (X : db_St) (H : Heap) (locs : List Loc) : Prop := va_P (db_G E) vwCl (db_wl E X) H ∧ va_K (db_G E) vwCl (db_tys E) s ∧ va_D A (db_wl E X) ∧ va_S A s.heap H locs ∧ db_nest s ∧ db_stat E A s s.heap ∧ ∀ q, s.heap.size ≤ q → A q
theorem db_D_of {E : db_E} {X X' : db_St} {A B : Nat → Prop} (h : va_D A (db_wl E X)) (hB : ∀ k, k < 102 → B (db_ad E k)) : va_D B (db_wl E X') := by
  refine ⟨fun i j p q hi hj e => ?_, fun k q hk => ?_⟩
  · obtain ⟨hi1, rfl⟩ := db_wl_of hi
    obtain ⟨hj1, rfl⟩ := db_wl_of hj
    exact h.1 i j _ _ (db_wl_at E X hi1) (db_wl_at E X hj1) e
  · obtain ⟨hk1, rfl⟩ := db_wl_of hk
    exact hB k hk1
theorem db_D_mem {E : db_E} {X : db_St} {A : Nat → Prop} (h : va_D A (db_wl E X)) {k : Nat} (hk : k < 102) : A (db_ad E k) := h.2 k _ (db_wl_at E X hk)
theorem db_start {E : db_E} {X : db_St} {s : State} (h : db_HU E X s) : db_HW E (db_Aw E s.heap.size) s X s.heap [] :=
  ⟨h.1, h.2.1, db_D_of h.2.2.1 (fun k hk => Or.inl ⟨k, hk, rfl⟩), va_S.rf, h.2.2.2.1, h.2.2.2.2, fun _ hq => Or.inr hq⟩
def db_Pre (E : db_E) (X : db_St) (sz : Nat) (av : List Value) : Array Value → State → Prop := va_Pc av (fun U => U.heap.size = sz ∧ db_HU E X U)
def db_Po (E : db_E) (X : db_St) (t : State) : Prop := va_P (db_G E) vwCl (db_wl E X) t.heap
def db_MI (l : Launch) (E : db_E) (y : MethodName) (ws : List Cond) (rm : Room) (X : db_St) (av : List Value) (Q : Int32 → db_St → Prop) : Prop := ∀ sz : Nat, Met l y ws rm (db_Pre E X sz av) (va_Qi Q (db_Po E) (db_Aw E sz)) 0 0 (db_Aw E sz)
def db_ML (l : Launch) (E : db_E) (y : MethodName) (ws : List Cond) (rm : Room) (X : db_St) (av : List Value) (Q : Int64 → db_St → Prop) : Prop := ∀ sz : Nat, Met l y ws rm (db_Pre E X sz av) (va_Ql Q (db_Po E) (db_Aw E sz)) 0 0 (db_Aw E sz)
def db_MV (l : Launch) (E : db_E) (y : MethodName) (ws : List Cond) (rm : Room) (X : db_St) (av : List Value) (Q : db_St → Prop) : Prop := ∀ sz : Nat, Met l y ws rm (db_Pre E X sz av) (va_Qv Q (db_Po E) (db_Aw E sz)) 0 0 (db_Aw E sz)
theorem db_stat.moved {E : db_E} {A : Nat → Prop} {u U : State} {H : Heap} (hvm : u.vm.Alike U.vm) (h : db_stat E A u H) : db_stat E A U H := ⟨h.1.moved hvm, h.2.1.moved hvm, h.2.2.1.moved hvm, h.2.2.2.moved hvm⟩
theorem db_stat.kept {E : db_E} {A : Nat → Prop} {U : State} {H H1 : Heap} (h : db_stat E A U H) (hq : ∀ a : Nat, a < H.size → ¬ A a → H1[a]? = H[a]?) : db_stat E A U H1 := ⟨h.1.kept hq, h.2.1.kept hq, h.2.2.1.kept hq, h.2.2.2.kept hq⟩
theorem db_stat.narrow {E : db_E} {A B : Nat → Prop} {U : State} {H : Heap} (h : db_stat E A U H) (hAB : ∀ q, B q → A q) : db_stat E B U H := ⟨h.1.narrow hAB, h.2.1.narrow hAB, h.2.2.1.narrow hAB, h.2.2.2.narrow hAB⟩
theorem db_blind {E : db_E} {X : db_St} {sz : Nat} {av : List Value} : FrameBlind (db_Pre E X sz av) := by
  intro a U g mk q
  obtain ⟨q0, q1, qP, qK, qD, qN, qS⟩ := q
  exact ⟨q0, q1, qP, va_K.moved (u := U) (U := U.calling g mk a) (Vm.Alike.refl U.vm) qK, qD, db_nest.same (u := U) (U := U.calling g mk a) rfl qN, db_stat.moved (u := U) (U := U.calling g mk a) (Vm.Alike.refl U.vm) qS⟩
theorem db_free {E : db_E} {A : Nat → Prop} {s : State} {X : db_St} {H : Heap} {locs : List Loc} (hw : db_HW E A s X H locs) : ∀ q, db_Aw E H.size q → A q := by
  intro q hq
  rcases hq with ⟨k, hk, rfl⟩ | hq
  · exact db_D_mem hw.2.2.1 hk
  · exact hw.2.2.2.2.2.2 q (Nat.le_trans hw.2.2.2.1.1 hq)
theorem db_call {E : db_E} {A : Nat → Prop} {s : State} {X : db_St} {H : Heap} {locs : List Loc} (hw : db_HW E A s X H locs) (av : List Value) : ∀ U : State, U.heap = H → s.WarmedH U.vm → db_Pre E X H.size av av.toArray U := by
  intro U hU hW
  have hf := db_free hw
  refine ⟨rfl, by rw [hU], by rw [hU]; exact hw.1, va_K.moved hW.alike hw.2.1, db_D_of hw.2.2.1 (fun _ _ => trivial), hw.2.2.2.2.1.warm hW, ?_⟩
  rw [hU]
  exact ((hw.2.2.2.2.2.1.kept hw.2.2.2.1.2.1).narrow hf).moved hW.alike
theorem db_after {E : db_E} {A : Nat → Prop} {s t : State} {X X' : db_St} {H H1 : Heap} {locs locs1 : List Loc} (hw : db_HW E A s X H locs) (ht : t.heap = H1) (hB : db_Po E X' t) (hS : va_S A s.heap H1 locs1) : db_HW E A s X' H1 locs1 := by
  refine ⟨by rw [← ht]; exact hB, hw.2.1, db_D_of hw.2.2.1 (fun k hk => db_D_mem hw.2.2.1 hk), hS, hw.2.2.2.2⟩
