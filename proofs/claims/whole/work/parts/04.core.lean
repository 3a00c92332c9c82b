/-! numbers: payloads are whole numbers; a place that needs them in range says so -/
def w32 (x : Int) : Int := (x + 2147483648) % 4294967296 - 2147483648
def w64 (x : Int) : Int := (x + 9223372036854775808) % 18446744073709551616 - 9223372036854775808
def w8 (x : Int) : Int := (x + 128) % 256 - 128
def z_in (x : Int) : Prop := -2147483648 ≤ x ∧ x < 2147483648
def z_in64 (x : Int) : Prop := -9223372036854775808 ≤ x ∧ x < 9223372036854775808
theorem w32_id {x : Int} (h : z_in x) : w32 x = x := by unfold w32; unfold z_in at h; omega
theorem w64_id {x : Int} (h : z_in64 x) : w64 x = x := by unfold w64; unfold z_in64 at h; omega
theorem w32_of (x : Int) : (Int32.ofInt x).toInt = w32 x := by
  rw [Int32.toInt_ofInt]
  unfold w32 Int.bmod
  simp only [Int32.size]
  split <;> omega
theorem w64_of (x : Int) : (Int64.ofInt x).toInt = w64 x := by
  rw [Int64.toInt_ofInt]
  unfold w64 Int.bmod
  simp only [Int64.size]
  split <;> omega
theorem z_in_w32 (x : Int) : z_in (w32 x) := by unfold z_in w32; omega
theorem z_in_w64 (x : Int) : z_in64 (w64 x) := by unfold z_in64 w64; omega
theorem z_in_toInt (x : Int32) : z_in x.toInt := by
  have h := z_in_w32 x.toInt
  have e : Int32.ofInt x.toInt = x := Int32.ofInt_toInt x
  rw [← w32_of, e] at h
  exact h
theorem z_in64_toInt (x : Int64) : z_in64 x.toInt := by
  have h := z_in_w64 x.toInt
  have e : Int64.ofInt x.toInt = x := Int64.ofInt_toInt x
  rw [← w64_of, e] at h
  exact h
theorem w32_inj {x y : Int} (h : Int32.ofInt x = Int32.ofInt y) : w32 x = w32 y := by rw [← w32_of, ← w32_of, h]
theorem i_eq {x y : Int} (hx : z_in x) (hy : z_in y) : Int32.ofInt x = Int32.ofInt y ↔ x = y := by
  constructor
  · intro h
    have := w32_inj h
    rwa [w32_id hx, w32_id hy] at this
  · intro h; rw [h]
theorem i_lt {x y : Int} (hx : z_in x) (hy : z_in y) : Int32.ofInt x < Int32.ofInt y ↔ x < y := by
  rw [Int32.lt_iff_toInt_lt, w32_of, w32_of, w32_id hx, w32_id hy]
theorem i_le {x y : Int} (hx : z_in x) (hy : z_in y) : Int32.ofInt x ≤ Int32.ofInt y ↔ x ≤ y := by
  rw [Int32.le_iff_toInt_le, w32_of, w32_of, w32_id hx, w32_id hy]
theorem l_eq {x y : Int} (hx : z_in64 x) (hy : z_in64 y) : Int64.ofInt x = Int64.ofInt y ↔ x = y := by
  constructor
  · intro h
    have h1 : w64 x = w64 y := by rw [← w64_of, ← w64_of, h]
    rwa [w64_id hx, w64_id hy] at h1
  · intro h; rw [h]
theorem l_lt {x y : Int} (hx : z_in64 x) (hy : z_in64 y) : Int64.ofInt x < Int64.ofInt y ↔ x < y := by
  rw [Int64.lt_iff_toInt_lt, w64_of, w64_of, w64_id hx, w64_id hy]
theorem i_clamp {x : Int} (h0 : 0 ≤ x) (h1 : x < 2147483648) : (Int32.ofInt x).toNatClampNeg = x.toNat := by
  show (Int32.ofInt x).toInt.toNat = x.toNat
  rw [w32_of, w32_id ⟨by omega, h1⟩]
theorem i_nneg {x : Int} (h0 : 0 ≤ x) (h1 : x < 2147483648) : ¬ Int32.ofInt x < 0 := by
  intro h
  have e : (0 : Int32) = Int32.ofInt 0 := rfl
  rw [e, i_lt ⟨by omega, h1⟩ ⟨by decide, by decide⟩] at h
  omega
/-- the operations that are no sums: by the machine's own words -/
def z_iand (x y : Int) : Int := (Int32.ofInt x &&& Int32.ofInt y).toInt
def z_ior (x y : Int) : Int := (Int32.ofInt x ||| Int32.ofInt y).toInt
def z_ixor (x y : Int) : Int := (Int32.ofInt x ^^^ Int32.ofInt y).toInt
def z_ishl (x y : Int) : Int := (Int32.ofInt x <<< (Int32.ofInt y &&& 31)).toInt
def z_ishr (x y : Int) : Int := (Int32.ofInt x >>> (Int32.ofInt y &&& 31)).toInt
def z_iushr (x y : Int) : Int := (((Int32.ofInt x).toUInt32 >>> ((Int32.ofInt y).toUInt32 &&& Int32.toUInt32 31)).toInt32).toInt
def z_idiv (x y : Int) : Int := (Int32.ofInt x / Int32.ofInt y).toInt
def z_irem (x y : Int) : Int := (Int32.ofInt x - Int32.ofInt x / Int32.ofInt y * Int32.ofInt y).toInt
def z_land (x y : Int) : Int := (Int64.ofInt x &&& Int64.ofInt y).toInt
def z_lor (x y : Int) : Int := (Int64.ofInt x ||| Int64.ofInt y).toInt
def z_lxor (x y : Int) : Int := (Int64.ofInt x ^^^ Int64.ofInt y).toInt
def z_lshl (x y : Int) : Int := (Int64.ofInt x <<< ((Int32.ofInt y).toInt64 &&& 63)).toInt
def z_lshr (x y : Int) : Int := (Int64.ofInt x >>> ((Int32.ofInt y).toInt64 &&& 63)).toInt
def z_lushr (x y : Int) : Int := (((Int64.ofInt x).toUInt64 >>> ((Int32.ofInt y).toInt64.toUInt64 &&& Int64.toUInt64 63)).toInt64).toInt
theorem o32 (x : Int32) : Int32.ofInt x.toInt = x := Int32.ofInt_toInt x
theorem o64 (x : Int64) : Int64.ofInt x.toInt = x := Int64.ofInt_toInt x
theorem w_l2i (x : Int) : (Int64.ofInt x).toInt32 = Int32.ofInt x := by
  rw [← o32 (Int64.ofInt x).toInt32, Int64.toInt_toInt32, w64_of]
  apply Int32.toInt_inj.mp
  rw [w32_of, w32_of]
  have e : ((2 ^ 32 : Nat) : Int) = 4294967296 := rfl
  simp only [w32, w64, Int.bmod, e]
  split <;> omega
theorem w_i2l {x : Int} (h : z_in x) : (Int32.ofInt x).toInt64 = Int64.ofInt x := by
  rw [← o64 (Int32.ofInt x).toInt64, Int32.toInt_toInt64, w32_of, w32_id h]
theorem w_i2b (x : Int) : (Int32.ofInt x).toInt8.toInt32 = Int32.ofInt (w8 x) := by
  apply Int32.toInt_inj.mp
  rw [Int8.toInt_toInt32, Int32.toInt_toInt8, w32_of, w32_of]
  have e : ((2 ^ 8 : Nat) : Int) = 256 := rfl
  simp only [w32, w8, Int.bmod, e]
  split <;> omega
theorem w_bool (x : Int) (h : x = 0 ∨ x = 1) : narrow .boolean (.int (Int32.ofInt x)) = .int (Int32.ofInt x) := by
  rcases h with rfl | rfl <;> decide
theorem w_boolf (x : Int) (h : x = 0 ∨ x = 1) : fits .boolean (.int (Int32.ofInt x)) = true := by
  rcases h with rfl | rfl <;> decide

/-! the abstract heap: payloads by address and place; the shape: cells made, slots made, tags, lengths; the context: the heap at the start, class numbers, slots, array classes, where the constants lie, what they hold -/
abbrev zH : Type := Int → Int → Int
abbrev zG : Type := Nat × Nat × (Int → Nat) × (Int → Int)
abbrev zD : Type := Heap × (Nat → ClassId) × (Nat → Nat → Nat) × (Nat → ClassId) × (Nat → Nat) × Int × (Int → Int)
abbrev zV : Type := Nat × Int
abbrev zM : Type := MethodName × ByteArray × Nat × Option FieldType × List (Nat × Nat × Nat × Nat)
abbrev zO : Type := Option zV ⊕ Int
def z_wr (h : zH) (a i v : Int) : zH := fun b j => if b = a ∧ j = i then v else h b j
def z_ad (D : zD) (x : Int) : Nat := if 0 ≤ x then D.1.size + x.toNat else D.2.2.2.2.1 (-x).toNat
def z_v (D : zD) (k : Nat) (x : Int) : Value := match k with
  | 0 => .int (Int32.ofInt x)
  | 1 => .long (Int64.ofInt x)
  | 2 => if x = -1 then .null else .ref (z_ad D x)
  | 3 => .int (Int32.ofInt (w8 x))
  | _ => .int (Int32.ofInt (x % 2))
/-- the classes of the cells: by tag; the tags of rows: 50 int, 51 long, 52 byte, 53 boolean, 54 Table, 55 Way, 56 State -/
abbrev zcl : List vw_C := vwCl
def z_ty (t : Nat) : Nat → FieldType := match t with
  | 0 => tyX1 | 1 => tyX2 | 2 => tyX3 | 3 => tyX4 | 4 => tyX5 | 5 => tyX7 | 6 => tyX8 | 7 => tyX9 | 8 => tyX10 | 9 => tyX11 | 10 => tyX12 | _ => tyX13
def z_ety (t : Nat) : FieldType := match t with
  | 50 => .int | 51 => .long | 52 => .byte | 53 => .boolean | 54 => .object RX4 | 55 => .object RX9 | _ => .object RX2
def z_kd (t : FieldType) : Nat := match t with
  | .int => 0 | .long => 1 | .byte => 3 | .boolean => 4 | _ => 2
def z_cell (D : zD) (t : Nat) (n : Int) (f : Int → Int) (cell : Cell) : Prop :=
  if t < 50 then ∃ r : vw_C, zcl[t]? = some r ∧ cell.cls = D.2.1 t ∧ cell.vm = .none ∧ ∀ k : Nat, k < r.2.2 → cell.slots[D.2.2.1 t k]? = some (z_v D (z_kd (z_ty t k)) (f k))
  else 0 ≤ n ∧ n < 2147483648 ∧ cell = arrV (D.2.2.2.1 t) n.toNat (fun j => z_v D (z_kd (z_ety t)) (f j))
def z_rep (D : zD) (G : zG) (h : zH) (H : Heap) : Prop := H.size = D.1.size + G.1 ∧ (∀ q : Nat, q < D.1.size → H[q]? = D.1[q]?) ∧ ∀ a : Nat, a < G.1 → ∃ cell, H[D.1.size + a]? = some cell ∧ z_cell D (G.2.2.1 a) (G.2.2.2 a) (h a) cell
def z_tys (D : zD) : List (ClassId × FieldType) := [(D.2.2.2.1 50, .int), (D.2.2.2.1 51, .long), (D.2.2.2.1 52, .byte), (D.2.2.2.1 53, .boolean), (D.2.2.2.1 54, .object RX4), (D.2.2.2.1 55, .object RX9), (D.2.2.2.1 56, .object RX2)]
/-- the static rows: class, field, descriptor, the constant's number -/
def z_sts : List (String × String × String × Nat) := [("TableWays$Text", "MARK_BYTES", "[I", 2), ("TableWays$Stepper", "FORMS", "[I", 3), ("TableWays", "LISTED", "[J", 4), ("TableWaysModel", "LISTED", "[J", 5)]
/-- the constants: 2 MARK_BYTES, 3 FORMS, 4 and 5 LISTED, 6 the script: tag, length, what they hold -/
def z_list (l : List Int) (i : Int) : Int := l.getD i.toNat 0
def z_con (D : zD) (i : Nat) : Nat × Int × (Int → Int) := match i with
  | 2 => (50, 4, z_list [45, 58, 47, 46])
  | 3 => (50, 15, z_list [0, 0, 1, 2, 1, 2, 1, 0, 1, 0, 1, 3, 1, 0, 1])
  | 4 => (51, 6, z_list [0, 97, 98, 6368610, 49, 50])
  | 5 => (51, 6, z_list [0, 97, 98, 6368610, 49, 50])
  | _ => (50, D.2.2.2.2.2.1, D.2.2.2.2.2.2)
/-- the texts: class, entry, text, number -/
def z_sk : List (String × Nat × String × Nat) := [("TableWays$WayReader", 81, "turn", 0), ("TableWays$WayReader", 83, "drop", 1), ("TableWays$WayReader", 85, "split", 2), ("TableWays$WayReader", 87, "fill", 3), ("TableWays$WayReader", 89, "join", 4), ("TableWays$WayReader", 91, "fold", 5), ("TableWays$WayReader", 93, "unfold", 6), ("TableWays$WayReader", 95, "sort", 7), ("TableWays$WayReader", 97, "single", 8), ("TableWays$WayReader", 99, "count", 9), ("TableWays$WayReader", 101, "sum", 10), ("TableWays$WayReader", 103, "keep", 11), ("TableWays$WayReader", 105, "head", 12), ("TableWays$WayReader", 107, "swap", 13), ("TableWays$WayReader", 109, "repeat", 14), ("TableWaysModel", 264, " turn drop split fill join fold unfold sort single count sum keep head swap repeat ", 15)]
def z_sl : List Nat := [4, 4, 5, 4, 4, 4, 6, 4, 6, 5, 3, 4, 4, 4, 6, 83]
def z_sb : List (List Int32) := [[116, 117, 114, 110], [100, 114, 111, 112], [115, 112, 108, 105, 116], [102, 105, 108, 108], [106, 111, 105, 110], [102, 111, 108, 100], [117, 110, 102, 111, 108, 100], [115, 111, 114, 116], [115, 105, 110, 103, 108, 101], [99, 111, 117, 110, 116], [115, 117, 109], [107, 101, 101, 112], [104, 101, 97, 100], [115, 119, 97, 112], [114, 101, 112, 101, 97, 116], [32, 116, 117, 114, 110, 32, 100, 114, 111, 112, 32, 115, 112, 108, 105, 116, 32, 102, 105, 108, 108, 32, 106, 111, 105, 110, 32, 102, 111, 108, 100, 32, 117, 110, 102, 111, 108, 100, 32, 115, 111, 114, 116, 32, 115, 105, 110, 103, 108, 101, 32, 99, 111, 117, 110, 116, 32, 115, 117, 109, 32, 107, 101, 101, 112, 32, 104, 101, 97, 100, 32, 115, 119, 97, 112, 32, 114, 101, 112, 101, 97, 116, 32]]
/-- statics of which only 'a reference or null' is told: class, field, descriptor, the constant's number -/
def z_srf : List (String × String × String × Nat) := [("jdk/internal/util/Preconditions", "SIOOBE_FORMATTER", "Ljava/util/function/BiFunction;", 50), ("java/lang/Throwable", "UNASSIGNED_STACK", "[Ljava/lang/StackTraceElement;", 51), ("java/lang/Throwable", "SUPPRESSED_SENTINEL", "Ljava/util/List;", 52)]
/-- a text's byte -/
def z_sby (i : Nat) (j : Int) : Int := ((z_sb.getD i []).getD j.toNat 0).toInt
/-- the words that move along a walk -/
def z_gw : Cond → Bool
  | .methodLinkNest .. => true
  | .arrayOver (.object _) => true
  | w => goodWord w
def zT : List Cond := lw_tbl.filter z_gw
theorem z_word {args a' : Array Value} {s U : State} (hW : s.WarmedH U.vm) {w : Cond} (hw : w ∈ zT) (h : w.before args s = true) : w.before a' U = true := by
  have hg := (List.mem_filter.mp hw).2
  cases w with
  | methodLinkNest a i x b => exact va_Nw.use rfl (va_Nw.warmM hW (va_Nw.of rfl h))
  | arrayOver ty =>
    cases ty with
    | object C => exact va_AO.use (va_AO.moved hW.alike (va_AO.of h))
    | _ => exact word_at hW (good_of_word hg) h
  | _ => exact word_at hW (good_of_word hg) h
/-- what the tables and the constants say at a state -/
def z_wd (D : zD) (U : State) : Prop := va_K (D.2.1, D.2.2.1) zcl (z_tys D) U ∧
  (∀ q ∈ z_sts, va_Z q.1 q.2.1 q.2.2.1 (.ref (D.2.2.2.2.1 q.2.2.2)) (fun a => D.1.size ≤ a) U D.1) ∧
  (∀ i : Nat, 2 ≤ i → i < 7 → 0 ≤ (z_con D i).2.1 ∧ (z_con D i).2.1 < 2147483648 ∧ va_T (z_ety (z_con D i).1) (D.2.2.2.2.1 i) (z_con D i).2.1.toNat (fun j => z_v D (z_kd (z_ety (z_con D i).1)) ((z_con D i).2.2 j)) (fun a => D.1.size ≤ a) U D.1) ∧
  vk_S 16 z_sl z_sb (fun i => D.2.2.2.2.1 (10 + i)) (fun i => D.2.2.2.2.1 (30 + i)) (fun a => D.1.size ≤ a) U D.1 ∧
  (∀ q ∈ z_sk, vk_R q.1 q.2.1 q.2.2.1 (D.2.2.2.2.1 (10 + q.2.2.2)) U) ∧
  va_Z "java/lang/String" "COMPACT_STRINGS" "Z" (.int 1) (fun a => D.1.size ≤ a) U D.1 ∧
  ∀ q ∈ z_srf, va_Z q.1 q.2.1 q.2.2.1 (if D.2.2.2.2.1 (q.2.2.2 + 10) = 0 then .null else .ref (D.2.2.2.2.1 q.2.2.2)) (fun a => D.1.size ≤ a) U D.1
theorem z_wd.moved {D : zD} {u U : State} (hW : u.WarmedH U.vm) (h : z_wd D u) : z_wd D U :=
  ⟨h.1.moved hW.alike, fun q hq => (h.2.1 q hq).moved hW.alike, fun i h1 h2 => ⟨(h.2.2.1 i h1 h2).1, (h.2.2.1 i h1 h2).2.1, (h.2.2.1 i h1 h2).2.2.moved hW.alike⟩, h.2.2.2.1.moved hW.alike, fun q hq => (h.2.2.2.2.1 q hq).warm hW, h.2.2.2.2.2.1.moved hW.alike, fun q hq => (h.2.2.2.2.2.2 q hq).moved hW.alike⟩
def z_sc (D : zD) (st : List zV) : List Value := st.map fun q => z_v D q.1 q.2
def z_lc (D : zD) (L : List (Nat × zV)) : List (Nat × Value) := L.map fun q => (q.1, z_v D q.2.1 q.2.2)
def z_out (D : zD) (o : zO) : Outcome := match o with
  | .inl none => .returned none
  | .inl (some q) => .returned (some (z_v D q.1 q.2))
  | .inr a => .threw (z_ad D a)
def z_rm (d k n : Nat) : Room := { frames := d, cells := k, slots := n, locals := 64 * d }
def z_P (D : zD) (av : List zV) (G : zG) (h : zH) : Array Value → State → Prop := fun a U => a = (z_sc D av).toArray ∧ z_wd D U ∧ z_rep D G h U.heap
def z_fe (D : zD) (o : zO) (G' : zG) (h' : zH) (k n : Nat) (st : State) (oc : Outcome) (t : State) : Prop :=
  oc = z_out D o ∧ z_rep D G' h' t.heap ∧ st.WarmedH t.vm ∧ ∃ Lw, st.sameButNew ({ t with vm := st.vm } : State) Lw k n ∧ ∀ q ∈ Lw, D.1.size ≤ q.base
def z_Q (D : zD) (o : zO) (G' : zG) (h' : zH) (k n : Nat) : Array Value → State → Outcome → State → Prop := fun _ st oc t => z_fe D o G' h' k n st oc t
/-- the method's whole run, told as a contract -/
def z_Ex (D : zD) (M : zM) (d : Nat) (av : List zV) (G : zG) (h : zH) (o : zO) (G' : zG) (h' : zH) : Prop :=
  G.1 ≤ G'.1 ∧ G.2.1 ≤ G'.2.1 ∧ ∀ l, MetFree l M.1 (headSpec zT (z_rm d (G'.1 - G.1) (G'.2.1 - G.2.1))) (z_P D av G h) (fun _ _ _ _ _ => True) (z_Q D o G' h' (G'.1 - G.1) (G'.2.1 - G.2.1))
/-- where a walk stands -/
def z_cx (D : zD) (M : zM) (d : Nat) (p : Program) (l : Launch) (e : Env) (R : Room) (s : State) (m : MethodId) (args : Array Value) (below : List Frame) (meth : Method) (c : Code) : Prop :=
  p.tables.exec = Jvm.exec ∧ c.code = M.2.1 ∧ c.maxLocals = M.2.2.1 ∧ meth.sig.returnType = M.2.2.2.1 ∧ meth.locks = false ∧ c.exceptionTable.toList.map (fun h => (h.startPc, h.endPc, h.handlerPc, h.catchType)) = M.2.2.2.2 ∧
  s.vm.findClass M.1.cls = some m.cls ∧ meth.name = M.1.name ∧ (∀ w ∈ zT, w.before args s = true) ∧ z_wd D s ∧ d ≤ R.frames ∧ 64 * d ≤ R.locals
def z_end (D : zD) (below : List Frame) (s : State) (o : zO) (G' : zG) (h' : zH) (k n : Nat) : State → Prop := fun t => ∃ oc, t.status = .running ∧ Ended t below oc ∧ z_fe D o G' h' k n s oc t
/-- from here the method comes to its end with o, in the shape G' and the heap h' -/
def z_X (D : zD) (M : zM) (d : Nat) (pc : Nat) (L : List (Nat × zV)) (st : List zV) (G : zG) (h : zH) (o : zO) (G' : zG) (h' : zH) : Prop :=
  G.1 ≤ G'.1 ∧ G.2.1 ≤ G'.2.1 ∧ ∀ p l e R s m args below meth c H locs cells slots ls,
    z_cx D M d p l e R s m args below meth c → cells + (G'.1 - G.1) ≤ R.cells → slots + (G'.2.1 - G.2.1) ≤ R.slots → (∀ q ∈ locs, D.1.size ≤ q.base) → z_rep D G h H → lv_has ls M.2.2.1 (z_lc D L) →
    W p l e R s m args below meth c H locs cells slots (z_end D below s o G' h' (cells + (G'.1 - G.1)) (slots + (G'.2.1 - G.2.1))) (F0 m pc ls (z_sc D st))
def z_F (D : zD) (M : zM) (d : Nat) (pc : Nat) (L : List (Nat × zV)) (st : List zV) (G : zG) (h : zH) (Q : zO → zG → zH → Prop) : Prop := ∃ o G' h', Q o G' h' ∧ z_X D M d pc L st G h o G' h'
def z_C (D : zD) (M : zM) (d : Nat) (av : List zV) (G : zG) (h : zH) (Q : zO → zG → zH → Prop) : Prop := ∃ o G' h', Q o G' h' ∧ z_Ex D M d av G h o G' h'
theorem z_F.mono {D : zD} {M : zM} {d pc : Nat} {L : List (Nat × zV)} {st : List zV} {G : zG} {h : zH} {Q Q' : zO → zG → zH → Prop} (k : z_F D M d pc L st G h Q) (hq : ∀ o G' h', Q o G' h' → Q' o G' h') : z_F D M d pc L st G h Q' := by
  obtain ⟨o, G', h', a, b⟩ := k
  exact ⟨o, G', h', hq _ _ _ a, b⟩
theorem z_C.mono {D : zD} {M : zM} {d : Nat} {av : List zV} {G : zG} {h : zH} {Q Q' : zO → zG → zH → Prop} (k : z_C D M d av G h Q) (hq : ∀ o G' h', Q o G' h' → Q' o G' h') : z_C D M d av G h Q' := by
  obtain ⟨o, G', h', a, b⟩ := k
  exact ⟨o, G', h', hq _ _ _ a, b⟩
section Pure
variable {D : zD} {M : zM} {d pc q : Nat} {L L' : List (Nat × zV)} {st st' : List zV} {G : zG} {h : zH} {Q : zO → zG → zH → Prop}
/-- an instruction that leaves the heap -/
theorem z_pure (hs : ∀ {p l e R s m args below meth c H locs cells slots ls Qw}, z_cx D M d p l e R s m args below meth c → z_rep D G h H → lv_has ls M.2.2.1 (z_lc D L) →
      (∀ ls', lv_has ls' M.2.2.1 (z_lc D L') → W p l e R s m args below meth c H locs cells slots Qw (F0 m q ls' (z_sc D st'))) → W p l e R s m args below meth c H locs cells slots Qw (F0 m pc ls (z_sc D st)))
    (k : z_F D M d q L' st' G h Q) : z_F D M d pc L st G h Q := by
  obtain ⟨o, G', h', hq, h1, h2, hk⟩ := k
  refine ⟨o, G', h', hq, h1, h2, ?_⟩
  intro p l e R s m args below meth c H locs cells slots ls cx hc hsl hlo hr hl
  exact hs cx hr hl fun ls' hl' => hk p l e R s m args below meth c H locs cells slots ls' cx hc hsl hlo hr hl'
theorem z_lat {ls : Array Slot} {n i : Nat} {v : zV} (hl : lv_has ls n (z_lc D L)) (j : Nat) (hj : L[j]? = some (i, v)) : ls[i]? = some (.val (z_v D v.1 v.2)) := by
  refine lv_at hl j ?_
  simp only [z_lc, List.getElem?_map, hj, Option.map_some]
end Pure
