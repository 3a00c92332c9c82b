section PureRows
variable {D : zD} {M : zM} {d pc q t : Nat} {L L' : List (Nat × zV)} {st : List zV} {G : zG} {h : zH} {Q : zO → zG → zH → Prop}
theorem z_iload {i : Nat} {x : Int} (j : Nat) (hd : decode M.2.1 pc = .ok (.iload i, 2)) (hq : pc + 2 = q) (hj : L[j]? = some (i, 0, x)) (k : z_F D M d q L ((0, x) :: st) G h Q) : z_F D M d pc L st G h Q := by
  subst hq
  exact z_pure (fun cx hr hl kk => lv_iload cx.1 cx.2.1 hd (z_lat hl j hj) (kk _ hl)) k
theorem z_iload_n {i : Fin 4} {x : Int} (j : Nat) (hd : decode M.2.1 pc = .ok (.iload_n i, 1)) (hq : pc + 1 = q) (hj : L[j]? = some (i.val, 0, x)) (k : z_F D M d q L ((0, x) :: st) G h Q) : z_F D M d pc L st G h Q := by
  subst hq
  exact z_pure (fun cx hr hl kk => lv_iload_n cx.1 cx.2.1 hd rfl (z_lat hl j hj) (kk _ hl)) k
theorem z_lload {i : Nat} {x : Int} (j : Nat) (hd : decode M.2.1 pc = .ok (.lload i, 2)) (hq : pc + 2 = q) (hj : L[j]? = some (i, 1, x)) (k : z_F D M d q L ((1, x) :: st) G h Q) : z_F D M d pc L st G h Q := by
  subst hq
  exact z_pure (fun cx hr hl kk => lv_lload cx.1 cx.2.1 hd (z_lat hl j hj) (kk _ hl)) k
theorem z_lload_n {i : Fin 4} {x : Int} (j : Nat) (hd : decode M.2.1 pc = .ok (.lload_n i, 1)) (hq : pc + 1 = q) (hj : L[j]? = some (i.val, 1, x)) (k : z_F D M d q L ((1, x) :: st) G h Q) : z_F D M d pc L st G h Q := by
  subst hq
  exact z_pure (fun cx hr hl kk => lv_lload_n cx.1 cx.2.1 hd rfl (z_lat hl j hj) (kk _ hl)) k
theorem z_vnull (D : zD) {x : Int} (hx : x = -1) : z_v D 2 x = .null := by simp [z_v, hx]
theorem z_vref (D : zD) {x : Int} (hx : ¬ x = -1) : z_v D 2 x = .ref (z_ad D x) := by simp [z_v, hx]
theorem z_sc_null {x : Int} (hx : x = -1) : z_sc D ((2, x) :: st) = .null :: z_sc D st := by
  show z_v D 2 x :: _ = _
  rw [z_vnull D hx]; rfl
theorem z_sc_ref {x : Int} (hx : ¬ x = -1) : z_sc D ((2, x) :: st) = .ref (z_ad D x) :: z_sc D st := by
  show z_v D 2 x :: _ = _
  rw [z_vref D hx]; rfl
theorem z_aload {i : Nat} {x : Int} (j : Nat) (hd : decode M.2.1 pc = .ok (.aload i, 2)) (hq : pc + 2 = q) (hj : L[j]? = some (i, 2, x)) (k : z_F D M d q L ((2, x) :: st) G h Q) : z_F D M d pc L st G h Q := by
  subst hq
  refine z_pure (fun {_ _ _ _ _ _ _ _ _ _ _ _ _ _ ls _} cx hr hl kk => ?_) k
  have h1 : ls[i]? = some (.val (z_v D 2 x)) := z_lat hl j hj
  by_cases hx : x = -1
  · rw [z_vnull D hx] at h1
    exact lv_aloadN cx.1 cx.2.1 hd h1 (by have := kk _ hl; rwa [z_sc_null hx] at this)
  · rw [z_vref D hx] at h1
    exact lv_aload cx.1 cx.2.1 hd h1 (by have := kk _ hl; rwa [z_sc_ref hx] at this)
theorem z_aload_n {i : Fin 4} {x : Int} (j : Nat) (hd : decode M.2.1 pc = .ok (.aload_n i, 1)) (hq : pc + 1 = q) (hj : L[j]? = some (i.val, 2, x)) (k : z_F D M d q L ((2, x) :: st) G h Q) : z_F D M d pc L st G h Q := by
  subst hq
  refine z_pure (fun {_ _ _ _ _ _ _ _ _ _ _ _ _ _ ls _} cx hr hl kk => ?_) k
  have h1 : ls[i.val]? = some (.val (z_v D 2 x)) := z_lat hl j hj
  by_cases hx : x = -1
  · rw [z_vnull D hx] at h1
    exact lv_aload_nN cx.1 cx.2.1 hd rfl h1 (by have := kk _ hl; rwa [z_sc_null hx] at this)
  · rw [z_vref D hx] at h1
    exact lv_aload_n cx.1 cx.2.1 hd rfl h1 (by have := kk _ hl; rwa [z_sc_ref hx] at this)
def z_ins (i : Nat) (v : zV) : List (Nat × zV) → List (Nat × zV)
  | [] => [(i, v)]
  | q :: r => bif Nat.blt i q.1 then (i, v) :: q :: r else q :: z_ins i v r
def z_put (w i : Nat) (v : zV) (L : List (Nat × zV)) : List (Nat × zV) := z_ins i v (L.filter fun q => !(q.1 == i) && (!(w == 2 && q.1 == i + 1) && !(q.1 + 1 == i && q.2.1 == 1)))
theorem z_ins_mem {i : Nat} {v : zV} {x : Nat × zV} : ∀ {L : List (Nat × zV)}, x ∈ z_ins i v L → x = (i, v) ∨ x ∈ L
  | [], hx => by simp [z_ins] at hx; exact Or.inl hx
  | q :: r, hx => by
    unfold z_ins at hx
    cases hb : Nat.blt i q.1 with
    | true => simp only [hb, cond_true, List.mem_cons] at hx; simpa using hx
    | false =>
      simp only [hb, cond_false, List.mem_cons] at hx
      rcases hx with hx | hx
      · exact Or.inr (by simp [hx])
      · rcases z_ins_mem hx with h1 | h1
        · exact Or.inl h1
        · exact Or.inr (List.mem_cons_of_mem _ h1)
theorem z_cat (D : zD) (k : Nat) (x : Int) : (z_v D k x).category = 2 → k = 1 := by
  intro hc
  match k with
  | 0 => simp [z_v, Value.category] at hc
  | 1 => rfl
  | 2 => by_cases hx : x = -1 <;> simp [z_v, hx, Value.category] at hc
  | 3 => simp [z_v, Value.category] at hc
  | k + 4 => simp [z_v, Value.category] at hc
theorem z_put1 {ls : Array Slot} {n i : Nat} {v : zV} (hl : lv_has ls n ((i, z_v D v.1 v.2) :: (z_lc D L).filter (fun q => !(q.1 == i) && !(q.1 + 1 == i && q.2.category == 2)))) (hL : z_put 1 i v L = L') : lv_has ls n (z_lc D L') := by
  subst hL
  refine ⟨hl.1, hl.2.1, fun x hx => hl.2.2 x ?_⟩
  obtain ⟨y, hy, rfl⟩ := List.mem_map.mp hx
  rcases z_ins_mem hy with rfl | hy
  · exact List.mem_cons_self
  · obtain ⟨h1, h2⟩ := List.mem_filter.mp hy
    refine List.mem_cons_of_mem _ (List.mem_filter.mpr ⟨List.mem_map.mpr ⟨y, h1, rfl⟩, ?_⟩)
    have := z_cat D y.2.1 y.2.2
    simp only [Bool.and_eq_true, Bool.not_eq_true', beq_eq_false_iff_ne, Bool.and_eq_false_iff, ne_eq] at h2 ⊢
    refine ⟨h2.1, ?_⟩
    rcases h2.2.2 with h3 | h3
    · exact Or.inl h3
    · exact Or.inr fun h4 => h3 (this h4)
theorem z_put2 {ls : Array Slot} {n i : Nat} {v : zV} (hl : lv_has ls n ((i, z_v D v.1 v.2) :: (z_lc D L).filter (fun q => !(q.1 == i) && (!(q.1 == i + 1) && !(q.1 + 1 == i && q.2.category == 2))))) (hL : z_put 2 i v L = L') : lv_has ls n (z_lc D L') := by
  subst hL
  refine ⟨hl.1, hl.2.1, fun x hx => hl.2.2 x ?_⟩
  obtain ⟨y, hy, rfl⟩ := List.mem_map.mp hx
  rcases z_ins_mem hy with rfl | hy
  · exact List.mem_cons_self
  · obtain ⟨h1, h2⟩ := List.mem_filter.mp hy
    refine List.mem_cons_of_mem _ (List.mem_filter.mpr ⟨List.mem_map.mpr ⟨y, h1, rfl⟩, ?_⟩)
    have := z_cat D y.2.1 y.2.2
    simp only [Bool.and_eq_true, Bool.not_eq_true', beq_eq_false_iff_ne, Bool.and_eq_false_iff, ne_eq] at h2 ⊢
    refine ⟨h2.1, ?_, ?_⟩
    · rcases h2.2.1 with h3 | h3
      · exact absurd trivial h3
      · exact h3
    · rcases h2.2.2 with h3 | h3
      · exact Or.inl h3
      · exact Or.inr fun h4 => h3 (this h4)
theorem z_istore {i : Nat} {x : Int} (hd : decode M.2.1 pc = .ok (.istore i, 2)) (hq : pc + 2 = q) (hn : i < M.2.2.1) (hL : z_put 1 i (0, x) L = L') (k : z_F D M d q L' st G h Q) : z_F D M d pc L ((0, x) :: st) G h Q := by
  subst hq
  exact z_pure (fun cx hr hl kk => lv_istore cx.1 cx.2.1 hd hl hn rfl (fun ls' hl' => kk _ (z_put1 (v := (0, x)) hl' hL))) k
theorem z_istore_n {i : Fin 4} {x : Int} (hd : decode M.2.1 pc = .ok (.istore_n i, 1)) (hq : pc + 1 = q) (hn : i.val < M.2.2.1) (hL : z_put 1 i.val (0, x) L = L') (k : z_F D M d q L' st G h Q) : z_F D M d pc L ((0, x) :: st) G h Q := by
  subst hq
  exact z_pure (fun cx hr hl kk => lv_istore_n cx.1 cx.2.1 hd rfl hl hn rfl (fun ls' hl' => kk _ (z_put1 (v := (0, x)) hl' hL))) k
theorem z_lstore {i : Nat} {x : Int} (hd : decode M.2.1 pc = .ok (.lstore i, 2)) (hq : pc + 2 = q) (hn : i + 1 < M.2.2.1) (hL : z_put 2 i (1, x) L = L') (k : z_F D M d q L' st G h Q) : z_F D M d pc L ((1, x) :: st) G h Q := by
  subst hq
  exact z_pure (fun cx hr hl kk => lv_lstore cx.1 cx.2.1 hd hl hn rfl (fun ls' hl' => kk _ (z_put2 (v := (1, x)) hl' hL))) k
theorem z_lstore_n {i : Fin 4} {x : Int} (hd : decode M.2.1 pc = .ok (.lstore_n i, 1)) (hq : pc + 1 = q) (hn : i.val + 1 < M.2.2.1) (hL : z_put 2 i.val (1, x) L = L') (k : z_F D M d q L' st G h Q) : z_F D M d pc L ((1, x) :: st) G h Q := by
  subst hq
  exact z_pure (fun cx hr hl kk => lv_lstore_n cx.1 cx.2.1 hd rfl hl hn rfl (fun ls' hl' => kk _ (z_put2 (v := (1, x)) hl' hL))) k
theorem z_astore {i : Nat} {x : Int} (hd : decode M.2.1 pc = .ok (.astore i, 2)) (hq : pc + 2 = q) (hn : i < M.2.2.1) (hL : z_put 1 i (2, x) L = L') (k : z_F D M d q L' st G h Q) : z_F D M d pc L ((2, x) :: st) G h Q := by
  subst hq
  refine z_pure (fun cx hr hl kk => ?_) k
  by_cases hx : x = -1
  · rw [z_sc_null hx]
    exact lv_astoreN cx.1 cx.2.1 hd hl hn rfl (fun ls' hl' => kk _ (z_put1 (v := (2, x)) (by show lv_has _ _ ((_, z_v D 2 x) :: _); rw [z_vnull D hx]; exact hl') hL))
  · rw [z_sc_ref hx]
    exact lv_astore cx.1 cx.2.1 hd hl hn rfl (fun ls' hl' => kk _ (z_put1 (v := (2, x)) (by show lv_has _ _ ((_, z_v D 2 x) :: _); rw [z_vref D hx]; exact hl') hL))
theorem z_astore_n {i : Fin 4} {x : Int} (hd : decode M.2.1 pc = .ok (.astore_n i, 1)) (hq : pc + 1 = q) (hn : i.val < M.2.2.1) (hL : z_put 1 i.val (2, x) L = L') (k : z_F D M d q L' st G h Q) : z_F D M d pc L ((2, x) :: st) G h Q := by
  subst hq
  refine z_pure (fun cx hr hl kk => ?_) k
  by_cases hx : x = -1
  · rw [z_sc_null hx]
    exact lv_astore_nN cx.1 cx.2.1 hd rfl hl hn rfl (fun ls' hl' => kk _ (z_put1 (v := (2, x)) (by show lv_has _ _ ((_, z_v D 2 x) :: _); rw [z_vnull D hx]; exact hl') hL))
  · rw [z_sc_ref hx]
    exact lv_astore_n cx.1 cx.2.1 hd rfl hl hn rfl (fun ls' hl' => kk _ (z_put1 (v := (2, x)) (by show lv_has _ _ ((_, z_v D 2 x) :: _); rw [z_vref D hx]; exact hl') hL))
theorem z_iinc {i : Nat} {x n : Int} (j : Nat) (hd : decode M.2.1 pc = .ok (.iinc i n, 3)) (hq : pc + 3 = q) (hj : L[j]? = some (i, 0, x)) (hn : i < M.2.2.1) (hL : z_put 1 i (0, x + n) L = L') (k : z_F D M d q L' st G h Q) : z_F D M d pc L st G h Q := by
  subst hq
  refine z_pure (fun cx hr hl kk => ?_) k
  exact lv_iinc (k := j) (x := Int32.ofInt x) cx.1 cx.2.1 hd hl (by simp only [z_lc, List.getElem?_map, hj, Option.map_some]; rfl) (Int32.ofInt_add x n).symm hn rfl (fun ls' hl' => kk _ (z_put1 (v := (0, x + n)) hl' hL))
theorem z_sub (ks : List Nat) (hL : ks.filterMap (fun k => L[k]?) = L') (k : z_F D M d pc L' st G h Q) : z_F D M d pc L st G h Q := by
  refine z_pure (fun cx hr hl kk => kk _ ?_) k
  subst hL
  refine ⟨hl.1, hl.2.1, fun x hx => hl.2.2 x ?_⟩
  obtain ⟨y, hy, rfl⟩ := List.mem_map.mp hx
  obtain ⟨i, -, hi⟩ := List.mem_filterMap.mp hy
  exact List.mem_map.mpr ⟨y, List.mem_of_getElem? hi, rfl⟩
theorem z_iconst {n : Int} (hd : decode M.2.1 pc = .ok (.iconst n, 1)) (hq : pc + 1 = q) (k : z_F D M d q L ((0, n) :: st) G h Q) : z_F D M d pc L st G h Q := by
  subst hq
  exact z_pure (fun cx hr hl kk => lv_iconst cx.1 cx.2.1 hd rfl (kk _ hl)) k
theorem z_bipush {n : Int} (hd : decode M.2.1 pc = .ok (.bipush n, 2)) (hq : pc + 2 = q) (hn : w8 n = n) (k : z_F D M d q L ((0, n) :: st) G h Q) : z_F D M d pc L st G h Q := by
  subst hq
  refine z_pure (fun cx hr hl kk => lv_bipush cx.1 cx.2.1 hd ?_ (kk _ hl)) k
  apply Int32.toInt_inj.mp
  rw [Int8.toInt_toInt32, Int8.toInt_ofInt, w32_of]
  simp only [w32, w8, Int.bmod, Int8.size] at hn ⊢
  split <;> omega
theorem z_sipush {n : Int} (hd : decode M.2.1 pc = .ok (.sipush n, 3)) (hq : pc + 3 = q) (hn : -32768 ≤ n ∧ n < 32768) (k : z_F D M d q L ((0, n) :: st) G h Q) : z_F D M d pc L st G h Q := by
  subst hq
  refine z_pure (fun cx hr hl kk => lv_sipush cx.1 cx.2.1 hd ?_ (kk _ hl)) k
  apply Int32.toInt_inj.mp
  rw [Int16.toInt_toInt32, Int16.toInt_ofInt, w32_of]
  simp only [w32, Int.bmod, Int16.size]
  split <;> omega
theorem z_lconst0 (hd : decode M.2.1 pc = .ok (.lconst 0, 1)) (hq : pc + 1 = q) (k : z_F D M d q L ((1, 0) :: st) G h Q) : z_F D M d pc L st G h Q := by
  subst hq
  exact z_pure (fun cx hr hl kk => lv_lconst cx.1 cx.2.1 hd (v := Int64.ofInt 0) (by decide) (kk _ hl)) k
theorem z_lconst1 (hd : decode M.2.1 pc = .ok (.lconst 1, 1)) (hq : pc + 1 = q) (k : z_F D M d q L ((1, 1) :: st) G h Q) : z_F D M d pc L st G h Q := by
  subst hq
  exact z_pure (fun cx hr hl kk => lv_lconst cx.1 cx.2.1 hd (v := Int64.ofInt 1) (by decide) (kk _ hl)) k
theorem z_null (hd : decode M.2.1 pc = .ok (.aconst_null, 1)) (hq : pc + 1 = q) (k : z_F D M d q L ((2, -1) :: st) G h Q) : z_F D M d pc L st G h Q := by
  subst hq
  exact z_pure (fun cx hr hl kk => lv_null cx.1 cx.2.1 hd (kk _ hl)) k
theorem z_ldc {i : Nat} {v : Int32} {n : Int} (hm : Cond.constant M.1.cls i v ∈ zT) (hv : Int32.ofInt n = v) (hd : decode M.2.1 pc = .ok (.ldc i, 2)) (hq : pc + 2 = q) (k : z_F D M d q L ((0, n) :: st) G h Q) : z_F D M d pc L st G h Q := by
  subst hq; subst hv
  exact z_pure (fun cx hr hl kk => lv_ldc cx.1 cx.2.1 cx.2.2.2.2.2.2.1 (cx.2.2.2.2.2.2.2.2.1 _ hm) hd (kk _ hl)) k
theorem z_ldcw {i : Nat} {v : Int32} {n : Int} (hm : Cond.constant M.1.cls i v ∈ zT) (hv : Int32.ofInt n = v) (hd : decode M.2.1 pc = .ok (.ldc_w i, 3)) (hq : pc + 3 = q) (k : z_F D M d q L ((0, n) :: st) G h Q) : z_F D M d pc L st G h Q := by
  subst hq; subst hv
  exact z_pure (fun cx hr hl kk => lv_ldcw cx.1 cx.2.1 cx.2.2.2.2.2.2.1 (cx.2.2.2.2.2.2.2.2.1 _ hm) hd (kk _ hl)) k
theorem z_ldc2 {i : Nat} {v : Int64} {n : Int} (hm : Cond.constantLong M.1.cls i v ∈ zT) (hv : Int64.ofInt n = v) (hd : decode M.2.1 pc = .ok (.ldc2_w i, 3)) (hq : pc + 3 = q) (k : z_F D M d q L ((1, n) :: st) G h Q) : z_F D M d pc L st G h Q := by
  subst hq; subst hv
  exact z_pure (fun cx hr hl kk => lv_ldc2 cx.1 cx.2.1 cx.2.2.2.2.2.2.1 (cx.2.2.2.2.2.2.2.2.1 _ hm) hd (kk _ hl)) k
theorem z_iadd {x y : Int} (hd : decode M.2.1 pc = .ok (.iadd, 1)) (hq : pc + 1 = q) (k : z_F D M d q L ((0, x + y) :: st) G h Q) : z_F D M d pc L ((0, y) :: (0, x) :: st) G h Q := by
  subst hq
  exact z_pure (fun cx hr hl kk => lv_iadd cx.1 cx.2.1 hd (by rw [← Int32.ofInt_add]; exact kk _ hl)) k
theorem z_isub {x y : Int} (hd : decode M.2.1 pc = .ok (.isub, 1)) (hq : pc + 1 = q) (k : z_F D M d q L ((0, x - y) :: st) G h Q) : z_F D M d pc L ((0, y) :: (0, x) :: st) G h Q := by
  subst hq
  exact z_pure (fun cx hr hl kk => lv_isub cx.1 cx.2.1 hd (by rw [← Int32.ofInt_sub]; exact kk _ hl)) k
theorem z_imul {x y : Int} (hd : decode M.2.1 pc = .ok (.imul, 1)) (hq : pc + 1 = q) (k : z_F D M d q L ((0, x * y) :: st) G h Q) : z_F D M d pc L ((0, y) :: (0, x) :: st) G h Q := by
  subst hq
  exact z_pure (fun cx hr hl kk => lv_imul cx.1 cx.2.1 hd (by rw [← Int32.ofInt_mul]; exact kk _ hl)) k
theorem z_ladd {x y : Int} (hd : decode M.2.1 pc = .ok (.ladd, 1)) (hq : pc + 1 = q) (k : z_F D M d q L ((1, x + y) :: st) G h Q) : z_F D M d pc L ((1, y) :: (1, x) :: st) G h Q := by
  subst hq
  exact z_pure (fun cx hr hl kk => lv_ladd cx.1 cx.2.1 hd (by rw [← Int64.ofInt_add]; exact kk _ hl)) k
theorem z_lsub {x y : Int} (hd : decode M.2.1 pc = .ok (.lsub, 1)) (hq : pc + 1 = q) (k : z_F D M d q L ((1, x - y) :: st) G h Q) : z_F D M d pc L ((1, y) :: (1, x) :: st) G h Q := by
  subst hq
  exact z_pure (fun cx hr hl kk => lv_lsub cx.1 cx.2.1 hd (by rw [← Int64.ofInt_sub]; exact kk _ hl)) k
theorem z_lmul {x y : Int} (hd : decode M.2.1 pc = .ok (.lmul, 1)) (hq : pc + 1 = q) (k : z_F D M d q L ((1, x * y) :: st) G h Q) : z_F D M d pc L ((1, y) :: (1, x) :: st) G h Q := by
  subst hq
  exact z_pure (fun cx hr hl kk => lv_lmul cx.1 cx.2.1 hd (by rw [← Int64.ofInt_mul]; exact kk _ hl)) k
theorem z_r_iand {x y : Int} (hd : decode M.2.1 pc = .ok (.iand, 1)) (hq : pc + 1 = q) (k : z_F D M d q L ((0, z_iand x y) :: st) G h Q) : z_F D M d pc L ((0, y) :: (0, x) :: st) G h Q := by
  subst hq
  refine z_pure (fun cx hr hl kk => lv_iand cx.1 cx.2.1 hd ?_) k
  have := kk _ hl
  simp only [z_sc, List.map_cons, z_v, z_iand, o32] at this ⊢
  exact this
theorem z_r_ior {x y : Int} (hd : decode M.2.1 pc = .ok (.ior, 1)) (hq : pc + 1 = q) (k : z_F D M d q L ((0, z_ior x y) :: st) G h Q) : z_F D M d pc L ((0, y) :: (0, x) :: st) G h Q := by
  subst hq
  refine z_pure (fun cx hr hl kk => lv_ior cx.1 cx.2.1 hd ?_) k
  have := kk _ hl
  simp only [z_sc, List.map_cons, z_v, z_ior, o32] at this ⊢
  exact this
theorem z_r_ixor {x y : Int} (hd : decode M.2.1 pc = .ok (.ixor, 1)) (hq : pc + 1 = q) (k : z_F D M d q L ((0, z_ixor x y) :: st) G h Q) : z_F D M d pc L ((0, y) :: (0, x) :: st) G h Q := by
  subst hq
  refine z_pure (fun cx hr hl kk => lv_ixor cx.1 cx.2.1 hd ?_) k
  have := kk _ hl
  simp only [z_sc, List.map_cons, z_v, z_ixor, o32] at this ⊢
  exact this
theorem z_r_ishl {x y : Int} (hd : decode M.2.1 pc = .ok (.ishl, 1)) (hq : pc + 1 = q) (k : z_F D M d q L ((0, z_ishl x y) :: st) G h Q) : z_F D M d pc L ((0, y) :: (0, x) :: st) G h Q := by
  subst hq
  refine z_pure (fun cx hr hl kk => lv_ishl cx.1 cx.2.1 hd ?_) k
  have := kk _ hl
  simp only [z_sc, List.map_cons, z_v, z_ishl, o32] at this ⊢
  exact this
theorem z_r_ishr {x y : Int} (hd : decode M.2.1 pc = .ok (.ishr, 1)) (hq : pc + 1 = q) (k : z_F D M d q L ((0, z_ishr x y) :: st) G h Q) : z_F D M d pc L ((0, y) :: (0, x) :: st) G h Q := by
  subst hq
  refine z_pure (fun cx hr hl kk => lv_ishr cx.1 cx.2.1 hd ?_) k
  have := kk _ hl
  simp only [z_sc, List.map_cons, z_v, z_ishr, o32] at this ⊢
  exact this
theorem z_r_land {x y : Int} (hd : decode M.2.1 pc = .ok (.land, 1)) (hq : pc + 1 = q) (k : z_F D M d q L ((1, z_land x y) :: st) G h Q) : z_F D M d pc L ((1, y) :: (1, x) :: st) G h Q := by
  subst hq
  refine z_pure (fun cx hr hl kk => lv_land cx.1 cx.2.1 hd ?_) k
  have := kk _ hl
  simp only [z_sc, List.map_cons, z_v, z_land, o64] at this ⊢
  exact this
theorem z_r_lor {x y : Int} (hd : decode M.2.1 pc = .ok (.lor, 1)) (hq : pc + 1 = q) (k : z_F D M d q L ((1, z_lor x y) :: st) G h Q) : z_F D M d pc L ((1, y) :: (1, x) :: st) G h Q := by
  subst hq
  refine z_pure (fun cx hr hl kk => lv_lor cx.1 cx.2.1 hd ?_) k
  have := kk _ hl
  simp only [z_sc, List.map_cons, z_v, z_lor, o64] at this ⊢
  exact this
theorem z_r_lxor {x y : Int} (hd : decode M.2.1 pc = .ok (.lxor, 1)) (hq : pc + 1 = q) (k : z_F D M d q L ((1, z_lxor x y) :: st) G h Q) : z_F D M d pc L ((1, y) :: (1, x) :: st) G h Q := by
  subst hq
  refine z_pure (fun cx hr hl kk => lv_lxor cx.1 cx.2.1 hd ?_) k
  have := kk _ hl
  simp only [z_sc, List.map_cons, z_v, z_lxor, o64] at this ⊢
  exact this
theorem z_r_iushr {x y : Int} (hd : decode M.2.1 pc = .ok (.iushr, 1)) (hq : pc + 1 = q) (k : z_F D M d q L ((0, z_iushr x y) :: st) G h Q) : z_F D M d pc L ((0, y) :: (0, x) :: st) G h Q := by
  subst hq
  exact z_pure (fun cx hr hl kk => lv_iushr cx.1 cx.2.1 hd (v := Int32.ofInt (z_iushr x y)) (by simp only [z_iushr, o32]) (kk _ hl)) k
theorem z_r_lshl {x y : Int} (hd : decode M.2.1 pc = .ok (.lshl, 1)) (hq : pc + 1 = q) (k : z_F D M d q L ((1, z_lshl x y) :: st) G h Q) : z_F D M d pc L ((0, y) :: (1, x) :: st) G h Q := by
  subst hq
  exact z_pure (fun cx hr hl kk => lv_lshl cx.1 cx.2.1 hd (v := Int64.ofInt (z_lshl x y)) (by simp only [z_lshl, o64]) (kk _ hl)) k
theorem z_r_lshr {x y : Int} (hd : decode M.2.1 pc = .ok (.lshr, 1)) (hq : pc + 1 = q) (k : z_F D M d q L ((1, z_lshr x y) :: st) G h Q) : z_F D M d pc L ((0, y) :: (1, x) :: st) G h Q := by
  subst hq
  exact z_pure (fun cx hr hl kk => lv_lshr cx.1 cx.2.1 hd (v := Int64.ofInt (z_lshr x y)) (by simp only [z_lshr, o64]) (kk _ hl)) k
theorem z_r_lushr {x y : Int} (hd : decode M.2.1 pc = .ok (.lushr, 1)) (hq : pc + 1 = q) (k : z_F D M d q L ((1, z_lushr x y) :: st) G h Q) : z_F D M d pc L ((0, y) :: (1, x) :: st) G h Q := by
  subst hq
  exact z_pure (fun cx hr hl kk => lv_lushr cx.1 cx.2.1 hd (v := Int64.ofInt (z_lushr x y)) (by simp only [z_lushr, o64]) (kk _ hl)) k
theorem z_r_idiv {x y : Int} (hy : ¬ w32 y = 0) (hd : decode M.2.1 pc = .ok (.idiv, 1)) (hq : pc + 1 = q) (k : z_F D M d q L ((0, z_idiv x y) :: st) G h Q) : z_F D M d pc L ((0, y) :: (0, x) :: st) G h Q := by
  subst hq
  refine z_pure (fun cx hr hl kk => lv_idiv cx.1 cx.2.1 hd (fun e => hy ?_) ?_) k
  · rw [← w32_of, e]; rfl
  · have := kk _ hl
    simp only [z_sc, List.map_cons, z_v, z_idiv, o32] at this ⊢
    exact this
theorem z_r_irem {x y : Int} (hy : ¬ w32 y = 0) (hd : decode M.2.1 pc = .ok (.irem, 1)) (hq : pc + 1 = q) (k : z_F D M d q L ((0, z_irem x y) :: st) G h Q) : z_F D M d pc L ((0, y) :: (0, x) :: st) G h Q := by
  subst hq
  refine z_pure (fun cx hr hl kk => lv_irem cx.1 cx.2.1 hd (fun e => hy ?_) ?_) k
  · rw [← w32_of, e]; rfl
  · have := kk _ hl
    simp only [z_sc, List.map_cons, z_v, z_irem, o32] at this ⊢
    exact this
theorem z_i2l {x : Int} (hx : z_in x) (hd : decode M.2.1 pc = .ok (.i2l, 1)) (hq : pc + 1 = q) (k : z_F D M d q L ((1, x) :: st) G h Q) : z_F D M d pc L ((0, x) :: st) G h Q := by
  subst hq
  exact z_pure (fun cx hr hl kk => lv_i2l cx.1 cx.2.1 hd (w_i2l hx) (kk _ hl)) k
theorem z_l2i {x : Int} (hd : decode M.2.1 pc = .ok (.l2i, 1)) (hq : pc + 1 = q) (k : z_F D M d q L ((0, x) :: st) G h Q) : z_F D M d pc L ((1, x) :: st) G h Q := by
  subst hq
  exact z_pure (fun cx hr hl kk => lv_l2i cx.1 cx.2.1 hd (w_l2i x) (kk _ hl)) k
theorem z_i2b {x : Int} (hd : decode M.2.1 pc = .ok (.i2b, 1)) (hq : pc + 1 = q) (k : z_F D M d q L ((0, w8 x) :: st) G h Q) : z_F D M d pc L ((0, x) :: st) G h Q := by
  subst hq
  exact z_pure (fun cx hr hl kk => lv_i2b cx.1 cx.2.1 hd (w_i2b x) (kk _ hl)) k
theorem z_cat1 (D : zD) {k : Nat} (hk : ¬ k = 1) (x : Int) : (z_v D k x).category = 1 := by
  rcases lv_cat (z_v D k x) with h1 | h1
  · exact h1
  · exact absurd (z_cat D k x h1) hk
theorem z_dup {k : Nat} {x : Int} (hk : ¬ k = 1) (hd : decode M.2.1 pc = .ok (.dup, 1)) (hq : pc + 1 = q) (kk : z_F D M d q L ((k, x) :: (k, x) :: st) G h Q) : z_F D M d pc L ((k, x) :: st) G h Q := by
  subst hq
  exact z_pure (fun cx hr hl kk => lv_dup cx.1 cx.2.1 hd (z_cat1 D hk x) (kk _ hl)) kk
theorem z_pop {k : Nat} {x : Int} (hk : ¬ k = 1) (hd : decode M.2.1 pc = .ok (.pop, 1)) (hq : pc + 1 = q) (kk : z_F D M d q L st G h Q) : z_F D M d pc L ((k, x) :: st) G h Q := by
  subst hq
  exact z_pure (fun cx hr hl kk => lv_pop cx.1 cx.2.1 hd (z_cat1 D hk x) (kk _ hl)) kk
theorem z_dup2 {k j : Nat} {x y : Int} (hk : ¬ k = 1) (hj : ¬ j = 1) (hd : decode M.2.1 pc = .ok (.dup2, 1)) (hq : pc + 1 = q) (kk : z_F D M d q L ((k, x) :: (j, y) :: (k, x) :: (j, y) :: st) G h Q) : z_F D M d pc L ((k, x) :: (j, y) :: st) G h Q := by
  subst hq
  exact z_pure (fun cx hr hl kk => lv_dup2_11 cx.1 cx.2.1 hd (z_cat1 D hk x) (z_cat1 D hj y) (kk _ hl)) kk
theorem z_goto {off : Int} (hd : decode M.2.1 pc = .ok (.goto off, 3)) (ht : (pc : Int) + off = (t : Int)) (k : z_F D M d t L st G h Q) : z_F D M d pc L st G h Q :=
  z_pure (fun cx hr hl kk => lv_goto cx.1 cx.2.1 hd ht (kk _ hl)) k
theorem o32_0 : (0 : Int32) = Int32.ofInt 0 := rfl
theorem z_in0 : z_in 0 := ⟨by decide, by decide⟩
theorem z_icmp_eq {x y : Int} {off : Int} (hx : z_in x) (hy : z_in y) (hd : decode M.2.1 pc = .ok (.if_icmp .eq off, 3)) (ht : (pc : Int) + off = (t : Int)) (hq : pc + 3 = q) (kt : x = y → z_F D M d t L st G h Q) (kf : ¬ (x = y) → z_F D M d q L st G h Q) : z_F D M d pc L ((0, y) :: (0, x) :: st) G h Q := by
  subst hq
  by_cases c : x = y
  · exact z_pure (fun cx hr hl kk => lv_icmp_eq cx.1 cx.2.1 hd ht (fun _ => kk _ hl) (fun hn => absurd ((i_eq hx hy).mpr c) hn)) (kt c)
  · exact z_pure (fun cx hr hl kk => lv_icmp_eq cx.1 cx.2.1 hd ht (fun hn => absurd ((i_eq hx hy).mp hn) c) (fun _ => kk _ hl)) (kf c)
theorem z_icmp_ne {x y : Int} {off : Int} (hx : z_in x) (hy : z_in y) (hd : decode M.2.1 pc = .ok (.if_icmp .ne off, 3)) (ht : (pc : Int) + off = (t : Int)) (hq : pc + 3 = q) (kt : ¬ x = y → z_F D M d t L st G h Q) (kf : ¬ (¬ x = y) → z_F D M d q L st G h Q) : z_F D M d pc L ((0, y) :: (0, x) :: st) G h Q := by
  subst hq
  by_cases c : ¬ x = y
  · exact z_pure (fun cx hr hl kk => lv_icmp_ne cx.1 cx.2.1 hd ht (fun _ => kk _ hl) (fun hn => absurd ((i_eq hx hy).mp hn) c)) (kt c)
  · exact z_pure (fun cx hr hl kk => lv_icmp_ne cx.1 cx.2.1 hd ht (fun hn => absurd ((i_eq hx hy).mpr (Classical.not_not.mp c)) hn) (fun _ => kk _ hl)) (kf c)
theorem z_icmp_lt {x y : Int} {off : Int} (hx : z_in x) (hy : z_in y) (hd : decode M.2.1 pc = .ok (.if_icmp .lt off, 3)) (ht : (pc : Int) + off = (t : Int)) (hq : pc + 3 = q) (kt : x < y → z_F D M d t L st G h Q) (kf : ¬ (x < y) → z_F D M d q L st G h Q) : z_F D M d pc L ((0, y) :: (0, x) :: st) G h Q := by
  subst hq
  by_cases c : x < y
  · exact z_pure (fun cx hr hl kk => lv_icmp_lt cx.1 cx.2.1 hd ht (fun _ => kk _ hl) (fun hn => absurd ((i_lt hx hy).mpr c) hn)) (kt c)
  · exact z_pure (fun cx hr hl kk => lv_icmp_lt cx.1 cx.2.1 hd ht (fun hn => absurd ((i_lt hx hy).mp hn) c) (fun _ => kk _ hl)) (kf c)
theorem z_icmp_ge {x y : Int} {off : Int} (hx : z_in x) (hy : z_in y) (hd : decode M.2.1 pc = .ok (.if_icmp .ge off, 3)) (ht : (pc : Int) + off = (t : Int)) (hq : pc + 3 = q) (kt : y ≤ x → z_F D M d t L st G h Q) (kf : ¬ (y ≤ x) → z_F D M d q L st G h Q) : z_F D M d pc L ((0, y) :: (0, x) :: st) G h Q := by
  subst hq
  by_cases c : y ≤ x
  · exact z_pure (fun cx hr hl kk => lv_icmp_ge cx.1 cx.2.1 hd ht (fun _ => kk _ hl) (fun hn => absurd ((i_le hy hx).mpr c) hn)) (kt c)
  · exact z_pure (fun cx hr hl kk => lv_icmp_ge cx.1 cx.2.1 hd ht (fun hn => absurd ((i_le hy hx).mp hn) c) (fun _ => kk _ hl)) (kf c)
theorem z_icmp_gt {x y : Int} {off : Int} (hx : z_in x) (hy : z_in y) (hd : decode M.2.1 pc = .ok (.if_icmp .gt off, 3)) (ht : (pc : Int) + off = (t : Int)) (hq : pc + 3 = q) (kt : y < x → z_F D M d t L st G h Q) (kf : ¬ (y < x) → z_F D M d q L st G h Q) : z_F D M d pc L ((0, y) :: (0, x) :: st) G h Q := by
  subst hq
  by_cases c : y < x
  · exact z_pure (fun cx hr hl kk => lv_icmp_gt cx.1 cx.2.1 hd ht (fun _ => kk _ hl) (fun hn => absurd ((i_lt hy hx).mpr c) hn)) (kt c)
  · exact z_pure (fun cx hr hl kk => lv_icmp_gt cx.1 cx.2.1 hd ht (fun hn => absurd ((i_lt hy hx).mp hn) c) (fun _ => kk _ hl)) (kf c)
theorem z_icmp_le {x y : Int} {off : Int} (hx : z_in x) (hy : z_in y) (hd : decode M.2.1 pc = .ok (.if_icmp .le off, 3)) (ht : (pc : Int) + off = (t : Int)) (hq : pc + 3 = q) (kt : x ≤ y → z_F D M d t L st G h Q) (kf : ¬ (x ≤ y) → z_F D M d q L st G h Q) : z_F D M d pc L ((0, y) :: (0, x) :: st) G h Q := by
  subst hq
  by_cases c : x ≤ y
  · exact z_pure (fun cx hr hl kk => lv_icmp_le cx.1 cx.2.1 hd ht (fun _ => kk _ hl) (fun hn => absurd ((i_le hx hy).mpr c) hn)) (kt c)
  · exact z_pure (fun cx hr hl kk => lv_icmp_le cx.1 cx.2.1 hd ht (fun hn => absurd ((i_le hx hy).mp hn) c) (fun _ => kk _ hl)) (kf c)
theorem z_if_eq {x : Int} {off : Int} (hx : z_in x) (hd : decode M.2.1 pc = .ok (.ifCond .eq off, 3)) (ht : (pc : Int) + off = (t : Int)) (hq : pc + 3 = q) (kt : x = 0 → z_F D M d t L st G h Q) (kf : ¬ (x = 0) → z_F D M d q L st G h Q) : z_F D M d pc L ((0, x) :: st) G h Q := by
  subst hq
  by_cases c : x = 0
  · exact z_pure (fun cx hr hl kk => lv_if_eq cx.1 cx.2.1 hd ht (fun _ => kk _ hl) (fun hn => absurd ((i_eq hx z_in0).mpr c) hn)) (kt c)
  · exact z_pure (fun cx hr hl kk => lv_if_eq cx.1 cx.2.1 hd ht (fun hn => absurd ((i_eq hx z_in0).mp hn) c) (fun _ => kk _ hl)) (kf c)
theorem z_if_ne {x : Int} {off : Int} (hx : z_in x) (hd : decode M.2.1 pc = .ok (.ifCond .ne off, 3)) (ht : (pc : Int) + off = (t : Int)) (hq : pc + 3 = q) (kt : ¬ x = 0 → z_F D M d t L st G h Q) (kf : ¬ (¬ x = 0) → z_F D M d q L st G h Q) : z_F D M d pc L ((0, x) :: st) G h Q := by
  subst hq
  by_cases c : ¬ x = 0
  · exact z_pure (fun cx hr hl kk => lv_if_ne cx.1 cx.2.1 hd ht (fun _ => kk _ hl) (fun hn => absurd ((i_eq hx z_in0).mp hn) c)) (kt c)
  · exact z_pure (fun cx hr hl kk => lv_if_ne cx.1 cx.2.1 hd ht (fun hn => absurd ((i_eq hx z_in0).mpr (Classical.not_not.mp c)) hn) (fun _ => kk _ hl)) (kf c)
theorem z_if_lt {x : Int} {off : Int} (hx : z_in x) (hd : decode M.2.1 pc = .ok (.ifCond .lt off, 3)) (ht : (pc : Int) + off = (t : Int)) (hq : pc + 3 = q) (kt : x < 0 → z_F D M d t L st G h Q) (kf : ¬ (x < 0) → z_F D M d q L st G h Q) : z_F D M d pc L ((0, x) :: st) G h Q := by
  subst hq
  by_cases c : x < 0
  · exact z_pure (fun cx hr hl kk => lv_if_lt cx.1 cx.2.1 hd ht (fun _ => kk _ hl) (fun hn => absurd ((i_lt hx z_in0).mpr c) hn)) (kt c)
  · exact z_pure (fun cx hr hl kk => lv_if_lt cx.1 cx.2.1 hd ht (fun hn => absurd ((i_lt hx z_in0).mp hn) c) (fun _ => kk _ hl)) (kf c)
theorem z_if_ge {x : Int} {off : Int} (hx : z_in x) (hd : decode M.2.1 pc = .ok (.ifCond .ge off, 3)) (ht : (pc : Int) + off = (t : Int)) (hq : pc + 3 = q) (kt : 0 ≤ x → z_F D M d t L st G h Q) (kf : ¬ (0 ≤ x) → z_F D M d q L st G h Q) : z_F D M d pc L ((0, x) :: st) G h Q := by
  subst hq
  by_cases c : 0 ≤ x
  · exact z_pure (fun cx hr hl kk => lv_if_ge cx.1 cx.2.1 hd ht (fun _ => kk _ hl) (fun hn => absurd ((i_le z_in0 hx).mpr c) hn)) (kt c)
  · exact z_pure (fun cx hr hl kk => lv_if_ge cx.1 cx.2.1 hd ht (fun hn => absurd ((i_le z_in0 hx).mp hn) c) (fun _ => kk _ hl)) (kf c)
theorem z_if_gt {x : Int} {off : Int} (hx : z_in x) (hd : decode M.2.1 pc = .ok (.ifCond .gt off, 3)) (ht : (pc : Int) + off = (t : Int)) (hq : pc + 3 = q) (kt : 0 < x → z_F D M d t L st G h Q) (kf : ¬ (0 < x) → z_F D M d q L st G h Q) : z_F D M d pc L ((0, x) :: st) G h Q := by
  subst hq
  by_cases c : 0 < x
  · exact z_pure (fun cx hr hl kk => lv_if_gt cx.1 cx.2.1 hd ht (fun _ => kk _ hl) (fun hn => absurd ((i_lt z_in0 hx).mpr c) hn)) (kt c)
  · exact z_pure (fun cx hr hl kk => lv_if_gt cx.1 cx.2.1 hd ht (fun hn => absurd ((i_lt z_in0 hx).mp hn) c) (fun _ => kk _ hl)) (kf c)
theorem z_if_le {x : Int} {off : Int} (hx : z_in x) (hd : decode M.2.1 pc = .ok (.ifCond .le off, 3)) (ht : (pc : Int) + off = (t : Int)) (hq : pc + 3 = q) (kt : x ≤ 0 → z_F D M d t L st G h Q) (kf : ¬ (x ≤ 0) → z_F D M d q L st G h Q) : z_F D M d pc L ((0, x) :: st) G h Q := by
  subst hq
  by_cases c : x ≤ 0
  · exact z_pure (fun cx hr hl kk => lv_if_le cx.1 cx.2.1 hd ht (fun _ => kk _ hl) (fun hn => absurd ((i_le hx z_in0).mpr c) hn)) (kt c)
  · exact z_pure (fun cx hr hl kk => lv_if_le cx.1 cx.2.1 hd ht (fun hn => absurd ((i_le hx z_in0).mp hn) c) (fun _ => kk _ hl)) (kf c)
theorem z_ifnull {x off : Int} (hd : decode M.2.1 pc = .ok (.ifnull off, 3)) (ht : (pc : Int) + off = (t : Int)) (hq : pc + 3 = q) (kt : x = -1 → z_F D M d t L st G h Q) (kf : ¬ x = -1 → z_F D M d q L st G h Q) : z_F D M d pc L ((2, x) :: st) G h Q := by
  subst hq
  by_cases c : x = -1
  · exact z_pure (fun cx hr hl kk => by rw [z_sc_null c]; exact lv_ifnullN cx.1 cx.2.1 hd ht (kk _ hl)) (kt c)
  · exact z_pure (fun cx hr hl kk => by rw [z_sc_ref c]; exact lv_ifnull cx.1 cx.2.1 hd (kk _ hl)) (kf c)
theorem z_ifnonnull {x off : Int} (hd : decode M.2.1 pc = .ok (.ifnonnull off, 3)) (ht : (pc : Int) + off = (t : Int)) (hq : pc + 3 = q) (kt : ¬ x = -1 → z_F D M d t L st G h Q) (kf : x = -1 → z_F D M d q L st G h Q) : z_F D M d pc L ((2, x) :: st) G h Q := by
  subst hq
  by_cases c : x = -1
  · exact z_pure (fun cx hr hl kk => by rw [z_sc_null c]; exact lv_ifnonnullN cx.1 cx.2.1 hd (kk _ hl)) (kf c)
  · exact z_pure (fun cx hr hl kk => by rw [z_sc_ref c]; exact lv_ifnonnull cx.1 cx.2.1 hd ht (kk _ hl)) (kt c)
theorem z_tswOut {x dflt lo hi : Int} {offs : Array Int} {len : Nat} (hx : z_in x) (hd : decode M.2.1 pc = .ok (.tableswitch dflt lo hi offs, len)) (hc : x < lo ∨ hi < x) (ht : (pc : Int) + dflt = (t : Int)) (k : z_F D M d t L st G h Q) : z_F D M d pc L ((0, x) :: st) G h Q :=
  z_pure (fun cx hr hl kk => lv_tableOut cx.1 cx.2.1 hd (by rw [w32_of, w32_id hx]; exact hc) ht (kk _ hl)) k
theorem z_tswIn {x dflt lo hi off : Int} {offs : Array Int} {len : Nat} (n : Int) (hx : x = n) (hn : z_in n) (hd : decode M.2.1 pc = .ok (.tableswitch dflt lo hi offs, len)) (h1 : ¬ n < lo) (h2 : ¬ hi < n) (ho : offs[(n - lo).toNat]? = some off) (ht : (pc : Int) + off = (t : Int)) (k : z_F D M d t L st G h Q) : z_F D M d pc L ((0, x) :: st) G h Q := by
  subst hx
  exact z_pure (fun cx hr hl kk => lv_tableIn cx.1 cx.2.1 hd (by rw [w32_of, w32_id hn]; exact h1) (by rw [w32_of, w32_id hn]; exact h2) (by rw [w32_of, w32_id hn]; exact ho) ht (kk _ hl)) k
theorem z_lsw {x dflt off : Int} {ps : Array (Int × Int)} {len : Nat} (hx : z_in x) (hd : decode M.2.1 pc = .ok (.lookupswitch dflt ps, len)) (hp : (ps.toList.zip (ps.toList.drop 1)).all (fun (a, next) => a.1 < next.1) = true) (ho : Op.lookupswitch.offset ps.toList dflt x = off) (ht : (pc : Int) + off = (t : Int)) (k : z_F D M d t L st G h Q) : z_F D M d pc L ((0, x) :: st) G h Q :=
  z_pure (fun cx hr hl kk => lv_lookup cx.1 cx.2.1 hd hp (by rw [w32_of, w32_id hx]; exact ho) ht (kk _ hl)) k
def z_cmp (x y : Int) : Int := if x < y then -1 else if x = y then 0 else 1
theorem z_lcmp {x y : Int} (hx : z_in64 x) (hy : z_in64 y) (hd : decode M.2.1 pc = .ok (.lcmp, 1)) (hq : pc + 1 = q) (k : z_F D M d q L ((0, z_cmp x y) :: st) G h Q) : z_F D M d pc L ((1, y) :: (1, x) :: st) G h Q := by
  subst hq
  refine z_pure (fun cx hr hl kk => W.lcmp cx.1 cx.2.1 hd ?_) k
  have := kk _ hl
  have e : Int32.ofInt (z_cmp x y) = lg_cmp (Int64.ofInt x) (Int64.ofInt y) := by
    unfold z_cmp lg_cmp
    simp only [gt_iff_lt, l_lt hy hx, l_eq hx hy]
    by_cases h1 : x < y
    · simp [h1, show ¬ y < x by omega, show ¬ x = y by omega]
    · by_cases h2 : x = y
      · simp [h2]
      · simp [h1, h2, show y < x by omega]
  rw [← e]
  exact this
theorem z_cmp_in (x y : Int) : z_in (z_cmp x y) := by
  unfold z_in z_cmp
  split
  · omega
  · split <;> omega
theorem z_cmp_eq {x y : Int} : z_cmp x y = 0 ↔ x = y := by
  unfold z_cmp
  split
  · omega
  · split <;> omega
theorem z_cmp_lt {x y : Int} : z_cmp x y < 0 ↔ x < y := by
  unfold z_cmp
  split
  · omega
  · split <;> omega
theorem z_cmp_gt {x y : Int} : 0 < z_cmp x y ↔ y < x := by
  unfold z_cmp
  split
  · omega
  · split <;> omega
theorem z_cmp_ge {x y : Int} : 0 ≤ z_cmp x y ↔ y ≤ x := by
  unfold z_cmp
  split
  · omega
  · split <;> omega
theorem z_cmp_le {x y : Int} : z_cmp x y ≤ 0 ↔ x ≤ y := by
  unfold z_cmp
  split
  · omega
  · split <;> omega
theorem z_lcmp_eq {x y off : Int} {r : Nat} (hx : z_in64 x) (hy : z_in64 y) (hd0 : decode M.2.1 pc = .ok (.lcmp, 1)) (hq0 : pc + 1 = r) (hd : decode M.2.1 r = .ok (.ifCond .eq off, 3)) (ht : (r : Int) + off = (t : Int)) (hq : r + 3 = q) (kt : x = y → z_F D M d t L st G h Q) (kf : ¬ (x = y) → z_F D M d q L st G h Q) : z_F D M d pc L ((1, y) :: (1, x) :: st) G h Q :=
  z_lcmp hx hy hd0 hq0 (z_if_eq (z_cmp_in x y) hd ht hq (fun c => kt ((z_cmp_eq).mp c)) (fun c => kf (fun c' => c ((z_cmp_eq).mpr c'))))
theorem z_lcmp_ne {x y off : Int} {r : Nat} (hx : z_in64 x) (hy : z_in64 y) (hd0 : decode M.2.1 pc = .ok (.lcmp, 1)) (hq0 : pc + 1 = r) (hd : decode M.2.1 r = .ok (.ifCond .ne off, 3)) (ht : (r : Int) + off = (t : Int)) (hq : r + 3 = q) (kt : ¬ x = y → z_F D M d t L st G h Q) (kf : ¬ (¬ x = y) → z_F D M d q L st G h Q) : z_F D M d pc L ((1, y) :: (1, x) :: st) G h Q :=
  z_lcmp hx hy hd0 hq0 (z_if_ne (z_cmp_in x y) hd ht hq (fun c => kt ((not_congr z_cmp_eq).mp c)) (fun c => kf (fun c' => c ((not_congr z_cmp_eq).mpr c'))))
theorem z_lcmp_lt {x y off : Int} {r : Nat} (hx : z_in64 x) (hy : z_in64 y) (hd0 : decode M.2.1 pc = .ok (.lcmp, 1)) (hq0 : pc + 1 = r) (hd : decode M.2.1 r = .ok (.ifCond .lt off, 3)) (ht : (r : Int) + off = (t : Int)) (hq : r + 3 = q) (kt : x < y → z_F D M d t L st G h Q) (kf : ¬ (x < y) → z_F D M d q L st G h Q) : z_F D M d pc L ((1, y) :: (1, x) :: st) G h Q :=
  z_lcmp hx hy hd0 hq0 (z_if_lt (z_cmp_in x y) hd ht hq (fun c => kt ((z_cmp_lt).mp c)) (fun c => kf (fun c' => c ((z_cmp_lt).mpr c'))))
theorem z_lcmp_ge {x y off : Int} {r : Nat} (hx : z_in64 x) (hy : z_in64 y) (hd0 : decode M.2.1 pc = .ok (.lcmp, 1)) (hq0 : pc + 1 = r) (hd : decode M.2.1 r = .ok (.ifCond .ge off, 3)) (ht : (r : Int) + off = (t : Int)) (hq : r + 3 = q) (kt : y ≤ x → z_F D M d t L st G h Q) (kf : ¬ (y ≤ x) → z_F D M d q L st G h Q) : z_F D M d pc L ((1, y) :: (1, x) :: st) G h Q :=
  z_lcmp hx hy hd0 hq0 (z_if_ge (z_cmp_in x y) hd ht hq (fun c => kt ((z_cmp_ge).mp c)) (fun c => kf (fun c' => c ((z_cmp_ge).mpr c'))))
theorem z_lcmp_gt {x y off : Int} {r : Nat} (hx : z_in64 x) (hy : z_in64 y) (hd0 : decode M.2.1 pc = .ok (.lcmp, 1)) (hq0 : pc + 1 = r) (hd : decode M.2.1 r = .ok (.ifCond .gt off, 3)) (ht : (r : Int) + off = (t : Int)) (hq : r + 3 = q) (kt : y < x → z_F D M d t L st G h Q) (kf : ¬ (y < x) → z_F D M d q L st G h Q) : z_F D M d pc L ((1, y) :: (1, x) :: st) G h Q :=
  z_lcmp hx hy hd0 hq0 (z_if_gt (z_cmp_in x y) hd ht hq (fun c => kt ((z_cmp_gt).mp c)) (fun c => kf (fun c' => c ((z_cmp_gt).mpr c'))))
theorem z_lcmp_le {x y off : Int} {r : Nat} (hx : z_in64 x) (hy : z_in64 y) (hd0 : decode M.2.1 pc = .ok (.lcmp, 1)) (hq0 : pc + 1 = r) (hd : decode M.2.1 r = .ok (.ifCond .le off, 3)) (ht : (r : Int) + off = (t : Int)) (hq : r + 3 = q) (kt : x ≤ y → z_F D M d t L st G h Q) (kf : ¬ (x ≤ y) → z_F D M d q L st G h Q) : z_F D M d pc L ((1, y) :: (1, x) :: st) G h Q :=
  z_lcmp hx hy hd0 hq0 (z_if_le (z_cmp_in x y) hd ht hq (fun c => kt ((z_cmp_le).mp c)) (fun c => kf (fun c' => c ((z_cmp_le).mpr c'))))
end PureRows
