/-! the start -/
theorem l_m1 (i : Nat) {w : Cond} (h : tables_1_1[i]? = some w) : w ∈ lw_tbl := List.mem_append_right _ (List.mem_append_left _ (List.mem_of_getElem? h))
theorem l_m2 (i : Nat) {w : Cond} (h : tables_1_2[i]? = some w) : w ∈ lw_tbl := List.mem_append_right _ (List.mem_append_right _ (List.mem_append_left _ (List.mem_of_getElem? h)))
theorem l_m3 (i : Nat) {w : Cond} (h : tables_1_3[i]? = some w) : w ∈ lw_tbl := List.mem_append_right _ (List.mem_append_right _ (List.mem_append_right _ (List.mem_append_left _ (List.mem_of_getElem? h))))
theorem l_m4 (i : Nat) {w : Cond} (h : tables_1_4[i]? = some w) : w ∈ lw_tbl := List.mem_append_right _ (List.mem_append_right _ (List.mem_append_right _ (List.mem_append_right _ (List.mem_append_left _ (List.mem_of_getElem? h)))))
theorem l_m5 (i : Nat) {w : Cond} (h : tables_1_5[i]? = some w) : w ∈ lw_tbl := List.mem_append_right _ (List.mem_append_right _ (List.mem_append_right _ (List.mem_append_right _ (List.mem_append_right _ (List.mem_append_left _ (List.mem_of_getElem? h))))))
theorem l_m6 (i : Nat) {w : Cond} (h : tables_1_6[i]? = some w) : w ∈ lw_tbl := List.mem_append_right _ (List.mem_append_right _ (List.mem_append_right _ (List.mem_append_right _ (List.mem_append_right _ (List.mem_append_right _ (List.mem_append_left _ (List.mem_of_getElem? h)))))))
theorem l_m7 (i : Nat) {w : Cond} (h : tables_1_7[i]? = some w) : w ∈ lw_tbl := List.mem_append_right _ (List.mem_append_right _ (List.mem_append_right _ (List.mem_append_right _ (List.mem_append_right _ (List.mem_append_right _ (List.mem_append_right _ (List.mem_of_getElem? h)))))))
def fl1 : List Cond := flatC (Cond.and given_1 narrow_1)
def stO : List (String × Nat) := [("TableWays$WayReader", 81), ("TableWays$WayReader", 83), ("TableWays$WayReader", 85), ("TableWays$WayReader", 87), ("TableWays$WayReader", 89), ("TableWays$WayReader", 91), ("TableWays$WayReader", 93), ("TableWays$WayReader", 95), ("TableWays$WayReader", 97), ("TableWays$WayReader", 99), ("TableWays$WayReader", 101), ("TableWays$WayReader", 103), ("TableWays$WayReader", 105), ("TableWays$WayReader", 107), ("TableWays$WayReader", 109), ("TableWaysModel", 264)]
def stT (i : Nat) : Term := .string (stO.getD i ("", 0)).1 (stO.getD i ("", 0)).2
theorem s_ex : ∀ i : Fin 16, fl1[([104, 112, 121, 132, 143, 155, 168, 184, 199, 217, 235, 252, 271, 291, 312, 336] : List Nat).getD i.val 0]? = some (Cond.exactly (stT i.val) "java/lang/String") := by decide +kernel
theorem s_co : ∀ i : Fin 16, fl1[([105, 113, 122, 133, 144, 156, 169, 185, 200, 218, 236, 253, 272, 292, 313, 337] : List Nat).getD i.val 0]? = some (Cond.eq (.field (stT i.val) "java/lang/String" "coder" "B") (.int 0)) := by decide +kernel
theorem s_ar : ∀ i : Fin 16, fl1[([106, 114, 123, 134, 145, 157, 170, 186, 201, 219, 237, 254, 273, 293, 314, 338] : List Nat).getD i.val 0]? = some (Cond.arrayOf (.field (stT i.val) "java/lang/String" "value" "[B") .byte) := by decide +kernel
theorem s_le : ∀ i : Fin 16, fl1[([107, 115, 124, 135, 146, 158, 171, 187, 202, 220, 238, 255, 274, 294, 315, 339] : List Nat).getD i.val 0]? = some (Cond.eq (.length (.field (stT i.val) "java/lang/String" "value" "[B")) (.int (Int32.ofNat (z_sl.getD i.val 0)))) := by decide +kernel
theorem s_el : ∀ i : Fin 16, ∀ j : Fin 83, j.val < z_sl.getD i.val 0 → fl1[([108, 116, 125, 136, 147, 159, 172, 188, 203, 221, 239, 256, 275, 295, 316, 340] : List Nat).getD i.val 0 + j.val]? = some (Cond.eq (.elem (.field (stT i.val) "java/lang/String" "value" "[B") (.int (Int32.ofNat j.val))) (.int ((z_sb.getD i.val []).getD j.val 0))) := by decide +kernel
theorem s_ne : ∀ i j : Fin 16, i.val ≠ j.val → fl1[(([[0, 120, 130, 140, 151, 163, 178, 192, 209, 226, 242, 260, 279, 299, 322, 423], [0, 0, 131, 141, 152, 164, 179, 193, 210, 227, 243, 261, 280, 300, 323, 424], [0, 0, 0, 142, 153, 165, 180, 194, 211, 228, 244, 262, 281, 301, 324, 425], [0, 0, 0, 0, 154, 166, 181, 195, 212, 229, 245, 263, 282, 302, 325, 426], [0, 0, 0, 0, 0, 167, 182, 196, 213, 230, 246, 264, 283, 303, 326, 427], [0, 0, 0, 0, 0, 0, 183, 197, 214, 231, 247, 265, 284, 304, 327, 428], [0, 0, 0, 0, 0, 0, 0, 198, 215, 232, 248, 266, 285, 305, 328, 429], [0, 0, 0, 0, 0, 0, 0, 0, 216, 233, 249, 267, 286, 306, 329, 430], [0, 0, 0, 0, 0, 0, 0, 0, 0, 234, 250, 268, 287, 307, 330, 431], [0, 0, 0, 0, 0, 0, 0, 0, 0, 0, 251, 269, 288, 308, 331, 432], [0, 0, 0, 0, 0, 0, 0, 0, 0, 0, 0, 270, 289, 309, 332, 433], [0, 0, 0, 0, 0, 0, 0, 0, 0, 0, 0, 0, 290, 310, 333, 434], [0, 0, 0, 0, 0, 0, 0, 0, 0, 0, 0, 0, 0, 311, 334, 435], [0, 0, 0, 0, 0, 0, 0, 0, 0, 0, 0, 0, 0, 0, 335, 436], [0, 0, 0, 0, 0, 0, 0, 0, 0, 0, 0, 0, 0, 0, 0, 437], [0, 0, 0, 0, 0, 0, 0, 0, 0, 0, 0, 0, 0, 0, 0, 0]] : List (List Nat)).getD i.val []).getD j.val 0]? = some (Cond.not (Cond.eq (stT i.val) (stT j.val))) ∨ fl1[(([[0, 120, 130, 140, 151, 163, 178, 192, 209, 226, 242, 260, 279, 299, 322, 423], [0, 0, 131, 141, 152, 164, 179, 193, 210, 227, 243, 261, 280, 300, 323, 424], [0, 0, 0, 142, 153, 165, 180, 194, 211, 228, 244, 262, 281, 301, 324, 425], [0, 0, 0, 0, 154, 166, 181, 195, 212, 229, 245, 263, 282, 302, 325, 426], [0, 0, 0, 0, 0, 167, 182, 196, 213, 230, 246, 264, 283, 303, 326, 427], [0, 0, 0, 0, 0, 0, 183, 197, 214, 231, 247, 265, 284, 304, 327, 428], [0, 0, 0, 0, 0, 0, 0, 198, 215, 232, 248, 266, 285, 305, 328, 429], [0, 0, 0, 0, 0, 0, 0, 0, 216, 233, 249, 267, 286, 306, 329, 430], [0, 0, 0, 0, 0, 0, 0, 0, 0, 234, 250, 268, 287, 307, 330, 431], [0, 0, 0, 0, 0, 0, 0, 0, 0, 0, 251, 269, 288, 308, 331, 432], [0, 0, 0, 0, 0, 0, 0, 0, 0, 0, 0, 270, 289, 309, 332, 433], [0, 0, 0, 0, 0, 0, 0, 0, 0, 0, 0, 0, 290, 310, 333, 434], [0, 0, 0, 0, 0, 0, 0, 0, 0, 0, 0, 0, 0, 311, 334, 435], [0, 0, 0, 0, 0, 0, 0, 0, 0, 0, 0, 0, 0, 0, 335, 436], [0, 0, 0, 0, 0, 0, 0, 0, 0, 0, 0, 0, 0, 0, 0, 437], [0, 0, 0, 0, 0, 0, 0, 0, 0, 0, 0, 0, 0, 0, 0, 0]] : List (List Nat)).getD j.val []).getD i.val 0]? = some (Cond.not (Cond.eq (stT j.val) (stT i.val))) := by decide +kernel
theorem s_l : (∀ i : Fin 16, z_sl.getD i.val 0 ≤ 83) := by decide +kernel
theorem s_rf : ∀ q ∈ z_sk, q.2.2.2 < 16 ∧ stT q.2.2.2 = .string q.1 q.2.1 ∧ Cond.stringRef q.1 q.2.1 q.2.2.1 ∈ lw_tbl := by
  intro q hq
  have h16 : ∀ q ∈ z_sk, q.2.2.2 < 16 ∧ stO.getD q.2.2.2 ("", 0) = (q.1, q.2.1) := by decide +kernel
  refine ⟨(h16 q hq).1, by unfold stT; rw [(h16 q hq).2], ?_⟩
  simp only [z_sk, List.mem_cons, List.not_mem_nil, or_false] at hq
  rcases hq with rfl | rfl | rfl | rfl | rfl | rfl | rfl | rfl | rfl | rfl | rfl | rfl | rfl | rfl | rfl | rfl
  · exact (l_m2 201 rfl)
  · exact (l_m2 202 rfl)
  · exact (l_m2 203 rfl)
  · exact (l_m2 204 rfl)
  · exact (l_m2 205 rfl)
  · exact (l_m2 206 rfl)
  · exact (l_m2 207 rfl)
  · exact (l_m2 208 rfl)
  · exact (l_m2 209 rfl)
  · exact (l_m2 210 rfl)
  · exact (l_m2 211 rfl)
  · exact (l_m2 212 rfl)
  · exact (l_m2 213 rfl)
  · exact (l_m2 214 rfl)
  · exact (l_m2 215 rfl)
  · exact (l_m6 79 rfl)
section Start
variable {s : State} {args : Array Value}
theorem s_str (hs : ∀ w ∈ fl1, w.before args s = true) : ∃ adK adV : Nat → Nat, vk_S 16 z_sl z_sb adK adV (fun a => s.heap.size ≤ a) s s.heap ∧ ∀ i : Nat, i < 16 → (stT i).eval args s none [] s = some (.ref (adK i)) := by
  refine vk_Sof (tm := stT) (fun i hi => ?_) (fun i hi => hs _ (List.mem_of_getElem? (s_ex ⟨i, hi⟩))) (fun i hi => hs _ (List.mem_of_getElem? (s_co ⟨i, hi⟩))) (fun i hi => hs _ (List.mem_of_getElem? (s_ar ⟨i, hi⟩))) (fun i hi => hs _ (List.mem_of_getElem? (s_le ⟨i, hi⟩))) (fun i hi j hj => ?_) (fun i j hi hj ne => ?_) (fun a h => Nat.not_le.mpr h)
  · have := s_l ⟨i, hi⟩
    have : z_sl.getD i 0 ≤ 83 := this
    omega
  · have h83 : z_sl.getD i 0 ≤ 83 := s_l ⟨i, hi⟩
    exact hs _ (List.mem_of_getElem? (s_el ⟨i, hi⟩ ⟨j, by omega⟩ hj))
  · rcases s_ne ⟨i, hi⟩ ⟨j, hj⟩ ne with h | h
    · exact Or.inl (hs _ (List.mem_of_getElem? h))
    · exact Or.inr (hs _ (List.mem_of_getElem? h))
theorem s_e2 : ∀ j : Fin 4, fl1[7 + j.val]? = some (Cond.eq (.elem (Term.static "TableWays$Text" "MARK_BYTES" "[I") (.int (Int32.ofNat j.val))) (.int (Int32.ofInt (z_list [45, 58, 47, 46] (j.val : Int))))) := by decide +kernel
theorem s_t2 (hs : ∀ w ∈ fl1, w.before args s = true) (hts : ∀ w ∈ lw_tbl, w.before args s = true) : ∃ t : Nat, va_Z "TableWays$Text" "MARK_BYTES" "[I" (.ref t) (fun a => s.heap.size ≤ a) s s.heap ∧ va_T .int t 4 (fun j => .int (Int32.ofInt (z_list [45, 58, 47, 46] (j : Int)))) (fun a => s.heap.size ≤ a) s s.heap := by
  obtain ⟨t, e, h⟩ := va_Tof (tm := (Term.static "TableWays$Text" "MARK_BYTES" "[I")) (ty := .int) (N := 4) (f := fun j => .int (Int32.ofInt (z_list [45, 58, 47, 46] (j : Int)))) (A := fun a => s.heap.size ≤ a) (by decide) (hs _ (List.mem_of_getElem? (i := 5) (by decide +kernel))) (va_eqt (hs _ (List.mem_of_getElem? (i := 6) (by decide +kernel)))) (fun j hj => va_eqt (hs _ (List.mem_of_getElem? (s_e2 ⟨j, hj⟩)))) (fun a h => Nat.not_le.mpr h)
  exact ⟨t, va_Zof (hts _ (l_m2 167 rfl)) (hts _ (l_m1 14 rfl)) e (fun a h => Nat.not_le.mpr h), h⟩
theorem s_e3 : ∀ j : Fin 15, fl1[19 + j.val]? = some (Cond.eq (.elem (Term.static "TableWays$Stepper" "FORMS" "[I") (.int (Int32.ofNat j.val))) (.int (Int32.ofInt (z_list [0, 0, 1, 2, 1, 2, 1, 0, 1, 0, 1, 3, 1, 0, 1] (j.val : Int))))) := by decide +kernel
theorem s_t3 (hs : ∀ w ∈ fl1, w.before args s = true) (hts : ∀ w ∈ lw_tbl, w.before args s = true) : ∃ t : Nat, va_Z "TableWays$Stepper" "FORMS" "[I" (.ref t) (fun a => s.heap.size ≤ a) s s.heap ∧ va_T .int t 15 (fun j => .int (Int32.ofInt (z_list [0, 0, 1, 2, 1, 2, 1, 0, 1, 0, 1, 3, 1, 0, 1] (j : Int)))) (fun a => s.heap.size ≤ a) s s.heap := by
  obtain ⟨t, e, h⟩ := va_Tof (tm := (Term.static "TableWays$Stepper" "FORMS" "[I")) (ty := .int) (N := 15) (f := fun j => .int (Int32.ofInt (z_list [0, 0, 1, 2, 1, 2, 1, 0, 1, 0, 1, 3, 1, 0, 1] (j : Int)))) (A := fun a => s.heap.size ≤ a) (by decide) (hs _ (List.mem_of_getElem? (i := 17) (by decide +kernel))) (va_eqt (hs _ (List.mem_of_getElem? (i := 18) (by decide +kernel)))) (fun j hj => va_eqt (hs _ (List.mem_of_getElem? (s_e3 ⟨j, hj⟩)))) (fun a h => Nat.not_le.mpr h)
  exact ⟨t, va_Zof (hts _ (l_m3 35 rfl)) (hts _ (l_m1 6 rfl)) e (fun a h => Nat.not_le.mpr h), h⟩
theorem s_e4 : ∀ j : Fin 6, fl1[37 + j.val]? = some (Cond.eq (.elem (Term.static "TableWays" "LISTED" "[J") (.int (Int32.ofNat j.val))) (.long (Int64.ofInt (z_list [0, 97, 98, 6368610, 49, 50] (j.val : Int))))) := by decide +kernel
theorem s_t4 (hs : ∀ w ∈ fl1, w.before args s = true) (hts : ∀ w ∈ lw_tbl, w.before args s = true) : ∃ t : Nat, va_Z "TableWays" "LISTED" "[J" (.ref t) (fun a => s.heap.size ≤ a) s s.heap ∧ va_T .long t 6 (fun j => .long (Int64.ofInt (z_list [0, 97, 98, 6368610, 49, 50] (j : Int)))) (fun a => s.heap.size ≤ a) s s.heap := by
  obtain ⟨t, e, h⟩ := va_Tof (tm := (Term.static "TableWays" "LISTED" "[J")) (ty := .long) (N := 6) (f := fun j => .long (Int64.ofInt (z_list [0, 97, 98, 6368610, 49, 50] (j : Int)))) (A := fun a => s.heap.size ≤ a) (by decide) (hs _ (List.mem_of_getElem? (i := 35) (by decide +kernel))) (va_eqt (hs _ (List.mem_of_getElem? (i := 36) (by decide +kernel)))) (fun j hj => va_eqtl (hs _ (List.mem_of_getElem? (s_e4 ⟨j, hj⟩)))) (fun a h => Nat.not_le.mpr h)
  exact ⟨t, va_Zof (hts _ (l_m5 17 rfl)) (hts _ (l_m1 1 rfl)) e (fun a h => Nat.not_le.mpr h), h⟩
theorem s_e5 : ∀ j : Fin 6, fl1[48 + j.val]? = some (Cond.eq (.elem (Term.static "TableWaysModel" "LISTED" "[J") (.int (Int32.ofNat j.val))) (.long (Int64.ofInt (z_list [0, 97, 98, 6368610, 49, 50] (j.val : Int))))) := by decide +kernel
theorem s_t5 (hs : ∀ w ∈ fl1, w.before args s = true) (hts : ∀ w ∈ lw_tbl, w.before args s = true) : ∃ t : Nat, va_Z "TableWaysModel" "LISTED" "[J" (.ref t) (fun a => s.heap.size ≤ a) s s.heap ∧ va_T .long t 6 (fun j => .long (Int64.ofInt (z_list [0, 97, 98, 6368610, 49, 50] (j : Int)))) (fun a => s.heap.size ≤ a) s s.heap := by
  obtain ⟨t, e, h⟩ := va_Tof (tm := (Term.static "TableWaysModel" "LISTED" "[J")) (ty := .long) (N := 6) (f := fun j => .long (Int64.ofInt (z_list [0, 97, 98, 6368610, 49, 50] (j : Int)))) (A := fun a => s.heap.size ≤ a) (by decide) (hs _ (List.mem_of_getElem? (i := 46) (by decide +kernel))) (va_eqt (hs _ (List.mem_of_getElem? (i := 47) (by decide +kernel)))) (fun j hj => va_eqtl (hs _ (List.mem_of_getElem? (s_e5 ⟨j, hj⟩)))) (fun a h => Nat.not_le.mpr h)
  exact ⟨t, va_Zof (hts _ (l_m7 156 rfl)) (hts _ (l_m1 10 rfl)) e (fun a h => Nat.not_le.mpr h), h⟩
theorem s_cs (hs : ∀ w ∈ fl1, w.before args s = true) (hts : ∀ w ∈ lw_tbl, w.before args s = true) : va_Z "java/lang/String" "COMPACT_STRINGS" "Z" (.int 1) (fun a => s.heap.size ≤ a) s s.heap :=
  va_Zof (hts _ (l_m2 228 rfl)) (hts _ (l_m1 16 rfl)) (va_eqi (hs _ (List.mem_of_getElem? (i := 11) (by decide +kernel)))) (fun a h => Nat.not_le.mpr h)
theorem s_r50 (hs : ∀ w ∈ fl1, w.before args s = true) (hts : ∀ w ∈ lw_tbl, w.before args s = true) : ∃ t z : Nat, va_Z "jdk/internal/util/Preconditions" "SIOOBE_FORMATTER" "Ljava/util/function/BiFunction;" (if z = 0 then .null else .ref t) (fun a => s.heap.size ≤ a) s s.heap := by
  rcases va_Zqof (A := fun a => s.heap.size ≤ a) (hts _ (l_m3 4 rfl)) (hts _ (l_m1 18 rfl)) (hs _ (List.mem_of_getElem? (i := 12) (by decide +kernel))) (fun a h => Nat.not_le.mpr h) with h | ⟨t, h⟩
  · exact ⟨0, 0, h⟩
  · exact ⟨t, 1, h⟩
theorem s_r51 (hs : ∀ w ∈ fl1, w.before args s = true) (hts : ∀ w ∈ lw_tbl, w.before args s = true) : ∃ t z : Nat, va_Z "java/lang/Throwable" "UNASSIGNED_STACK" "[Ljava/lang/StackTraceElement;" (if z = 0 then .null else .ref t) (fun a => s.heap.size ≤ a) s s.heap := by
  rcases va_Zqof (A := fun a => s.heap.size ≤ a) (hts _ (l_m5 66 rfl)) (hts _ (l_m1 11 rfl)) (hs _ (List.mem_of_getElem? (i := 43) (by decide +kernel))) (fun a h => Nat.not_le.mpr h) with h | ⟨t, h⟩
  · exact ⟨0, 0, h⟩
  · exact ⟨t, 1, h⟩
theorem s_r52 (hs : ∀ w ∈ fl1, w.before args s = true) (hts : ∀ w ∈ lw_tbl, w.before args s = true) : ∃ t z : Nat, va_Z "java/lang/Throwable" "SUPPRESSED_SENTINEL" "Ljava/util/List;" (if z = 0 then .null else .ref t) (fun a => s.heap.size ≤ a) s s.heap := by
  rcases va_Zqof (A := fun a => s.heap.size ≤ a) (hts _ (l_m5 68 rfl)) (hts _ (l_m1 11 rfl)) (hs _ (List.mem_of_getElem? (i := 44) (by decide +kernel))) (fun a h => Nat.not_le.mpr h) with h | ⟨t, h⟩
  · exact ⟨0, 0, h⟩
  · exact ⟨t, 1, h⟩
theorem s_kn (hz : ∀ w ∈ zT, w.before args s = true) : ∃ (dC : Nat → ClassId) (dI : Nat → Nat → Nat), ∀ (c : Nat) (q : vw_C), zcl[c]? = some q → u_Kn s q.1 q.2.1 q.2.2 (dC c) (dI c) := by
  have h0 : ∀ c : Nat, ∃ p : ClassId × (Nat → Nat), ∀ q : vw_C, zcl[c]? = some q → u_Kn s q.1 q.2.1 q.2.2 p.1 p.2 := by
    intro c
    match c with
    | 0 =>
      obtain ⟨a, b, h⟩ := u_known (ws := zT) (C := RX1) (T := TX1) (N := 17) hz cb0.2.2.1 (hz _ k307)
      exact ⟨(a, b), fun q e => by cases (show some (RX1, TX1, 17) = some q from e); exact h⟩
    | 1 =>
      obtain ⟨a, b, h⟩ := u_known (ws := zT) (C := RX2) (T := TX2) (N := 10) hz cb1.2.2.1 (hz _ k924)
      exact ⟨(a, b), fun q e => by cases (show some (RX2, TX2, 10) = some q from e); exact h⟩
    | 2 =>
      obtain ⟨a, b, h⟩ := u_known (ws := zT) (C := RX3) (T := TX3) (N := 6) hz cb2.2.2.1 (hz _ k261)
      exact ⟨(a, b), fun q e => by cases (show some (RX3, TX3, 6) = some q from e); exact h⟩
    | 3 =>
      obtain ⟨a, b, h⟩ := u_known (ws := zT) (C := RX4) (T := TX4) (N := 3) hz cb3.2.2.1 (hz _ k140)
      exact ⟨(a, b), fun q e => by cases (show some (RX4, TX4, 3) = some q from e); exact h⟩
    | 4 =>
      obtain ⟨a, b, h⟩ := u_known (ws := zT) (C := RX5) (T := TX5) (N := 9) hz cb4.2.2.1 (hz _ k134)
      exact ⟨(a, b), fun q e => by cases (show some (RX5, TX5, 9) = some q from e); exact h⟩
    | 5 =>
      obtain ⟨a, b, h⟩ := u_known (ws := zT) (C := RX7) (T := TX7) (N := 6) hz cb5.2.2.1 (hz _ k317)
      exact ⟨(a, b), fun q e => by cases (show some (RX7, TX7, 6) = some q from e); exact h⟩
    | 6 =>
      obtain ⟨a, b, h⟩ := u_known (ws := zT) (C := RX8) (T := TX8) (N := 3) hz cb6.2.2.1 (hz _ k286)
      exact ⟨(a, b), fun q e => by cases (show some (RX8, TX8, 3) = some q from e); exact h⟩
    | 7 =>
      obtain ⟨a, b, h⟩ := u_known (ws := zT) (C := RX9) (T := TX9) (N := 2) hz cb7.2.2.1 (hz _ k207)
      exact ⟨(a, b), fun q e => by cases (show some (RX9, TX9, 2) = some q from e); exact h⟩
    | 8 =>
      obtain ⟨a, b, h⟩ := u_known (ws := zT) (C := RX10) (T := TX10) (N := 11) hz cb8.2.2.1 (hz _ k201)
      exact ⟨(a, b), fun q e => by cases (show some (RX10, TX10, 11) = some q from e); exact h⟩
    | 9 =>
      obtain ⟨a, b, h⟩ := u_known (ws := zT) (C := RX11) (T := TX11) (N := 14) hz cb9.2.2.1 (hz _ k122)
      exact ⟨(a, b), fun q e => by cases (show some (RX11, TX11, 14) = some q from e); exact h⟩
    | 10 =>
      obtain ⟨a, b, h⟩ := u_known (ws := zT) (C := RX12) (T := TX12) (N := 6) hz cb10.2.2.1 (hz _ k1098)
      exact ⟨(a, b), fun q e => by cases (show some (RX12, TX12, 6) = some q from e); exact h⟩
    | 11 =>
      obtain ⟨a, b, h⟩ := u_known (ws := zT) (C := RX13) (T := TX13) (N := 43) hz cb11.2.2.1 (hz _ k1092)
      exact ⟨(a, b), fun q e => by cases (show some (RX13, TX13, 43) = some q from e); exact h⟩
    | k + 12 => exact ⟨(0, fun _ => 0), fun q e => by cases (show none = some q from e)⟩
  obtain ⟨f, hf⟩ := Classical.axiomOfChoice h0
  exact ⟨fun c => (f c).1, fun c => (f c).2, hf⟩
theorem s_ac {ty : FieldType} (hp : ∀ C, ty ≠ .object C) (h : (Cond.arrayClass ty).before args s = true) : ∃ cA : ClassId, ArrOfT s cA ty ∧ va_RA s cA ty := by
  obtain ⟨c, k, comp, a1, a2, a3⟩ := Cond.arrayClass_spec h
  refine ⟨c, fun n z => ⟨(fun k h => by cases h), k, a2, comp, a3⟩, ?_⟩
  cases ty with
  | object C => exact absurd rfl (hp C)
  | _ => exact a1
theorem s_ao {C : String} (h : (Cond.arrayOver (.object C)).before args s = true) : ∃ cA : ClassId, ArrOfT s cA (.object C) ∧ va_RA s cA (.object C) := by
  obtain ⟨comp, c, k, a1, a2, a3, a4, a5⟩ := Cond.arrayOver_spec h
  exact ⟨c, fun n z => ⟨(fun k h => by cases h), k, a3, comp, a4⟩, k, comp, a3, a4, a1, a5⟩
end Start
