/-! texts as numbers: the shared words -/
def zl : Nat → Int → Int
  | 0, _ => 0
  | n + 1, v => if v = 0 then 0 else 1 + zl n (v / 256)
def zlen (v : Int) : Int := if v < 0 then 7 else zl 7 v
theorem zl_nn : ∀ (n : Nat) (v : Int), 0 ≤ zl n v ∧ zl n v ≤ n
  | 0, v => ⟨Int.le_refl _, Int.le_refl _⟩
  | n + 1, v => by
    unfold zl
    split
    · constructor <;> omega
    · have := zl_nn n (v / 256)
      constructor <;> omega
theorem zlen_nn (v : Int) : 0 ≤ zlen v ∧ zlen v ≤ 7 := by
  unfold zlen
  split
  · constructor <;> omega
  · exact zl_nn 7 v
theorem zlen_in (v : Int) : z_in (zlen v) := by have := zlen_nn v; exact ⟨by omega, by omega⟩
def zmk (x : Int) : Int := if x = 45 then 0 else if x = 58 then 1 else if x = 47 then 2 else if x = 46 then 3 else -1
def zmb (m : Int) : Int := if 0 ≤ m ∧ m < 4 then z_list [45, 58, 47, 46] m else 0
section Text
variable {D : zD} {G : zG} {h : zH} {d : Nat}
theorem l_lengthOf : ∀ (n : Nat) (x2 x3 : Int), x2 = 7 - n → n ≤ 7 → 0 ≤ x3 → x3 < 72057594037927936 → z_Y D M_X6_lengthOf d 4 [(2, 0, x2), (3, 1, x3)] [] G h (fun o G' h' => o = .inl (some (0, x2 + zl n x3)) ∧ G' = G ∧ h' = h)
  | 0, x2, x3, e, hn, h0, h1 => by
    refine b_X6_lengthOf_4 ⟨by omega, by omega⟩ (fun _ => ⟨by omega, by omega⟩) (fun _ => ⟨by simp [zl], rfl, rfl⟩) (fun _ _ => ⟨by simp [zl], rfl, rfl⟩) (fun c1 c2 => by omega)
  | n + 1, x2, x3, e, hn, h0, h1 => by
    refine b_X6_lengthOf_4 ⟨by omega, by omega⟩ (fun _ => ⟨by omega, by omega⟩) (fun c => ⟨by simp [zl, c], rfl, rfl⟩) (fun c1 c2 => by omega) (fun c1 c2 => ?_)
    have e2 : z_lushr x3 8 = x3 / 256 := z_lushr_n h0 (by omega) (by decide) (by decide)
    rw [e2]
    refine (l_lengthOf n (x2 + 1) (x3 / 256) (by omega) (by omega) (by omega) (by omega)).mono fun o G' h' _ hh => ?_
    refine ⟨?_, hh.2⟩
    rw [hh.1]
    simp only [zl, if_neg c1]
    rw [show x2 + 1 + zl n (x3 / 256) = x2 + (1 + zl n (x3 / 256)) by omega]
theorem a_X6_lengthOf (hd : 1 ≤ d) (x0 : Int) (h0 : -1 ≤ x0) (h1 : x0 < 72057594037927936) : z_Ei D M_X6_lengthOf d [(1, x0)] G h (zlen x0) h := by
  refine z_begin mo_X6_lengthOf rfl (nle rfl) (b_X6_lengthOf_0 ?_)
  by_cases hx : x0 < 0
  · have e : x0 = -1 := by omega
    subst e
    refine b_X6_lengthOf_4 ⟨by omega, by omega⟩ (fun _ => ⟨by omega, by omega⟩) (fun c => by omega) (fun c1 c2 => by omega) (fun c1 c2 => ?_)
    have e2 : z_lushr (-1) 8 = 72057594037927935 := by decide +kernel
    rw [e2]
    refine (l_lengthOf 6 (0 + 1) 72057594037927935 rfl (by decide) (by omega) (by omega)).mono fun o G' h' _ hh => ?_
    refine ⟨?_, hh.2⟩
    rw [hh.1]
    rfl
  · refine (l_lengthOf 7 0 x0 rfl (by decide) (by omega) h1).mono fun o G' h' _ hh => ?_
    refine ⟨?_, hh.2⟩
    rw [hh.1, Int.zero_add, zlen, if_neg hx]
theorem a_X6_isDigit (hd : 1 ≤ d) (x0 : Int) (h0 : z_in x0) : z_Ei D M_X6_isDigit d [(0, x0)] G h (z_b (48 ≤ x0 ∧ x0 ≤ 57)) h := by
  refine z_begin mo_X6_isDigit rfl (nle rfl) (b_X6_isDigit_0 h0 (fun c => ?_) (fun c c2 => ?_) (fun c c2 => ?_))
  · exact ⟨by rw [z_b0 (by omega)], rfl, rfl⟩
  · exact ⟨by rw [z_b0 (by omega)], rfl, rfl⟩
  · exact ⟨by rw [z_b1 (by omega)], rfl, rfl⟩
theorem a_X6_isLetter (hd : 1 ≤ d) (x0 : Int) (h0 : z_in x0) : z_Ei D M_X6_isLetter d [(0, x0)] G h (z_b (97 ≤ x0 ∧ x0 ≤ 122)) h := by
  refine z_begin mo_X6_isLetter rfl (nle rfl) (b_X6_isLetter_0 h0 (fun c => ?_) (fun c c2 => ?_) (fun c c2 => ?_))
  · exact ⟨by rw [z_b0 (by omega)], rfl, rfl⟩
  · exact ⟨by rw [z_b0 (by omega)], rfl, rfl⟩
  · exact ⟨by rw [z_b1 (by omega)], rfl, rfl⟩
theorem a_X6_byteOfMark (hd : 1 ≤ d) (x0 : Int) (h0 : z_in x0) : z_Ei D M_X6_byteOfMark d [(0, x0)] G h (zmb x0) h := by
  refine z_begin mo_X6_byteOfMark rfl (nle rfl) (b_X6_byteOfMark_0 h0 (fun _ _ => by omega) (fun _ _ => by omega) (fun c => ?_) (fun c c2 => ?_) (fun c c2 => ?_))
  · exact ⟨by rw [zmb, if_neg (by omega)], rfl, rfl⟩
  · exact ⟨by rw [zmb, if_neg (by omega)], rfl, rfl⟩
  · exact ⟨by rw [zmb, if_pos (by omega)], rfl, rfl⟩
theorem a_X6_markOf (hd : 1 ≤ d) (x0 : Int) (h0 : z_in x0) : z_Ei D M_X6_markOf d [(0, x0)] G h (zmk x0) h := by
  refine z_begin mo_X6_markOf rfl (nle rfl) (b_X6_markOf_0 ?_)
  have q0 : z_list [45, 58, 47, 46] 0 = 45 := rfl
  have q1 : z_list [45, 58, 47, 46] 1 = 58 := rfl
  have q2 : z_list [45, 58, 47, 46] 2 = 47 := rfl
  have q3 : z_list [45, 58, 47, 46] 3 = 46 := rfl
  refine b_X6_markOf_2 ⟨by omega, by omega⟩ (fun _ => by omega) (fun _ => by omega) (fun _ => by rw [q0]; exact ⟨by omega, by omega⟩) (fun _ => h0) (fun c => by omega) (fun c1 c2 => ?_) (fun c1 c2 => ⟨by rw [q0] at c2; simp [zmk, show x0 = 45 by omega], rfl, rfl⟩)
  refine b_X6_markOf_2 ⟨by omega, by omega⟩ (fun _ => by omega) (fun _ => by omega) (fun _ => by show z_in (z_list [45, 58, 47, 46] 1); rw [q1]; exact ⟨by omega, by omega⟩) (fun _ => h0) (fun c => by omega) (fun c3 c4 => ?_) (fun c3 c4 => ⟨by have : z_list [45, 58, 47, 46] (0 + 1) = 58 := rfl; rw [this] at c4; simp [zmk, show x0 = 58 by omega], rfl, rfl⟩)
  refine b_X6_markOf_2 ⟨by omega, by omega⟩ (fun _ => by omega) (fun _ => by omega) (fun _ => by show z_in (z_list [45, 58, 47, 46] 2); rw [q2]; exact ⟨by omega, by omega⟩) (fun _ => h0) (fun c => by omega) (fun c5 c6 => ?_) (fun c5 c6 => ⟨by have : z_list [45, 58, 47, 46] (0 + 1 + 1) = 47 := rfl; rw [this] at c6; simp [zmk, show x0 = 47 by omega], rfl, rfl⟩)
  refine b_X6_markOf_2 ⟨by omega, by omega⟩ (fun _ => by omega) (fun _ => by omega) (fun _ => by show z_in (z_list [45, 58, 47, 46] 3); rw [q3]; exact ⟨by omega, by omega⟩) (fun _ => h0) (fun c => by omega) (fun c7 c8 => ?_) (fun c7 c8 => ⟨by have : z_list [45, 58, 47, 46] (0 + 1 + 1 + 1) = 46 := rfl; rw [this] at c8; simp [zmk, show x0 = 46 by omega], rfl, rfl⟩)
  refine b_X6_markOf_2 ⟨by omega, by omega⟩ (fun c => by omega) (fun c => by omega) (fun c => by omega) (fun _ => h0) (fun c => ⟨?_, rfl, rfl⟩) (fun c9 _ => by omega) (fun c9 _ => by omega)
  have w1 : z_list [45, 58, 47, 46] (0 + 1) = 58 := rfl
  have w2 : z_list [45, 58, 47, 46] (0 + 1 + 1) = 47 := rfl
  have w3 : z_list [45, 58, 47, 46] (0 + 1 + 1 + 1) = 46 := rfl
  rw [q0] at c2; rw [w1] at c4; rw [w2] at c6; rw [w3] at c8
  simp [zmk, Ne.symm c2, Ne.symm c4, Ne.symm c6, Ne.symm c8]
/-! a STEP in one int -/
def zco (n a b : Int) : Int := n * 64 + a * 8 + b
theorem zco_b {n a b : Int} (ha : 0 ≤ a ∧ a < 8) (hb : 0 ≤ b ∧ b < 8) : zco n a b / 64 = n ∧ zco n a b / 8 % 8 = a ∧ zco n a b % 8 = b := by
  unfold zco; omega
theorem a_X0_of (hd : 1 ≤ d) (x0 x1 x2 : Int) (h0 : 0 ≤ x0 ∧ x0 < 16) (h1 : 0 ≤ x1 ∧ x1 < 8) (h2 : 0 ≤ x2 ∧ x2 < 8) : z_Ei D M_X0_of d [(0, x0), (0, x1), (0, x2)] G h (zco x0 x1 x2) h := by
  refine z_begin mo_X0_of rfl (nle rfl) (b_X0_of_0 ⟨?_, rfl, rfl⟩)
  have p6 : (2 : Int) ^ (6 : Nat) = 64 := by decide
  have p3 : (2 : Int) ^ (3 : Nat) = 8 := by decide
  have e1 : z_ishl x0 6 = x0 * 2 ^ 6 := z_ishl_n h0.1 (by decide) (by decide) (by show x0 * 2 ^ 6 < _; omega)
  have e2 : z_ishl x1 3 = x1 * 8 := by
    have := z_ishl_n (x := x1) (y := 3) h1.1 (by decide) (by decide) (by show x1 * 2 ^ 3 < _; omega)
    rw [this]; rfl
  have e3 : z_ior (x0 * 2 ^ 6) (x1 * 8) = x0 * 2 ^ 6 + x1 * 8 := z_ior_add 6 h0.1 (by omega) (by omega) (by omega)
  have e4 : x0 * 2 ^ 6 + x1 * 8 = (x0 * 8 + x1) * 2 ^ 3 := by omega
  have e5 : z_ior ((x0 * 8 + x1) * 2 ^ 3) x2 = (x0 * 8 + x1) * 2 ^ 3 + x2 := z_ior_add 3 (by omega) h2.1 (by omega) (by omega)
  rw [e1, e2, e3, e4, e5]
  unfold zco
  congr 4
  omega
theorem a_X0_number (hd : 1 ≤ d) (x0 : Int) (h0 : z_in x0) : z_Ei D M_X0_number d [(0, x0)] G h (x0 / 64) h := by
  refine z_begin mo_X0_number rfl (nle rfl) (b_X0_number_0 ⟨?_, rfl, rfl⟩)
  rw [z_ishr_n h0 (by decide) (by decide)]; rfl
theorem a_X0_a (hd : 1 ≤ d) (x0 : Int) (h0 : z_in x0) : z_Ei D M_X0_a d [(0, x0)] G h (x0 / 8 % 8) h := by
  refine z_begin mo_X0_a rfl (nle rfl) (b_X0_a_0 ⟨?_, rfl, rfl⟩)
  rw [z_ishr_n h0 (by decide) (by decide), z_iand7]; rfl
theorem a_X0_b (hd : 1 ≤ d) (x0 : Int) : z_Ei D M_X0_b d [(0, x0)] G h (x0 % 8) h := by
  refine z_begin mo_X0_b rfl (nle rfl) (b_X0_b_0 ⟨?_, rfl, rfl⟩)
  rw [z_iand7]
end Text
