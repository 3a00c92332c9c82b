section MLeaf
variable {D : zD} {G : zG} {h : zH} {d : Nat}
theorem a_X13_in (hd : 1 ≤ d) (x0 x2 x4 : Int) (p1 : z_in64 x0) (p2 : z_in64 x2) (p3 : z_in64 x4) : z_Ei D M_X13_in d [(1, x0), (1, x2), (1, x4)] G h (z_b (x2 ≤ x0 ∧ x0 ≤ x4)) h :=
  z_begin mo_X13_in rfl (nle rfl) (b_X13_in_0 p1 p2 (fun _ => p3) (fun c => ⟨by rw [z_b0 (by omega)], rfl, rfl⟩) (fun c c2 => ⟨by rw [z_b0 (by omega)], rfl, rfl⟩) (fun c c2 => ⟨by rw [z_b1 (by omega)], rfl, rfl⟩))
theorem a_X13_at (hd : 1 ≤ d) (x0 x1 x2 : Int) : z_Ei D M_X13_at d [(0, x0), (0, x1), (0, x2)] G h (72 * x0 + 6 * x1 + x2) h :=
  z_begin mo_X13_at rfl (nle rfl) (b_X13_at_0 ⟨rfl, rfl, rfl⟩)
theorem l_mlength : ∀ (n : Nat) (x2 x3 : Int), 0 ≤ x3 → x3 < 256 ^ n → x3 < 72057594037927936 → z_Y D M_X13_length d 4 [(2, 0, x2), (3, 1, x3)] [] G h (fun o G' h' => o = .inl (some (0, x2 + zl n x3)) ∧ G' = G ∧ h' = h)
  | 0, x2, x3, h0, h1, h2 => by
    have hx : x3 < 1 := by simpa using h1
    exact b_X13_length_4 ⟨by omega, by omega⟩ (fun c => ⟨by simp [zl], rfl, rfl⟩) (fun c => by omega)
  | n + 1, x2, x3, h0, h1, h2 => by
    have e1 : (256 : Int) ^ (n + 1) = 256 ^ n * 256 := Int.pow_succ 256 n
    refine b_X13_length_4 ⟨by omega, by omega⟩ (fun c => ⟨by rw [show x3 = 0 by omega]; simp [zl], rfl, rfl⟩) (fun c => ?_)
    have e2 : z_lshr x3 8 = x3 / 256 := z_lshr_n h0 (by omega) (by decide) (by decide)
    rw [e2]
    refine (l_mlength n (x2 + 1) (x3 / 256) (by omega) (by omega) (by omega)).mono fun o G' h' _ hh => ⟨?_, hh.2⟩
    rw [hh.1, zl, if_neg (by omega)]
    exact soe (by omega)
theorem a_X13_length (hd : 1 ≤ d) (x0 : Int) (h0 : 0 ≤ x0) (h1 : x0 < 72057594037927936) : z_Ei D M_X13_length d [(1, x0)] G h (zlen x0) h := by
  refine z_begin mo_X13_length rfl (nle rfl) (b_X13_length_0 ?_)
  refine (l_mlength 7 0 x0 h0 h1 h1).mono fun o G' h' _ hh => ⟨?_, hh.2⟩
  rw [hh.1, Int.zero_add, zlen, if_neg (by omega)]
theorem a_X13_length_any (hd : 1 ≤ d) : z_Ei D M_X13_length d [(1, -1)] G h 0 h :=
  z_begin mo_X13_length rfl (nle rfl) (b_X13_length_0 (b_X13_length_4 ⟨by omega, by omega⟩ (fun c => ⟨rfl, rfl, rfl⟩) (fun c => by omega)))
theorem a_X13_isDigit (hd : 1 ≤ d) (x0 : Int) (h0 : z_in x0) : z_Ei D M_X13_isDigit d [(0, x0)] G h (z_b (48 ≤ x0 ∧ x0 ≤ 57)) h :=
  z_begin mo_X13_isDigit rfl (nle rfl) (b_X13_isDigit_0 h0 (fun c => ⟨by rw [z_b0 (by omega)], rfl, rfl⟩) (fun c c2 => ⟨by rw [z_b0 (by omega)], rfl, rfl⟩) (fun c c2 => ⟨by rw [z_b1 (by omega)], rfl, rfl⟩))
theorem a_X13_isLetter (hd : 1 ≤ d) (x0 : Int) (h0 : z_in x0) : z_Ei D M_X13_isLetter d [(0, x0)] G h (z_b (97 ≤ x0 ∧ x0 ≤ 122)) h :=
  z_begin mo_X13_isLetter rfl (nle rfl) (b_X13_isLetter_0 h0 (fun c => ⟨by rw [z_b0 (by omega)], rfl, rfl⟩) (fun c c2 => ⟨by rw [z_b0 (by omega)], rfl, rfl⟩) (fun c c2 => ⟨by rw [z_b1 (by omega)], rfl, rfl⟩))
theorem a_X13_isMark (hd : 1 ≤ d) (x0 : Int) (h0 : z_in x0) : z_Ei D M_X13_isMark d [(0, x0)] G h (z_b (¬ zmk x0 = -1)) h := by
  refine z_begin mo_X13_isMark rfl (nle rfl) (b_X13_isMark_0 h0 (fun c => ⟨?_, rfl, rfl⟩) (fun c c2 => ⟨?_, rfl, rfl⟩) (fun c c2 c3 => ⟨?_, rfl, rfl⟩) (fun c c2 c3 c4 => ⟨?_, rfl, rfl⟩) (fun c c2 c3 c4 => ⟨?_, rfl, rfl⟩))
  · rw [z_b1 (by simp [zmk, c])]
  · rw [z_b1 (by simp [zmk, c2])]
  · rw [z_b1 (by simp [zmk, c3])]
  · rw [z_b0 (by simp [zmk, c, c2, c3, c4])]
  · rw [z_b1 (by simp [zmk, Classical.not_not.mp c4])]
theorem a_X13_markOf (hd : 1 ≤ d) (x0 : Int) (h0 : 0 ≤ x0) (h1 : x0 < 4) : z_Ei D M_X13_markOf d [(0, x0)] G h (zmb x0) h := by
  refine z_begin mo_X13_markOf rfl (nle rfl) (b_X13_markOf_0 ⟨by omega, by omega⟩ (fun c c2 c3 => ⟨?_, rfl, rfl⟩) (fun c c2 c3 => ⟨?_, rfl, rfl⟩) (fun c c2 => ⟨?_, rfl, rfl⟩) (fun c => ⟨?_, rfl, rfl⟩))
  · rw [show x0 = 3 by omega]; rfl
  · rw [show x0 = 2 by omega]; rfl
  · rw [show x0 = 1 by omega]; rfl
  · rw [show x0 = 0 by omega]; rfl
theorem a_X13_byteOf (hd : 1 ≤ d) (v n i : Int) (h0 : 0 ≤ v) (h1 : v < 72057594037927936) (h2 : 0 ≤ n - 1 - i) (h3 : n - 1 - i < 8) : z_Ei D M_X13_byteOf d [(1, v), (0, n), (0, i)] G h (v / 256 ^ (n - 1 - i).toNat % 256) h :=
  z_begin mo_X13_byteOf rfl (nle rfl) (b_X13_byteOf_0 ⟨by rw [br8 h0 h1 h2 h3], rfl, rfl⟩)
end MLeaf
