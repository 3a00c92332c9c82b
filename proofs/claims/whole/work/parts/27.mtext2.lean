section MText
variable {D : zD} {G : zG} {h : zH} {d : Nat}
theorem l_mnum (hd : 2 ≤ d) (x0 : Int) (h0 : 0 ≤ x0) (h1 : x0 < 72057594037927936) (c1 : 1 ≤ zlen x0) (c2 : zlen x0 ≤ 6) : ∀ (n : Nat) (x4 : Int), x4 = zlen x0 - n → 0 ≤ x4 → (∀ i : Nat, zlen x0 - x4 ≤ i → i < (zlen x0).toNat → 48 ≤ x0 / 256 ^ i % 256 ∧ x0 / 256 ^ i % 256 ≤ 57) →
    z_Y D M_X13_isNumber d 26 [(0, 1, x0), (2, 0, zlen x0), (3, 0, 1), (4, 0, x4)] [] G h (fun o G' h' => o = .inl (some (0, z_b (znum x0))) ∧ G' = G ∧ h' = h)
  | 0, x4, e, hx, hall => by
    refine b_X13_isNumber_26 hd ⟨by omega, by omega⟩ (zlen_in x0) (fun _ => Or.inr rfl) (fun c => by omega) (fun c => by omega) (fun c => by omega) (fun c => by omega) (fun c => by omega) (fun c => by omega) (fun c => by omega) (fun c => ⟨by rw [z_b1 ⟨c1, c2, fun i hi => hall i (by omega) hi⟩], rfl, rfl⟩) (fun c => by omega) (fun c => by omega) (fun c => by omega)
  | n + 1, x4, e, hx, hall => by
    refine b_X13_isNumber_26 hd ⟨by omega, by omega⟩ (zlen_in x0) (fun _ => Or.inr rfl) (fun c => ⟨by omega, by omega⟩) (fun c c' => by omega) (fun _ _ => h0) (fun _ _ => h1) (fun _ _ => by omega) (fun _ _ => by omega) (fun _ _ => ⟨by omega, by omega⟩) (fun c => by omega) (fun c c' => by omega) (fun c c' c3 => ?_) (fun c c' c3 => ?_)
    · refine l_mnum hd x0 h0 h1 c1 c2 n (x4 + 1) (by omega) (by omega) (fun i hi hi2 => ?_)
      by_cases e2 : zlen x0 - x4 ≤ i
      · exact hall i e2 hi2
      · rw [show i = (zlen x0 - 1 - x4).toNat by omega]; exact c3
    · have hz : ¬ znum x0 := fun hz => c3 (hz.2.2 _ (by omega))
      have fin : ∀ y : Int, z_in y → 0 ≤ y → z_Y D M_X13_isNumber d 26 [(0, 1, x0), (2, 0, zlen x0), (3, 0, 0), (4, 0, y)] [] G h (fun o G' h' => o = .inl (some (0, z_b (znum x0))) ∧ G' = G ∧ h' = h) := fun y hy _ =>
        b_X13_isNumber_26 hd hy (zlen_in x0) (fun _ => Or.inl rfl) (fun c => ⟨by omega, by omega⟩) (fun _ _ => Or.inl rfl) (fun _ c => absurd rfl c) (fun _ c => absurd rfl c) (fun _ c => absurd rfl c) (fun _ c => absurd rfl c) (fun _ c => absurd rfl c) (fun _ => ⟨by rw [z_b0 hz], rfl, rfl⟩) (fun _ _ => ⟨by rw [z_b0 hz], rfl, rfl⟩) (fun _ c => absurd rfl c) (fun _ c => absurd rfl c)
      exact fin _ ⟨by omega, by omega⟩ (by omega)
theorem mnum0 (hd : 2 ≤ d) (x0 y : Int) (hz : ¬ znum x0) (hy : z_in y) : z_Y D M_X13_isNumber d 22 [(0, 1, x0), (2, 0, y)] [(0, 0)] G h (fun o G' h' => o = .inl (some (0, z_b (znum x0))) ∧ G' = G ∧ h' = h) :=
  b_X13_isNumber_22 (b_X13_isNumber_26 hd ⟨by omega, by omega⟩ hy (fun _ => Or.inl rfl) (fun c => ⟨by omega, by omega⟩) (fun _ _ => Or.inl rfl) (fun _ c => absurd rfl c) (fun _ c => absurd rfl c) (fun _ c => absurd rfl c) (fun _ c => absurd rfl c) (fun _ c => absurd rfl c) (fun _ => ⟨by rw [z_b0 hz], rfl, rfl⟩) (fun _ _ => ⟨by rw [z_b0 hz], rfl, rfl⟩) (fun _ c => absurd rfl c) (fun _ c => absurd rfl c))
theorem zlen_0 {v : Int} (h0 : 0 ≤ v) : zlen v = 0 ↔ v = 0 := by
  rw [zlen, if_neg (by omega)]
  constructor
  · intro h1
    by_cases e : v = 0
    · exact e
    · rw [show (7 : Nat) = 6 + 1 from rfl, zl, if_neg e] at h1
      have := zl_nn 6 (v / 256)
      omega
  · intro e; subst e; rfl
theorem a_X13_isNumber (hd : 2 ≤ d) (x0 : Int) (h0 : -1 ≤ x0) (h1 : x0 < 72057594037927936) : z_Ei D M_X13_isNumber d [(1, x0)] G h (z_b (znum x0)) h := by
  refine z_begin mo_X13_isNumber rfl (nle rfl) (b_X13_isNumber_0 ?_)
  by_cases hx : x0 < 0
  · have e : x0 = -1 := by omega
    subst e
    have hz : ¬ znum (-1) := fun hz => by have := hz.2.1; rw [zlen, if_pos (by omega)] at this; omega
    refine z_Ki.of (d2 := d - 1) (by omega) (a_X13_length_any (by omega)) fun o G' h' _ hh => ⟨0, hh.1, ?_⟩
    rw [hh.2.1, hh.2.2]
    exact b_X13_isNumber_4 ⟨by omega, by omega⟩ (fun _ => ⟨by omega, by omega⟩) (fun c => b_X13_isNumber_21 (mnum0 hd _ _ hz ⟨by omega, by omega⟩)) (fun c => by omega) (fun c => by omega)
  · refine z_Ki.of (d2 := d - 1) (by omega) (a_X13_length (by omega) x0 (by omega) h1) fun o G' h' _ hh => ⟨zlen x0, hh.1, ?_⟩
    rw [hh.2.1, hh.2.2]
    have hn := zlen_nn x0
    refine b_X13_isNumber_4 ⟨by omega, by omega⟩ (fun _ => zlen_in x0) (fun c => b_X13_isNumber_21 (mnum0 hd _ _ (fun hz => ?_) (zlen_in x0))) (fun c c2 => b_X13_isNumber_21 (mnum0 hd _ _ (fun hz => by have := hz.2.1; omega) (zlen_in x0))) (fun c c2 => b_X13_isNumber_22 ?_)
    · have := hz.1
      have e : x0 = 0 := by omega
      rw [(zlen_0 (by omega)).mpr e] at this
      omega
    · have : ¬ zlen x0 = 0 := fun e => c (by rw [(zlen_0 (by omega)).mp e]; exact Int.le_refl _)
      exact l_mnum hd x0 (by omega) h1 (by omega) (by omega) (zlen x0).toNat 0 (by omega) (by omega) (fun i hi hi2 => by omega)
theorem l_mval (hd : 2 ≤ d) (x0 : Int) (h0 : 0 ≤ x0) (h1 : x0 < 72057594037927936) : ∀ (n : Nat) (x3 x4 : Int), x4 = zlen x0 - n → 0 ≤ x4 →
    z_Y D M_X13_numberOf d 10 [(0, 1, x0), (2, 0, zlen x0), (3, 0, x3), (4, 0, x4)] [] G h (fun o G' h' => o = .inl (some (0, zvl n x0 x3)) ∧ G' = G ∧ h' = h)
  | 0, x3, x4, e, hx => by
    have hn := zlen_nn x0
    exact b_X13_numberOf_10 hd ⟨by omega, by omega⟩ (zlen_in x0) (fun _ => h0) (fun _ => h1) (fun c => by omega) (fun c => by omega) (fun _ => ⟨rfl, rfl, rfl⟩) (fun c => by omega)
  | n + 1, x3, x4, e, hx => by
    have hn := zlen_nn x0
    refine b_X13_numberOf_10 hd ⟨by omega, by omega⟩ (zlen_in x0) (fun _ => h0) (fun _ => h1) (fun c => by omega) (fun c => by omega) (fun c => by omega) (fun c => ?_)
    rw [show (zlen x0 - 1 - x4).toNat = n by omega]
    exact l_mval hd x0 h0 h1 n _ (x4 + 1) (by omega) (by omega)
theorem a_X13_numberOf (hd : 2 ≤ d) (x0 : Int) (h0 : 0 ≤ x0) (h1 : x0 < 72057594037927936) : z_Ei D M_X13_numberOf d [(1, x0)] G h (zval x0) h := by
  have := zlen_nn x0
  exact z_begin mo_X13_numberOf rfl (nle rfl) (b_X13_numberOf_0 hd h0 h1 (l_mval hd x0 h0 h1 _ 0 0 (by omega) (by omega)))
theorem a_X13_order (hd : 2 ≤ d) (x0 : Int) (h0 : 0 ≤ x0) (h1 : x0 < 72057594037927936) : z_El D M_X13_order d [(1, x0)] G h (zkey x0) h := by
  have hn := zlen_nn x0
  have hk := zkey_rg h0 h1
  refine z_begin mo_X13_order rfl (nle rfl) (b_X13_order_0 hd h0 h1 ⟨?_, rfl, rfl⟩)
  unfold zkey at hk
  have e : (8 * (7 - zlen x0)).toNat = 8 * (7 - zlen x0).toNat := by omega
  rw [z_lshl_n h0 (by omega) (by omega) (by rw [e, p256]; omega), e, p256]
  rfl
theorem l_mtext : ∀ (n : Nat) (x1 x3 x4 : Int) (k : Nat), n + k = 6 → x3 = 8 * k → 0 ≤ x1 → x1 < 256 ^ k → 0 ≤ x4 → x4 < 10 ^ n → 1 ≤ n →
    z_Y D M_X13_textOf d 7 [(1, 1, x1), (3, 0, x3), (4, 0, x4)] [] G h (fun o G' h' => o = .inl (some (1, x1 + 256 ^ k * ztx n x4)) ∧ G' = G ∧ h' = h)
  | 0, _, _, _, _, _, _, _, _, _, _, hn => by omega
  | n + 1, x1, x3, x4, k, hk, e, h1, h1', h4, h4', hn => by
    have h10 : (10 : Int) ^ (n + 1) = 10 ^ n * 10 := Int.pow_succ 10 n
    have hb : x4 < 1000000 := by
      have : (10 : Int) ^ (n + 1) ≤ 10 ^ 6 := ipl (b := 10) (by decide) (by omega)
      have h5 : (10 : Int) ^ 6 = 1000000 := by decide
      omega
    have hr : z_irem x4 10 = x4 % 10 := z_irem_n h4 (by omega) (by decide) (by decide)
    have hq : z_idiv x4 10 = x4 / 10 := z_idiv_n h4 (by omega) (by decide) (by decide)
    have e8 : x3.toNat = 8 * k := by omega
    have hp := p256_pos k
    have hp5 : (256 : Int) ^ k ≤ 256 ^ 5 := ipl (b := 256) (by decide) (by omega)
    have h5 : (256 : Int) ^ 5 = 1099511627776 := by decide
    have hmul : (48 + x4 % 10) * 256 ^ k ≤ 57 * 256 ^ k := Int.mul_le_mul_of_nonneg_right (by omega) (Int.le_of_lt hp)
    have hmul0 : 0 ≤ (48 + x4 % 10) * 256 ^ k := Int.mul_nonneg (by omega) (Int.le_of_lt hp)
    have es : z_lshl (48 + x4 % 10) x3 = (48 + x4 % 10) * 256 ^ k := by
      rw [z_lshl_n (by omega) (by omega) (by omega) (by rw [e8, p256]; omega), e8, p256]
    have eo : z_lor x1 ((48 + x4 % 10) * 256 ^ k) = (48 + x4 % 10) * 256 ^ k + x1 := by
      have e1 : z_lor x1 ((48 + x4 % 10) * 256 ^ k) = z_lor ((48 + x4 % 10) * 256 ^ k) x1 := by
        rw [z_lor_n h1 (by omega) hmul0 (by omega), z_lor_n hmul0 (by omega) h1 (by omega), Nat.or_comm]
      rw [e1]
      have := z_lor_add (a := 48 + x4 % 10) (b := x1) (8 * k) (by omega) h1 (by rw [p256]; exact h1') (by rw [p256]; omega)
      rw [p256] at this
      exact this
    refine b_X13_textOf_7 (by rw [hr]; exact ⟨by omega, by omega⟩) (by rw [hq]; exact ⟨by omega, by omega⟩) (fun c => ?_) (fun c => ⟨?_, rfl, rfl⟩)
    · rw [hq] at c
      rw [hr, hq, es, eo]
      have hn1 : 1 ≤ n := by
        by_cases e0 : n = 0
        · subst e0
          have h01 : (10 : Int) ^ (0 : Nat) = 1 := by decide
          omega
        · omega
      refine (l_mtext n _ (x3 + 8) (x4 / 10) (k + 1) (by omega) (by omega) (by omega) (by rw [Int.pow_succ]; omega) (by omega) (by omega) hn1).mono fun o G' h' _ hh => ⟨?_, hh.2⟩
      rw [hh.1, ztx, if_neg (by omega), Int.pow_succ]
      apply soe
      rw [Int.mul_add, Int.mul_comm (256 ^ k) (48 + x4 % 10), Int.mul_assoc]; omega
    · rw [hq] at c
      rw [hr, es, eo, ztx, if_pos (by omega)]
      apply soe
      simp only [Int.add_zero]
      rw [Int.mul_comm (256 ^ k)]; omega
theorem a_X13_textOf (hd : 1 ≤ d) (x0 : Int) (h0 : 0 ≤ x0) (h1 : x0 < 1000000) : z_El D M_X13_textOf d [(0, x0)] G h (ztx 6 x0) h := by
  refine z_begin mo_X13_textOf rfl (nle rfl) (b_X13_textOf_0 ?_)
  have h10 : (10 : Int) ^ 6 = 1000000 := by decide
  refine (l_mtext 6 0 0 x0 0 rfl rfl (by omega) (by decide) h0 (by rw [h10]; exact h1) (by decide)).mono fun o G' h' _ hh => ⟨?_, hh.2⟩
  rw [hh.1]
  apply soe
  show 0 + 1 * ztx 6 x0 = _
  omega
theorem l_markAt (hd : 2 ≤ d) (x0 x2 : Int) (h0 : 0 ≤ x0) (h1 : x0 < 72057594037927936) (h2 : z_in x2) : ∀ (n : Nat) (x4 : Int), x4 = zlen x0 - n → 0 ≤ x4 →
    z_Y D M_X13_markAt d 8 [(0, 1, x0), (2, 0, x2), (3, 0, zlen x0), (4, 0, x4)] [] G h (fun o G' h' => o = .inl (some (0, if zbh n x0 x2 = -1 then -1 else zlen x0 - 1 - zbh n x0 x2)) ∧ G' = G ∧ h' = h)
  | 0, x4, e, hx => by
    have hn := zlen_nn x0
    exact b_X13_markAt_8 hd ⟨by omega, by omega⟩ (zlen_in x0) (fun _ => h0) (fun _ => h1) (fun c => by omega) (fun c => by omega) (fun c => by omega) (fun _ => h2) (fun _ => ⟨by simp [zbh], rfl, rfl⟩) (fun c => by omega) (fun c => by omega)
  | n + 1, x4, e, hx => by
    have hn := zlen_nn x0
    have en : (zlen x0 - 1 - x4).toNat = n := by omega
    refine b_X13_markAt_8 hd ⟨by omega, by omega⟩ (zlen_in x0) (fun _ => h0) (fun _ => h1) (fun c => by omega) (fun c => by omega) (fun c => ⟨by omega, by omega⟩) (fun _ => h2) (fun c => by omega) (fun c c2 => ?_) (fun c c2 => ⟨?_, rfl, rfl⟩)
    · rw [en] at c2
      refine (l_markAt hd x0 x2 h0 h1 h2 n (x4 + 1) (by omega) (by omega)).mono fun o G' h' _ hh => ⟨?_, hh.2⟩
      rw [hh.1, zbh, if_neg c2]
    · rw [en] at c2
      rw [zbh, if_pos (Classical.not_not.mp c2), if_neg (by omega)]
      exact soe (by omega)
theorem a_X13_markAt (hd : 2 ≤ d) (x0 x2 : Int) (h0 : 0 ≤ x0) (h1 : x0 < 72057594037927936) (h2 : z_in x2) : z_Ei D M_X13_markAt d [(1, x0), (0, x2)] G h (if zbh (zlen x0).toNat x0 x2 = -1 then -1 else zlen x0 - 1 - zbh (zlen x0).toNat x0 x2) h := by
  have hn := zlen_nn x0
  exact z_begin mo_X13_markAt rfl (nle rfl) (b_X13_markAt_0 hd h0 h1 (l_markAt hd x0 x2 h0 h1 h2 _ 0 (by omega) (by omega)))
theorem a_X13_isTable (hd : 2 ≤ d) (x0 : Int) (h0 : z_in x0) : z_Ei D M_X13_isTable d [(0, x0)] G h (z_b (0 ≤ x0 ∧ x0 ≤ 7)) h := by
  have := h0.1; have := h0.2
  exact z_begin mo_X13_isTable rfl (nle rfl) (b_X13_isTable_0 hd h0 ⟨by omega, by omega⟩ (fun c => ⟨by rw [z_b1 c], rfl, rfl⟩) (fun c => ⟨by rw [z_b0 c], rfl, rfl⟩))
theorem a_X13_isWay (hd : 2 ≤ d) (x0 : Int) (h0 : z_in x0) : z_Ei D M_X13_isWay d [(0, x0)] G h (z_b (0 ≤ x0 ∧ x0 ≤ 7)) h := by
  have := h0.1; have := h0.2
  exact z_begin mo_X13_isWay rfl (nle rfl) (b_X13_isWay_0 hd h0 ⟨by omega, by omega⟩ (fun c => ⟨by rw [z_b1 c], rfl, rfl⟩) (fun c => ⟨by rw [z_b0 c], rfl, rfl⟩))
end MText
