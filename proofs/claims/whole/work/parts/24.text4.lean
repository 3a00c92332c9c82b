theorem ipl {b m n : Nat} (hb : 1 ≤ b) (h : m ≤ n) : ((b : Nat) : Int) ^ m ≤ ((b : Nat) : Int) ^ n := by
  rw [← Int.natCast_pow, ← Int.natCast_pow]
  exact Int.ofNat_le.mpr (Nat.pow_le_pow_right hb h)
theorem soe {k : Nat} {A B : Int} (e : A = B) : (Sum.inl (some (k, A)) : zO) = Sum.inl (some (k, B)) := by rw [e]
theorem p256 (k : Nat) : (2 : Int) ^ (8 * k) = 256 ^ k := by rw [Int.pow_mul]; rfl
theorem sh8 {v k : Int} (hv : 0 ≤ v) (hv1 : v < 72057594037927936) (h0 : 0 ≤ k) (h1 : k < 8) : z_lushr v (8 * k) = v / 256 ^ k.toNat := by
  rw [z_lushr_n hv (by omega) (by omega) (by omega), show (8 * k).toNat = 8 * k.toNat by omega, p256]
theorem sr8 {v k : Int} (hv : 0 ≤ v) (hv1 : v < 72057594037927936) (h0 : 0 ≤ k) (h1 : k < 8) : z_lshr v (8 * k) = v / 256 ^ k.toNat := by
  rw [z_lshr_n hv (by omega) (by omega) (by omega), show (8 * k).toNat = 8 * k.toNat by omega, p256]
theorem p256_pos (k : Nat) : (0 : Int) < 256 ^ k := Int.pow_pos (by decide)
theorem dv256 {v : Int} (hv : 0 ≤ v) (hv1 : v < 72057594037927936) (k : Nat) : 0 ≤ v / 256 ^ k ∧ v / 256 ^ k < 72057594037927936 := by
  have h1 := Int.ediv_nonneg hv (Int.le_of_lt (p256_pos k))
  have h2 := Int.ediv_le_self (256 ^ k) hv
  exact ⟨h1, by omega⟩
theorem by8 {v k : Int} (hv : 0 ≤ v) (hv1 : v < 72057594037927936) (h0 : 0 ≤ k) (h1 : k < 8) : z_land (z_lushr v (8 * k)) 255 = v / 256 ^ k.toNat % 256 := by
  rw [sh8 hv hv1 h0 h1]
  have := dv256 hv hv1 k.toNat
  exact z_land255 this.1 (by omega)
theorem bi8 {v k : Int} (hv : 0 ≤ v) (hv1 : v < 72057594037927936) (h0 : 0 ≤ k) (h1 : k < 8) : z_iand (z_lushr v (8 * k)) 255 = v / 256 ^ k.toNat % 256 := by
  rw [sh8 hv hv1 h0 h1, z_iand255]
theorem br8 {v k : Int} (hv : 0 ≤ v) (hv1 : v < 72057594037927936) (h0 : 0 ≤ k) (h1 : k < 8) : z_land (z_lshr v (8 * k)) 255 = v / 256 ^ k.toNat % 256 := by
  rw [sr8 hv hv1 h0 h1]
  have := dv256 hv hv1 k.toNat
  exact z_land255 this.1 (by omega)
/-- how many bytes are behind the last place below k where the byte w is, from above; -1: none -/
def zbh : Nat → Int → Int → Int
  | 0, _, _ => -1
  | k + 1, v, w => if v / 256 ^ k % 256 = w then k else zbh k v w
theorem zbh_rg : ∀ (k : Nat) (v w : Int), -1 ≤ zbh k v w ∧ zbh k v w < k
  | 0, v, w => by simp [zbh]
  | k + 1, v, w => by
    unfold zbh
    split
    · constructor <;> omega
    · have := zbh_rg k v w
      constructor <;> omega
/-- a NUMBER -/
def znum (v : Int) : Prop := 1 ≤ zlen v ∧ zlen v ≤ 6 ∧ ∀ i : Nat, i < (zlen v).toNat → 48 ≤ v / 256 ^ i % 256 ∧ v / 256 ^ i % 256 ≤ 57
def zvl : Nat → Int → Int → Int
  | 0, _, acc => acc
  | k + 1, v, acc => zvl k v (10 * acc + v / 256 ^ k % 256 - 48)
def zval (v : Int) : Int := zvl (zlen v).toNat v 0
/-- digits of a number, as a text -/
def ztx : Nat → Int → Int
  | 0, _ => 0
  | n + 1, v => (48 + v % 10) + (if v / 10 = 0 then 0 else 256 * ztx n (v / 10))
def zkey (v : Int) : Int := v * 256 ^ (7 - zlen v).toNat
theorem zl_lt : ∀ (n : Nat) (v : Int), 0 ≤ v → v < 256 ^ n → v < 256 ^ (zl n v).toNat
  | 0, v, h0, h1 => by simpa [zl] using h1
  | n + 1, v, h0, h1 => by
    unfold zl
    split
    · next e => subst e; simp
    · have e1 : (256 : Int) ^ (n + 1) = 256 ^ n * 256 := Int.pow_succ 256 n
      have ih := zl_lt n (v / 256) (by omega) (by rw [e1] at h1; omega)
      have e2 : (1 + zl n (v / 256)).toNat = (zl n (v / 256)).toNat + 1 := by have := zl_nn n (v / 256); omega
      rw [e2, Int.pow_succ]
      omega
theorem zlen_lt {v : Int} (h0 : 0 ≤ v) (h1 : v < 72057594037927936) : v < 256 ^ (zlen v).toNat := by
  rw [zlen, if_neg (by omega)]
  exact zl_lt 7 v h0 h1
theorem zkey_rg {v : Int} (h0 : 0 ≤ v) (h1 : v < 72057594037927936) : 0 ≤ zkey v ∧ zkey v < 72057594037927936 := by
  have hl := zlen_lt h0 h1
  have hn := zlen_nn v
  unfold zkey
  have hp := p256_pos (7 - zlen v).toNat
  refine ⟨Int.mul_nonneg h0 (Int.le_of_lt hp), ?_⟩
  have h2 : v * 256 ^ (7 - zlen v).toNat < 256 ^ (zlen v).toNat * 256 ^ (7 - zlen v).toNat := Int.mul_lt_mul_of_pos_right hl hp
  rw [← Int.pow_add, show (zlen v).toNat + (7 - zlen v).toNat = 7 by omega] at h2
  have : (256 : Int) ^ 7 = 72057594037927936 := by decide
  omega
section Text4
variable {D : zD} {G : zG} {h : zH} {d : Nat}
theorem l_behindMark (x0 x3 : Int) (h0 : 0 ≤ x0) (h1 : x0 < 72057594037927936) (h3 : z_in x3) : ∀ (n : Nat) (x4 : Int), x4 = n - 1 → n ≤ 7 → z_Y D M_X6_behindMark d 13 [(0, 1, x0), (3, 0, x3), (4, 0, x4)] [] G h (fun o G' h' => o = .inl (some (0, zbh n x0 x3)) ∧ G' = G ∧ h' = h)
  | 0, x4, e, hn => by
    refine b_X6_behindMark_13 ⟨by omega, by omega⟩ (fun c => by omega) (fun c => by omega) (fun c => by omega) (fun c => ⟨by simp [zbh], rfl, rfl⟩) (fun c _ => by omega) (fun c _ => by omega)
  | n + 1, x4, e, hn => by
    have e8 : z_land (z_lushr x0 (8 * x4)) 255 = x0 / 256 ^ n % 256 := by rw [by8 h0 h1 (by omega) (by omega), show x4.toNat = n by omega]
    refine b_X6_behindMark_13 ⟨by omega, by omega⟩ (fun _ => h3) (fun _ => by rw [e8]; exact ⟨by omega, by omega⟩) (fun _ => ⟨by have := h3.1; omega, by have := h3.2; omega⟩) (fun c => by omega) (fun c c2 => ?_) (fun c c2 => ⟨?_, rfl, rfl⟩)
    · rw [e8] at c2
      refine (l_behindMark x0 x3 h0 h1 h3 n (x4 + -1) (by omega) (by omega)).mono fun o G' h' _ hh => ⟨?_, hh.2⟩
      rw [hh.1, zbh, if_neg c2]
    · rw [e8] at c2
      rw [zbh, if_pos (Classical.not_not.mp c2), show x4 = n by omega]
theorem zmb_in (m : Int) : 0 ≤ zmb m ∧ zmb m < 256 := by
  unfold zmb
  split
  · have : m = 0 ∨ m = 1 ∨ m = 2 ∨ m = 3 := by omega
    rcases this with rfl | rfl | rfl | rfl <;> decide
  · decide
theorem a_X6_behindMark (hd : 2 ≤ d) (x0 x2 : Int) (h0 : 0 ≤ x0) (h1 : x0 < 72057594037927936) (h2 : z_in x2) : z_Ei D M_X6_behindMark d [(1, x0), (0, x2)] G h (zbh (zlen x0).toNat x0 (zmb x2)) h := by
  refine z_begin mo_X6_behindMark rfl (nle rfl) (b_X6_behindMark_0 hd h2 (by omega) h1 ?_)
  have := zlen_nn x0
  have := zmb_in x2
  exact l_behindMark x0 _ h0 h1 ⟨by omega, by omega⟩ _ _ (by omega) (by omega)
theorem l_isNumber (hd : 2 ≤ d) (x0 : Int) (h0 : 0 ≤ x0) (h1 : x0 < 72057594037927936) (c1 : 1 ≤ zlen x0) (c2 : zlen x0 ≤ 6) : ∀ (n : Nat) (x3 : Int), x3 = zlen x0 - n → 0 ≤ x3 → (∀ i : Nat, i < x3.toNat → 48 ≤ x0 / 256 ^ i % 256 ∧ x0 / 256 ^ i % 256 ≤ 57) →
    z_Y D M_X6_isNumber d 20 [(0, 1, x0), (2, 0, zlen x0), (3, 0, x3)] [] G h (fun o G' h' => (∃ x, o = .inl (some (0, x)) ∧ ((x = 1 ∧ znum x0) ∨ (x = 0 ∧ ¬ znum x0))) ∧ G' = G ∧ h' = h)
  | 0, x3, e, hx, hall => by
    refine b_X6_isNumber_20 hd ⟨by omega, by omega⟩ (zlen_in x0) (fun c => by omega) (fun c => ⟨⟨1, rfl, Or.inl ⟨rfl, c1, c2, ?_⟩⟩, rfl, rfl⟩) (fun c _ => by omega) (fun c _ => by omega)
    rw [show (zlen x0).toNat = x3.toNat by omega]; exact hall
  | n + 1, x3, e, hx, hall => by
    have e8 : z_iand (z_lushr x0 (8 * x3)) 255 = x0 / 256 ^ x3.toNat % 256 := bi8 h0 h1 (by omega) (by omega)
    refine b_X6_isNumber_20 hd ⟨by omega, by omega⟩ (zlen_in x0) (fun c => by rw [e8]; exact ⟨by omega, by omega⟩) (fun c => by omega) (fun c c3 => ?_) (fun c c3 => ⟨⟨0, rfl, Or.inr ⟨rfl, fun hz => ?_⟩⟩, rfl, rfl⟩)
    · rw [e8] at c3
      refine l_isNumber hd x0 h0 h1 c1 c2 n (x3 + 1) (by omega) (by omega) (fun i hi => ?_)
      by_cases hi2 : i < x3.toNat
      · exact hall i hi2
      · rw [show i = x3.toNat by omega]; exact c3
    · rw [e8] at c3
      exact c3 (hz.2.2 x3.toNat (by omega))
theorem a_X6_isNumber (hd : 2 ≤ d) (x0 : Int) (h0 : -1 ≤ x0) (h1 : x0 < 72057594037927936) : z_Ei D M_X6_isNumber d [(1, x0)] G h (z_b (znum x0)) h := by
  refine z_begin mo_X6_isNumber rfl (nle rfl) (b_X6_isNumber_0 hd h0 h1 (zlen_in x0) (fun c => ⟨by rw [z_b0 (fun hz => by have := hz.1; omega)], rfl, rfl⟩) (fun c c2 => ?_) (fun c c2 => ⟨by rw [z_b0 (fun hz => by have := hz.2.1; omega)], rfl, rfl⟩))
  have hx : 0 ≤ x0 := by
    by_cases hx : x0 < 0
    · rw [zlen, if_pos hx] at c2; omega
    · omega
  refine (l_isNumber hd x0 hx h1 (by omega) c2 (zlen x0).toNat 0 (by omega) (by omega) (fun i hi => by simp at hi)).mono fun o G' h' _ hh => ?_
  obtain ⟨⟨x, e, hc⟩, hh⟩ := hh
  refine ⟨?_, hh⟩
  rcases hc with ⟨rfl, hz⟩ | ⟨rfl, hz⟩
  · rw [e, z_b1 hz]
  · rw [e, z_b0 hz]
theorem l_valueOf (x0 : Int) (h0 : 0 ≤ x0) (h1 : x0 < 72057594037927936) : ∀ (n : Nat) (x2 x3 : Int), x3 = n - 1 → n ≤ 7 → z_Y D M_X6_valueOf d 9 [(0, 1, x0), (2, 0, x2), (3, 0, x3)] [] G h (fun o G' h' => o = .inl (some (0, zvl n x0 x2)) ∧ G' = G ∧ h' = h)
  | 0, x2, x3, e, hn => b_X6_valueOf_9 ⟨by omega, by omega⟩ (fun _ => ⟨rfl, rfl, rfl⟩) (fun c => by omega)
  | n + 1, x2, x3, e, hn => by
    have e8 : z_iand (z_lushr x0 (8 * x3)) 255 = x0 / 256 ^ n % 256 := by rw [bi8 h0 h1 (by omega) (by omega), show x3.toNat = n by omega]
    refine b_X6_valueOf_9 ⟨by omega, by omega⟩ (fun c => by omega) (fun c => ?_)
    rw [e8]
    exact l_valueOf x0 h0 h1 n _ (x3 + -1) (by omega) (by omega)
theorem a_X6_valueOf (hd : 2 ≤ d) (x0 : Int) (h0 : 0 ≤ x0) (h1 : x0 < 72057594037927936) : z_Ei D M_X6_valueOf d [(1, x0)] G h (zval x0) h := by
  have := zlen_nn x0
  exact z_begin mo_X6_valueOf rfl (nle rfl) (b_X6_valueOf_0 hd (by omega) h1 (l_valueOf x0 h0 h1 _ 0 _ (by omega) (by omega)))
theorem a_X6_sortKey (hd : 2 ≤ d) (x0 : Int) (h0 : 0 ≤ x0) (h1 : x0 < 72057594037927936) : z_El D M_X6_sortKey d [(1, x0)] G h (zkey x0) h := by
  have hn := zlen_nn x0
  have hk := zkey_rg h0 h1
  refine z_begin mo_X6_sortKey rfl (nle rfl) (b_X6_sortKey_0 hd (by omega) h1 ⟨?_, rfl, rfl⟩)
  unfold zkey at hk
  have e : (8 * (7 - zlen x0)).toNat = 8 * (7 - zlen x0).toNat := by omega
  rw [z_lshl_n h0 (by omega) (by omega) (by rw [e, p256]; omega), e, p256]
  rfl
theorem ztx_rg : ∀ (n : Nat) (v : Int), 0 ≤ v → 0 ≤ ztx n v ∧ ztx n v < 256 ^ n
  | 0, v, _ => by simp [ztx]
  | n + 1, v, h0 => by
    have ih := ztx_rg n (v / 10) (by omega)
    rw [ztx, Int.pow_succ]
    have hp := p256_pos n
    split
    · constructor <;> omega
    · constructor <;> omega
theorem l_ofValue : ∀ (n : Nat) (x1 x3 x4 : Int), x4 = 6 - n → 1 ≤ x4 → 0 ≤ x1 → x1 < 256 ^ x4.toNat → 0 ≤ x3 → x3 < 10 ^ n →
    z_Y D M_X6_ofValue d 17 [(1, 1, x1), (3, 0, x3), (4, 0, x4)] [] G h (fun o G' h' => o = .inl (some (1, x1 + (if x3 = 0 then 0 else 256 ^ x4.toNat * ztx n x3))) ∧ G' = G ∧ h' = h)
  | 0, x1, x3, x4, e, h4, h1, h1', h3, h3' => by
    have hx3 : x3 < 1 := by simpa using h3'
    have : x3 = 0 := by omega
    subst this
    refine b_X6_ofValue_17 ⟨by omega, by omega⟩ (fun c => by omega) (fun c => by omega) (fun c => ⟨by simp, rfl, rfl⟩) (fun c => by omega) (fun c => by omega)
  | n + 1, x1, x3, x4, e, h4, h1, h1', h3, h3' => by
    have h10 : (10 : Int) ^ (n + 1) = 10 ^ n * 10 := Int.pow_succ 10 n
    have hb : x3 < 1000000 := by
      have : (10 : Int) ^ (n + 1) ≤ 10 ^ 5 := ipl (b := 10) (by decide) (by omega)
      have h5 : (10 : Int) ^ 5 = 100000 := by decide
      omega
    have hr : z_irem x3 10 = x3 % 10 := z_irem_n h3 (by omega) (by decide) (by decide)
    have hq : z_idiv x3 10 = x3 / 10 := z_idiv_n h3 (by omega) (by decide) (by decide)
    refine b_X6_ofValue_17 ⟨by omega, by omega⟩ (fun c => ⟨by omega, by omega⟩) (fun c c2 => by rw [hr]; exact ⟨by omega, by omega⟩) (fun c => by omega) (fun c c2 => ⟨by simp [c2], rfl, rfl⟩) (fun c c2 => ?_)
    rw [hr, hq]
    have e8 : (8 * x4).toNat = 8 * x4.toNat := by omega
    have hp := p256_pos x4.toNat
    have hp5 : (256 : Int) ^ x4.toNat ≤ 256 ^ 5 := ipl (b := 256) (by decide) (by omega)
    have h5 : (256 : Int) ^ 5 = 1099511627776 := by decide
    have hmul : (48 + x3 % 10) * 256 ^ x4.toNat ≤ 57 * 256 ^ x4.toNat := Int.mul_le_mul_of_nonneg_right (by omega) (Int.le_of_lt hp)
    have hmul0 : 0 ≤ (48 + x3 % 10) * 256 ^ x4.toNat := Int.mul_nonneg (by omega) (Int.le_of_lt hp)
    have es : z_lshl (48 + x3 % 10) (8 * x4) = (48 + x3 % 10) * 256 ^ x4.toNat := by
      rw [z_lshl_n (by omega) (by omega) (by omega) (by rw [e8, p256]; omega), e8, p256]
    have eo : z_lor x1 ((48 + x3 % 10) * 256 ^ x4.toNat) = (48 + x3 % 10) * 256 ^ x4.toNat + x1 := by
      have e1 : z_lor x1 ((48 + x3 % 10) * 256 ^ x4.toNat) = z_lor ((48 + x3 % 10) * 256 ^ x4.toNat) x1 := by
        rw [z_lor_n h1 (by omega) hmul0 (by omega), z_lor_n hmul0 (by omega) h1 (by omega), Nat.or_comm]
      rw [e1]
      have := z_lor_add (a := 48 + x3 % 10) (b := x1) (8 * x4.toNat) (by omega) h1 (by rw [p256]; exact h1') (by rw [p256]; omega)
      rw [p256] at this
      exact this
    rw [es, eo]
    have e9 : (x4 + 1).toNat = x4.toNat + 1 := by omega
    refine (l_ofValue n _ (x3 / 10) (x4 + 1) (by omega) (by omega) (by omega) (by rw [e9, Int.pow_succ]; omega) (by omega) (by omega)).mono fun o G' h' _ hh => ⟨?_, hh.2⟩
    rw [hh.1, if_neg c2, ztx, e9, Int.pow_succ]
    apply soe
    split
    · simp only [Int.add_zero]; rw [Int.mul_comm (256 ^ x4.toNat)]; omega
    · rw [Int.mul_add, Int.mul_comm (256 ^ x4.toNat) (48 + x3 % 10), Int.mul_assoc]; omega
theorem a_X6_ofValue (hd : 1 ≤ d) (x0 : Int) (h0 : 0 ≤ x0) (h1 : x0 < 1000000) : z_El D M_X6_ofValue d [(0, x0)] G h (ztx 6 x0) h := by
  have hr : z_irem x0 10 = x0 % 10 := z_irem_n h0 (by omega) (by decide) (by decide)
  have hq : z_idiv x0 10 = x0 / 10 := z_idiv_n h0 (by omega) (by decide) (by decide)
  refine z_begin mo_X6_ofValue rfl (nle rfl) (b_X6_ofValue_0 (by rw [hr]; exact ⟨by omega, by omega⟩) ?_)
  rw [hr, hq]
  have h10 : (10 : Int) ^ 5 = 100000 := by decide
  refine (l_ofValue 5 (48 + x0 % 10) (x0 / 10) 1 (by omega) (by omega) (by omega) (by show _ < (256 : Int) ^ 1; omega) (by omega) (by rw [h10]; omega)).mono fun o G' h' _ hh => ⟨?_, hh.2⟩
  rw [hh.1]
  show Sum.inl (some (1, 48 + x0 % 10 + (if x0 / 10 = 0 then 0 else 256 ^ 1 * ztx 5 (x0 / 10)))) = Sum.inl (some (1, ztx 6 x0))
  rw [show ztx 6 x0 = (48 + x0 % 10) + (if x0 / 10 = 0 then 0 else 256 * ztx 5 (x0 / 10)) from rfl]
  rfl
end Text4
