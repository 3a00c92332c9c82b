/-! products of rows and columns -/
theorem rc_le {R C : Int} (h1 : 1 ≤ R) (h2 : R ≤ 12) (h3 : 1 ≤ C) (h4 : C ≤ 6) : 1 ≤ R * C ∧ R * C ≤ 72 := by
  have a : 1 * 1 ≤ R * C := Int.mul_le_mul h1 h3 (by decide) (by omega)
  have b : R * C ≤ 12 * 6 := Int.mul_le_mul h2 h4 (by omega) (by decide)
  omega
theorem ix_lt {R C r c : Int} (h0 : 0 ≤ r) (h1 : r < R) (h2 : 0 ≤ c) (h3 : c < C) : 0 ≤ r * C + c ∧ r * C + c < R * C := by
  have a : 0 ≤ r * C := Int.mul_nonneg h0 (by omega)
  have b : (r + 1) * C ≤ R * C := Int.mul_le_mul_of_nonneg_right (by omega) (by omega)
  rw [Int.add_mul] at b
  omega
theorem ix_inj {C r c r' c' : Int} (h2 : 0 ≤ c) (h3 : c < C) (h4 : 0 ≤ c') (h5 : c' < C) (e : r * C + c = r' * C + c') : r = r' ∧ c = c' := by
  have e1 : (c + r * C) % C = c := by rw [Int.add_mul_emod_self_right, Int.emod_eq_of_lt h2 h3]
  have e2 : (c' + r' * C) % C = c' := by rw [Int.add_mul_emod_self_right, Int.emod_eq_of_lt h4 h5]
  have e3 : c + r * C = c' + r' * C := by omega
  rw [e3, e2] at e1
  subst e1
  have e4 : r * C = r' * C := by omega
  exact ⟨Int.eq_of_mul_eq_mul_right (by omega) e4, rfl⟩
/-- how many of the first n -/
noncomputable def zct (p : Int → Prop) : Nat → Int
  | 0 => 0
  | n + 1 => zct p n + z_b (p n)
theorem zct_rg (p : Int → Prop) : ∀ n : Nat, 0 ≤ zct p n ∧ zct p n ≤ n
  | 0 => ⟨Int.le_refl _, Int.le_refl _⟩
  | n + 1 => by
    have h1 := zct_rg p n
    have h2 := z_b01 (p n)
    rw [zct]
    constructor <;> omega
theorem zct_0 (p : Int → Prop) : ∀ n : Nat, zct p n = 0 ↔ ∀ i : Int, 0 ≤ i → i < n → ¬ p i
  | 0 => ⟨fun _ i h1 h2 => by omega, fun _ => rfl⟩
  | n + 1 => by
    have h1 := zct_rg p n
    have ih := zct_0 p n
    rw [zct]
    constructor
    · intro e i hi hi2 hp
      by_cases ei : i = n
      · subst ei
        rw [z_b1 hp] at e
        omega
      · have := z_b01 (p n)
        exact ih.mp (by omega) i hi (by omega) hp
    · intro hall
      rw [z_b0 (hall n (by omega) (by omega)), ih.mpr (fun i hi hi2 => hall i hi (by omega))]
      rfl
theorem zct_congr {p q : Int → Prop} : ∀ n : Nat, (∀ i : Int, 0 ≤ i → i < n → (p i ↔ q i)) → zct p n = zct q n
  | 0, _ => rfl
  | n + 1, hall => by
    rw [zct, zct, zct_congr n (fun i h1 h2 => hall i h1 (by omega))]
    by_cases hp : p n
    · rw [z_b1 hp, z_b1 ((hall n (by omega) (by omega)).mp hp)]
    · rw [z_b0 hp, z_b0 (fun hq => hp ((hall n (by omega) (by omega)).mpr hq))]
/-- a table's form and cells, as the class holds it -/
def okS (h : zH) (t : Int) : Prop := 1 ≤ h t 1 ∧ h t 1 ≤ 12 ∧ 1 ≤ h t 2 ∧ h t 2 ≤ 6
def okC (h : zH) (t : Int) : Prop := ∀ i : Int, 0 ≤ i → i < h t 1 * h t 2 → -1 ≤ h (t + 1) i ∧ h (t + 1) i < 72057594037927936
theorem okS.rc {h : zH} {t : Int} (o : okS h t) : 1 ≤ h t 1 * h t 2 ∧ h t 1 * h t 2 ≤ 72 := rc_le o.1 o.2.1 o.2.2.1 o.2.2.2
section Tab4
variable {D : zD} {G : zG} {h : zH} {d : Nat}
theorem cp_step {h : zH} {a sp b dp k : Int} (hab : ¬ a = b) (hk : 0 ≤ k) : z_wr (z_cp h a sp b dp k) b (dp + k) (z_cp h a sp b dp k a (sp + k)) = z_cp h a sp b dp (k + 1) := by
  funext x i
  rw [c_na hab]
  unfold z_wr z_cp
  by_cases e : x = b
  · subst e
    by_cases e2 : i = dp + k
    · subst e2
      rw [if_pos ⟨rfl, rfl⟩, if_pos ⟨rfl, by omega, by omega⟩]
      congr 1
      omega
    · rw [if_neg (fun q => e2 q.2)]
      by_cases e3 : dp ≤ i ∧ i < dp + k
      · rw [if_pos ⟨rfl, e3⟩, if_pos ⟨rfl, by omega, by omega⟩]
      · rw [if_neg (fun q => e3 q.2), if_neg (fun q => e3 ⟨q.2.1, by omega⟩)]
  · rw [if_neg (fun q => e q.1), if_neg (fun q => e q.1), if_neg (fun q => e q.1)]
theorem cp_0 {h : zH} {a sp b dp : Int} : z_cp h a sp b dp 0 = h := by
  funext x i
  unfold z_cp
  rw [if_neg (fun q => by omega)]
theorem l_putRow (hd : 2 ≤ d) (x0 x1 x2 x3 x4 : Int) (hl : lay G h) (t0 : z_is G x0 3) (t2 : z_is G x2 3) (hne : ¬ x0 = x2) (h4 : 0 ≤ x4) (p1 : 0 ≤ x1 * h x0 2) (p2 : x1 * h x0 2 + x4 ≤ 72) (p3 : 0 ≤ x3 * h x2 2) (p4 : x3 * h x2 2 + x4 ≤ 72) : ∀ (n : Nat) (x5 : Int), x5 = x4 - n → 0 ≤ x5 →
    z_Y D M_X4_putRow d 3 [(0, 2, x0), (1, 0, x1), (2, 2, x2), (3, 0, x3), (4, 0, x4), (5, 0, x5)] [] G (z_cp h (x2 + 1) (x3 * h x2 2) (x0 + 1) (x1 * h x0 2) x5) (fun o G' h' => o = .inl none ∧ G' = G ∧ h' = z_cp h (x2 + 1) (x3 * h x2 2) (x0 + 1) (x1 * h x0 2) x4) := by
  have n0 : ¬ x0 = x0 + 1 := by omega
  have n2 : ¬ x2 = x0 + 1 := z_isne t2 (hl.ti t0) (by decide)
  intro n
  induction n with
  | zero =>
    intro x5 e h5
    exact b_X4_putRow_3 hd ⟨by omega, by omega⟩ ⟨by omega, by omega⟩ (fun _ => t2) (fun c => by omega) (fun c => by omega) (fun _ => t0) (fun c => by omega) (fun c => by omega) (fun _ => ⟨rfl, rfl, by rw [show x5 = x4 by omega]⟩) (fun c => by omega)
  | succ n ih =>
    intro x5 e h5
    refine b_X4_putRow_3 hd ⟨by omega, by omega⟩ ⟨by omega, by omega⟩ (fun _ => t2) (fun c => ?_) (fun c => ?_) (fun _ => t0) (fun c => ?_) (fun c => ?_) (fun c => by omega) (fun c => ?_)
    · rw [c_na n2]; omega
    · rw [c_na n2]; omega
    · rw [c_na n0]; omega
    · rw [c_na n0]; omega
    · rw [c_na (x := x0) (j := 2) n0, c_na (x := x2) (j := 2) n2, cp_step (by omega) h5]
      exact ih (x5 + 1) (by omega) (by omega)
theorem a_X4_putRow (hd : 2 ≤ d) (x0 x1 x2 x3 x4 C Cf : Int) (t0 : z_is G x0 3) (t2 : z_is G x2 3) (hne : ¬ x0 = x2) (hC : h x0 2 = C) (hCf : h x2 2 = Cf) (h4 : 0 ≤ x4) (p1 : 0 ≤ x1 * C) (p2 : x1 * C + x4 ≤ 72) (p3 : 0 ≤ x3 * Cf) (p4 : x3 * Cf + x4 ≤ 72) : z_Ev D M_X4_putRow d [(2, x0), (0, x1), (2, x2), (0, x3), (0, x4)] G h (z_cp h (x2 + 1) (x3 * Cf) (x0 + 1) (x1 * C) x4) := by
  subst hC; subst hCf
  intro hl
  have k := l_putRow (D := D) hd x0 x1 x2 x3 x4 hl t0 t2 hne h4 p1 p2 p3 p4 x4.toNat 0 (by omega) (by omega)
  rw [cp_0] at k
  exact z_begin mo_X4_putRow rfl (nle rfl) (b_X4_putRow_0 k) hl
theorem l_cells (x0 v : Int) (t0 : z_is G x0 3) (o : okS h x0) (c : okC h x0) (hv : z_in64 v) : ∀ (n : Nat) (x3 x4 : Int), x4 = h x0 1 * h x0 2 - n → 0 ≤ x4 → x3 = zct (fun i => h (x0 + 1) i = v) x4.toNat →
    z_Y D M_X4_cellsThatAre d 5 [(0, 2, x0), (1, 1, v), (3, 0, x3), (4, 0, x4)] [] G h (fun o G' h' => o = .inl (some (0, zct (fun i => h (x0 + 1) i = v) (h x0 1 * h x0 2).toNat)) ∧ G' = G ∧ h' = h) := by
  have rc := o.rc
  intro n
  induction n with
  | zero =>
    intro x3 x4 e h4 e3
    exact b_X4_cellsThatAre_5 t0 ⟨by omega, by omega⟩ ⟨by omega, by omega⟩ (fun c => by omega) (fun c => by omega) (fun c => by omega) (fun c => by omega) (fun _ => ⟨by rw [e3, show x4 = h x0 1 * h x0 2 by omega], rfl, rfl⟩) (fun c => by omega) (fun c => by omega)
  | succ n ih =>
    intro x3 x4 e h4 e3
    have hc := c x4 h4 (by omega)
    have e4 : (x4 + 1).toNat = x4.toNat + 1 := by omega
    have ee : ((x4.toNat : Nat) : Int) = x4 := Int.toNat_of_nonneg h4
    refine b_X4_cellsThatAre_5 t0 ⟨by omega, by omega⟩ ⟨by omega, by omega⟩ (fun _ => h4) (fun c => by omega) (fun _ => ⟨by omega, by omega⟩) (fun _ => hv) (fun c => by omega) (fun c1 c2 => ?_) (fun c1 c2 => ?_)
    · refine ih x3 (x4 + 1) (by omega) (by omega) ?_
      rw [e4, zct, z_b0 (by rw [ee]; exact c2), ← e3]
      omega
    · refine ih (x3 + 1) (x4 + 1) (by omega) (by omega) ?_
      rw [e4, zct, z_b1 (by rw [ee]; exact Classical.not_not.mp c2), ← e3]
theorem a_X4_cellsThatAre (hd : 1 ≤ d) (x0 v : Int) (t0 : z_is G x0 3) (o : okS h x0) (c : okC h x0) (hv : z_in64 v) : z_Ei D M_X4_cellsThatAre d [(2, x0), (1, v)] G h (zct (fun i => h (x0 + 1) i = v) (h x0 1 * h x0 2).toNat) h := by
  have rc := o.rc
  exact z_begin mo_X4_cellsThatAre rfl (nle rfl) (b_X4_cellsThatAre_0 (l_cells x0 v t0 o c hv (h x0 1 * h x0 2).toNat 0 0 (by omega) (by omega) rfl))
theorem a_X4_empties (hd : 2 ≤ d) (x0 : Int) (t0 : z_is G x0 3) (o : okS h x0) (c : okC h x0) : z_Ei D M_X4_empties d [(2, x0)] G h (zct (fun i => h (x0 + 1) i = 0) (h x0 1 * h x0 2).toNat) h :=
  z_begin mo_X4_empties rfl (nle rfl) (b_X4_empties_0 t0 (z_Ki.of (d2 := d - 1) (by omega) (a_X4_cellsThatAre (by omega) x0 0 t0 o c ⟨by omega, by omega⟩) fun o G' h' _ hh => ⟨_, hh.1, by rw [hh.2.1, hh.2.2]; exact b_X4_empties_5 ⟨rfl, rfl, rfl⟩⟩))
theorem a_X4_anys (hd : 2 ≤ d) (x0 : Int) (t0 : z_is G x0 3) (o : okS h x0) (c : okC h x0) : z_Ei D M_X4_anys d [(2, x0)] G h (zct (fun i => h (x0 + 1) i = -1) (h x0 1 * h x0 2).toNat) h :=
  z_begin mo_X4_anys rfl (nle rfl) (b_X4_anys_0 t0 (z_Ki.of (d2 := d - 1) (by omega) (a_X4_cellsThatAre (by omega) x0 (-1) t0 o c ⟨by omega, by omega⟩) fun o G' h' _ hh => ⟨_, hh.1, by rw [hh.2.1, hh.2.2]; exact b_X4_anys_7 ⟨rfl, rfl, rfl⟩⟩))
end Tab4
