/-! the States made so far, and the slots that find them -/
theorem zct_all {p : Int → Prop} : ∀ n : Nat, (∀ i : Int, 0 ≤ i → i < n → p i) → zct p n = n := by
  intro n
  induction n with
  | zero => intro _; rfl
  | succ n ih =>
    intro k
    rw [zct, ih fun i a b => k i a (by omega), z_b1 (k n (by omega) (by omega))]
    omega
theorem zct_up {p q : Int → Prop} {k : Int} (k0 : 0 ≤ k) (np : ¬ p k) (qk : q k) (e : ∀ i : Int, ¬ i = k → (p i ↔ q i)) : ∀ n : Nat, k < n → zct q n = zct p n + 1 := by
  intro n
  induction n with
  | zero => intro w; omega
  | succ n ih =>
    intro w
    rw [zct, zct]
    by_cases z : k = n
    · rw [← z, z_b0 np, z_b1 qk, zct_congr (p := q) (q := p) n fun i a b => (e i (by omega)).symm]
      omega
    · rw [ih (by omega)]
      have : z_b (q n) = z_b (p n) := by
        by_cases y : p n
        · rw [z_b1 y, z_b1 ((e n (by omega)).1 y)]
        · rw [z_b0 y, z_b0 fun w => y ((e n (by omega)).2 w)]
      omega
/-- sums over places -/
def sI (f : Int → Int) : Nat → Int
  | 0 => 0
  | n + 1 => sI f n + f n
theorem sI_c {f g : Int → Int} : ∀ n : Nat, (∀ i : Int, 0 ≤ i → i < n → f i = g i) → sI f n = sI g n := by
  intro n
  induction n with
  | zero => intro _; rfl
  | succ n ih => intro k; rw [sI, sI, ih fun i a b => k i a (by omega), k n (by omega) (by omega)]
theorem sI_u {f g : Int → Int} {k : Int} (k0 : 0 ≤ k) : ∀ n : Nat, k < n → (∀ i : Int, 0 ≤ i → i < n → ¬ i = k → f i = g i) → sI f n + g k = sI g n + f k := by
  intro n
  induction n with
  | zero => intro w; omega
  | succ n ih =>
    intro w e
    rw [sI, sI]
    by_cases z : k = n
    · subst z
      rw [sI_c (g := g) n fun i a b => e i a (by omega) (by omega)]
      omega
    · have := ih (by omega) fun i a b => e i a (by omega)
      rw [e n (by omega) (by omega) (fun q => z q.symm)]
      omega
def pool (G : zG) (h : zH) (n : Int) : Prop := (0 ≤ n ∧ n ≤ 1500) ∧ (∀ i : Int, 0 ≤ i → i < n → stS G h (h 48 i) ∧ 114 ≤ h 48 i ∧ 114 ≤ h (h 48 i) 0) ∧ (∀ i j : Int, 0 ≤ i → i < j → j < n → ¬ h 48 i = h 48 j ∧ ¬ h (h 48 i) 0 = h (h 48 j) 0) ∧ ∀ i : Int, n ≤ i → i < 1500 → h 48 i = -1
theorem pool.ne {G : zG} {h : zH} {n : Int} (p : pool G h n) {i j : Int} (i0 : 0 ≤ i) (i1 : i < n) (j0 : 0 ≤ j) (j1 : j < n) (ne : ¬ i = j) : ¬ h 48 i = h 48 j ∧ ¬ h (h 48 i) 0 = h (h 48 j) 0 := by
  by_cases z : i < j
  · exact p.2.2.1 i j i0 z j1
  · have := p.2.2.1 j i j0 (by omega) i1
    exact ⟨fun q => this.1 q.symm, fun q => this.2 q.symm⟩
def hsh (h : zH) (s : bS) : Prop := zct (fun k => ¬ h 49 k = 0) 4096 = s.1 ∧ (∀ k : Int, 0 ≤ k → k < 4096 → 0 ≤ h 49 k ∧ h 49 k ≤ s.1) ∧ ∀ i : Int, 0 ≤ i → i < s.1 → ∃ t : Int, 0 ≤ t ∧ t < 4096 ∧ h 49 ((mx (s.2 i) + t) % 4096) = i + 1 ∧ ∀ u : Int, 0 ≤ u → u < t → ¬ h 49 ((mx (s.2 i) + u) % 4096) = 0
def dst (s : bS) : Prop := ∀ i j : Int, 0 ≤ i → i < j → j < s.1 → ¬ seqS (s.2 i) (s.2 j)
def heS (G : zG) (h : zH) (s : bS) : Prop := ∀ i : Int, 0 ≤ i → i < s.1 → isS h (h 48 i) (s.2 i) ∧ okP (s.2 i) ∧ sz (s.2 i).1 + sz (s.2 i).2 ≤ G.2.2.2 (h (h 48 i) 0)
def SS (G : zG) (h : zH) (n : Int) (s : bS) : Prop := pool G h n ∧ (0 ≤ s.1 ∧ s.1 ≤ n) ∧ h 33 14 = s.1 ∧ hsh h s ∧ dst s ∧ heS G h s
theorem dst_idx {s : bS} {P : zSt} (q : dst s) {i : Int} (i0 : 0 ≤ i) (i1 : i < s.1) (e : seqS (s.2 i) P) : idx s P = i :=
  idx_eq i0 ⟨i1, e⟩ fun j j0 j1 w => q j i j0 j1 i1 (w.2.tr e.sy)
/-- where the slot search ends -/
def slQ (h : zH) (s : bS) (S : zSt) (k : Int) : Prop := (0 ≤ k ∧ k < 4096) ∧ ((h 49 k = 0 ∧ idx s S = -1 ∧ ∃ t : Int, 0 ≤ t ∧ t < 4096 ∧ k = (mx S + t) % 4096 ∧ ∀ u : Int, 0 ≤ u → u < t → ¬ h 49 ((mx S + u) % 4096) = 0) ∨ (0 ≤ idx s S ∧ h 49 k = idx s S + 1))
section Slot
variable {D : zD} {d : Nat} {G : zG} {h h0 h1 : zH} {Q : zO → zG → zH → Prop}
theorem l_slotOf8 (hd : 2 ≤ d) {n : Int} {s : bS} {S : zSt} (ss : SS G h n s) (kt : isC h 38 S.1) (ku : isC h 40 S.2) (oS : okP S) : ∀ (m : Nat) (i k : Int), 4096 = i + m → 0 ≤ i → k = (mx S + i) % 4096 → (∀ u : Int, 0 ≤ u → u < i → ¬ h 49 ((mx S + u) % 4096) = 0 ∧ ∀ e : Int, h 49 ((mx S + u) % 4096) = e + 1 → ¬ seqS (s.2 e) S) →
    z_Y D M_X1_slotOf d 8 [(0, 2, 33), (1, 0, mx S), (2, 0, k), (3, 0, i)] [] G h (fun out G' h' => G' = G ∧ h' = h ∧ ∃ r : Int, out = .inl (some (0, r)) ∧ slQ h s S r) := by
  obtain ⟨po, sn, e14, ⟨hz, hr, hc⟩, ds, he⟩ := ss
  have p1 := po.1
  intro m
  induction m with
  | zero =>
    intro i k e i0 ek inv
    refine b_X1_slotOf_8 ⟨by omega, by omega⟩ (fun c => by omega) (fun c => by omega) (fun c => by omega) (fun c => by omega) (fun c => by omega) (fun c => by omega) (fun c => by omega) (fun c => by omega) (fun _ => ?_) (fun c => by omega) (fun c => by omega) (fun c => by omega)
    exfalso
    have := zct_all (p := fun k => ¬ h 49 k = 0) 4096 fun j j0 j1 => by
      have q := (inv ((j - mx S) % 4096) (by omega) (by omega)).1
      rw [show (mx S + (j - mx S) % 4096) % 4096 = j by omega] at q
      exact q
    omega
  | succ m ih =>
    intro i k e i0 ek inv hl
    have kr : 0 ≤ k ∧ k < 4096 := by omega
    have hk := hr k kr.1 kr.2
    have go : (¬ h 49 k = 0 ∧ ∀ e : Int, h 49 k = e + 1 → ¬ seqS (s.2 e) S) → z_Y D M_X1_slotOf d 66 [(0, 2, 33), (1, 0, mx S), (2, 0, k), (3, 0, i)] [] G h (fun out G' h' => G' = G ∧ h' = h ∧ ∃ r : Int, out = .inl (some (0, r)) ∧ slQ h s S r) := by
      intro w
      refine b_X1_slotOf_66 ?_
      rw [z_iand4095]
      refine ih (i + 1) _ (by omega) (by omega) (by omega) fun u u0 u1 => ?_
      by_cases z : u = i
      · rw [z, ← ek]; exact w
      · exact inv u u0 (by omega)
    have fresh : h 49 k = 0 → idx s S = -1 := by
      intro w
      rcases idx_rg s S with q | q
      · exact q.1
      · exfalso
        obtain ⟨q0, ⟨q1, q2⟩, -⟩ := q
        obtain ⟨t, t0, t1, t2, t3⟩ := hc _ q0 q1
        rw [mx_eq (he _ q0 q1).2.1 q2] at t2 t3
        by_cases z : t < i
        · exact (inv t t0 z).2 _ t2 q2
        · by_cases y : t = i
          · rw [y, ← ek, w] at t2; omega
          · exact t3 i i0 (by omega) (by rw [← ek]; exact w)
    by_cases z : h 49 k = 0
    · exact b_X1_slotOf_8 ⟨by omega, by omega⟩ (fun c => by omega) (fun c => by omega) (fun c => ⟨by omega, by omega⟩) (fun c => by omega) (fun c => by omega) (fun c w => absurd z w) (fun c w => absurd z w) (fun c w => absurd z w) (fun c => by omega) (fun c w => ⟨rfl, rfl, k, rfl, kr, Or.inl ⟨w, fresh w, i, i0, by omega, ek, fun u u0 u1 => (inv u u0 u1).1⟩⟩) (fun c w => absurd z w) (fun c w => absurd z w) hl
    · have x0 : 0 ≤ h 49 k - 1 := by omega
      have x1 : h 49 k - 1 < s.1 := by omega
      obtain ⟨ks, ok, ln⟩ := he _ x0 x1
      obtain ⟨st, a1, a2⟩ := po.2.1 _ x0 (by omega)
      have mi := mx_in (s.2 (h 49 k - 1))
      refine b_X1_slotOf_8 ⟨by omega, by omega⟩ (fun c => by omega) (fun c => by omega) (fun c => ⟨by omega, by omega⟩) (fun c _ => by omega) (fun c _ => by omega) (fun c w => st.1) (fun c w => by rw [ks.2.2.2]; exact mi) (fun c w => mx_in S) (fun c => by omega) (fun c w => absurd w z) (fun c w q => ?_) (fun c w q => ?_) hl
      · refine go ⟨z, fun e ee k2 => q ?_⟩
        rw [ks.2.2.2, show h 49 k - 1 = e by omega]
        exact mx_eq (by have := ok; rw [show h 49 k - 1 = e by omega] at this; exact this) k2
      · refine z_Ki.of (d2 := d - 1) (by omega) (a_X2_holds (by omega) st ks ok ln (hl.i 38 (by decide) rfl) (hl.i 40 (by decide) rfl) kt ku oS) ?_
        rintro out G' h' hl' ⟨r1, rfl, rfl⟩
        have r01 := z_b01 (seqS (s.2 (h' 49 k - 1)) S)
        refine ⟨_, r1, b_X1_slotOf_61 ⟨by omega, by omega⟩ (fun c => ?_) (fun c => ⟨rfl, rfl, k, rfl, kr, Or.inr ?_⟩)⟩
        · refine go ⟨z, fun e ee k2 => ?_⟩
          rw [show h' 49 k - 1 = e by omega, z_b1 k2] at c
          cases c
        · have w : seqS (s.2 (h' 49 k - 1)) S := Classical.byContradiction fun w => c (z_b0 w)
          rw [dst_idx ds x0 x1 w]
          exact ⟨x0, by omega⟩
theorem c_slotOf (hd : 2 ≤ d) {n : Int} {s : bS} {S : zSt} (ss : SS G h n s) (kt : isC h 38 S.1) (ku : isC h 40 S.2) (oS : okP S) : z_CY D M_X1_slotOf d [(2, 33), (0, mx S)] G h (fun out G' h' => G' = G ∧ h' = h ∧ ∃ r : Int, out = .inl (some (0, r)) ∧ slQ h s S r) := by
  refine z_begin mo_X1_slotOf rfl (nle rfl) (b_X1_slotOf_0 ?_)
  rw [z_iand4095]
  exact l_slotOf8 hd ss kt ku oS 4096 0 _ (by omega) (by omega) (by rw [Int.add_zero]) fun u a b => by omega
end Slot
