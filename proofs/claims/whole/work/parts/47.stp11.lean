/-! sort: rows put in one by one -/
def zup (g : Int → Int) (k v : Int) : Int → Int := fun x => if x = k then v else g x
noncomputable def zsi (key : Int → Int) (r : Int) : Nat → (Int → Int) → Int × (Int → Int)
  | 0, g => (0, zup g 0 r)
  | p + 1, g => zif (key (g p) ≤ key r) ((p + 1 : Nat), zup g (p + 1 : Nat) r) (zsi key r p (zup g (p + 1 : Nat) (g p)))
noncomputable def zso (key : Int → Int) : Nat → Int → Int
  | 0 => fun _ => 0
  | n + 1 => (zsi key n n (zso key n)).2
noncomputable def zmv (key : Int → Int) : Nat → Prop
  | 0 => False
  | n + 1 => zmv key n ∨ (zsi key n n (zso key n)).1 < n
noncomputable def sSort (a : Int) (T : zTb) : Option zTb := zif (zmv (fun r => zkey (T.2.2 r a)) T.1.toNat) (some (sRows T.1 (zso (fun r => zkey (T.2.2 r a)) T.1.toNat) T)) none
theorem zsi_rg {key : Int → Int} {r : Int} (hr : 0 ≤ r) : ∀ (p : Nat) (g : Int → Int), (p : Int) ≤ r → (∀ k : Int, 0 ≤ k → k ≤ r → ¬ k = p → 0 ≤ g k ∧ g k ≤ r) → (0 ≤ (zsi key r p g).1 ∧ (zsi key r p g).1 ≤ p) ∧ ∀ k : Int, 0 ≤ k → k ≤ r → 0 ≤ (zsi key r p g).2 k ∧ (zsi key r p g).2 k ≤ r
  | 0, g, hp, hg => by
    refine ⟨⟨Int.le_refl _, Int.le_refl _⟩, fun k k0 k1 => ?_⟩
    show 0 ≤ zup g 0 r k ∧ zup g 0 r k ≤ r
    unfold zup
    split
    · omega
    · next q => exact hg k k0 k1 (by omega)
  | p + 1, g, hp, hg => by
    rw [zsi]
    by_cases c : key (g p) ≤ key r
    · rw [zif1 c]
      refine ⟨⟨by dsimp only; omega, by dsimp only; omega⟩, fun k k0 k1 => ?_⟩
      show 0 ≤ zup g (p + 1 : Nat) r k ∧ zup g (p + 1 : Nat) r k ≤ r
      unfold zup
      split
      · omega
      · next q => exact hg k k0 k1 q
    · rw [zif0 c]
      have := zsi_rg (key := key) hr p (zup g (p + 1 : Nat) (g p)) (by omega) (fun k k0 k1 kn => by
        unfold zup
        split
        · exact hg p (by omega) (by omega) (by omega)
        · next q => exact hg k k0 k1 q)
      exact ⟨⟨this.1.1, by omega⟩, this.2⟩
theorem zso_rg {key : Int → Int} : ∀ (n : Nat) (k : Int), 0 ≤ k → k < n → 0 ≤ zso key n k ∧ zso key n k < n
  | 0, k, h0, h1 => by omega
  | n + 1, k, h0, h1 => by
    have ih := zso_rg (key := key) n
    have := (zsi_rg (key := key) (r := n) (by omega) n (zso key n) (Int.le_refl _) (fun k k0 k1 kn => by have := ih k k0 (by omega); omega)).2 k h0 (by omega)
    show 0 ≤ (zsi key n n (zso key n)).2 k ∧ (zsi key n n (zso key n)).2 k < _
    omega
section Stp11
variable {D : zD} {d : Nat} {G : zG} {h h0 : zH} {Q : zO → zG → zH → Prop}
theorem l_sort31 (hd : 3 ≤ d) {i o a r x4 : Int} {T : zTb} (ap : apS G i o) (ki : isC h0 i T) (oT : okT T) (nT : noA T) (ha : 0 ≤ a) (ha' : a < T.2.1) {key : Int → Int} (ek : ∀ r : Int, key r = zkey (T.2.2 r a)) (r0 : 0 ≤ r) (r1 : r < T.1) : ∀ (p : Nat) (g : Int → Int) (h : zH), (p : Int) ≤ r → frS o h0 h → (∀ k : Int, 0 ≤ k → k ≤ r → ¬ k = p → h 18 k = g k ∧ 0 ≤ g k ∧ g k ≤ r) →
    (∀ h' : zH, frS o h0 h' → (∀ k : Int, 0 ≤ k → k ≤ r → z_wr h' 18 (zsi key r p g).1 r 18 k = (zsi key r p g).2 k) → z_Y D M_X3_sort d 81 [(0, 2, 12), (1, 2, i), (2, 2, o), (3, 0, a), (4, 0, x4), (5, 0, r), (8, 0, (zsi key r p g).1)] [] G h' Q) →
    z_Y D M_X3_sort d 31 [(0, 2, 12), (1, 2, i), (2, 2, o), (3, 0, a), (4, 0, x4), (5, 0, r), (6, 1, key r), (8, 0, (p : Int))] [] G h Q := by
  have sh := oT.1
  intro p
  induction p with
  | zero =>
    intro g h hp f hg kk
    refine b_X3_sort_31 hd ⟨by omega, by omega⟩ (fun c => by omega) (fun c => by omega) (fun c => by omega) (fun c => by omega) (fun c => by omega) (fun c => by omega) (fun c => by omega) (fun c => by omega) (fun c => by omega) (fun c => by omega) (fun c => by omega) (fun _ => kk h f fun k k0 k1 => ?_) (fun c => by omega) (fun c => by omega)
    show z_wr h 18 0 r 18 k = zup g 0 r k
    unfold zup z_wr
    by_cases e : k = 0
    · rw [if_pos ⟨rfl, e⟩, if_pos e]
    · rw [if_neg (fun w => e w.2), if_neg e]
      exact (hg k k0 k1 (by omega)).1
  | succ p ih =>
    intro g h hp f hg kk
    have k' := isC_fr ap ki f
    have e1 := k'.1; have e2 := k'.2.1
    have gp := hg p (by omega) (by omega) (by omega)
    have j1 := isC_ix k' oT (r := g p) (c := a) (by omega) (by omega) (by omega) (by omega)
    have w1 := nT (g p) a (by omega) (by omega) (by omega) (by omega)
    have w2 := oT.2 (g p) a (by omega) (by omega) (by omega) (by omega)
    have w3 := nT r a (by omega) (by omega) (by omega) (by omega)
    have w4 := oT.2 r a (by omega) (by omega) (by omega) (by omega)
    have y1 := zkey_rg w1 w2.2
    have y2 := zkey_rg w3 w4.2
    have ep : ((p + 1 : Nat) : Int) - 1 = p := by omega
    refine b_X3_sort_31 hd ⟨by omega, by omega⟩ (fun c => by omega) (fun c => by omega) (fun c => ap.1) (fun c => by rw [ep, gp.1]; exact j1.1) (fun c => by rw [ep, gp.1]; exact j1.2.1) (fun c => by rw [ep, gp.1, j1.2.2.1]; exact w1) (fun c => by rw [ep, gp.1, j1.2.2.1]; exact w2.2) (fun c => by rw [ep, gp.1, j1.2.2.1]; exact ⟨by omega, by omega⟩) (fun c => by rw [ek]; exact ⟨by omega, by omega⟩) (fun c c2 => by omega) (fun c c2 => by omega) (fun c => by omega) (fun c c2 => ?_) (fun c c2 => ?_)
    · rw [ep, gp.1, j1.2.2.1, ← ek] at c2
      rw [zsi, zif1 c2] at kk
      refine kk h f fun k k0 k1 => ?_
      show z_wr h 18 (p + 1 : Nat) r 18 k = zup g (p + 1 : Nat) r k
      unfold zup z_wr
      by_cases e : k = (p + 1 : Nat)
      · rw [if_pos ⟨rfl, e⟩, if_pos e]
      · rw [if_neg (fun w => e w.2), if_neg e]
        exact (hg k k0 k1 e).1
    · rw [ep, gp.1, j1.2.2.1, ← ek] at c2
      rw [zsi, zif0 c2] at kk
      rw [ep, gp.1, show ((p + 1 : Nat) : Int) + -1 = p by omega]
      refine ih (zup g (p + 1 : Nat) (g p)) _ (by omega) (f.w (Or.inr (Or.inr (by omega)))) (fun k k0 k1 kn => ?_) kk
      unfold zup z_wr
      by_cases e : k = (p + 1 : Nat)
      · rw [if_pos ⟨rfl, e⟩, if_pos e]
        exact ⟨rfl, gp.2⟩
      · rw [if_neg (fun w => e w.2), if_neg e]
        exact hg k k0 k1 e
theorem l_sort6 (hd : 3 ≤ d) {i o a : Int} {T : zTb} (ap : apS G i o) (ki : isC h0 i T) (oT : okT T) (nT : noA T) (ha : 0 ≤ a) (ha' : a < T.2.1) {key : Int → Int} (ek : key = fun r => zkey (T.2.2 r a)) : ∀ (m r : Nat) (h : zH), (r : Int) = T.1 - m → frS o h0 h → (∀ k : Int, 0 ≤ k → k < r → h 18 k = zso key r k) →
    z_Y D M_X3_sort d 6 [(0, 2, 12), (1, 2, i), (2, 2, o), (3, 0, a), (4, 0, z_b (zmv key r)), (5, 0, (r : Int))] [] G h (pC G o h0 (sSort a T)) := by
  have sh := oT.1
  intro m
  induction m with
  | zero =>
    intro r h e f hk
    have k' := isC_fr ap ki f
    have e1 := k'.1; have e2 := k'.2.1
    have er : T.1.toNat = r := by omega
    have b01 := z_b01 (zmv key r)
    refine b_X3_sort_6 hd ap.1 ⟨by omega, by omega⟩ ⟨by omega, by omega⟩ (fun _ => ⟨by omega, by omega⟩) (fun _ _ => ap.2.1) (fun _ _ => ⟨by omega, by omega⟩) (fun c => by omega) (fun c => by omega) (fun c => by omega) (fun c => by omega) (fun c c2 => ?_) (fun c c2 c3 => ?_) (fun c c2 c3 => by omega) (fun c => by omega)
    · unfold sSort
      rw [← ek, er, zif0 (fun w => by rw [z_b1 w] at c2; omega)]
      exact ⟨rfl, f, rfl⟩
    · unfold sSort
      have mv : zmv key r := Classical.byContradiction fun w => c2 (z_b0 w)
      rw [← ek, er, zif1 mv, e1, e2]
      have n18 := ap.n18 18 (by omega)
      have ff := frS_new (h := h) (o := o) (T := sRows T.1 (zso key r) T)
      refine (l_sort140 (n := T.1) (g := zso key r) (U := sRows T.1 (zso key r) T) hd ap (isC_fr ap k' ff) oT rfl rfl (fun _ _ => rfl) ⟨by dsimp only [sRows]; omega, by dsimp only [sRows]; omega, by dsimp only [sRows]; omega, by dsimp only [sRows]; omega⟩ (by omega) (fun x x0 x1 => ?_) rfl T.1.toNat 0 _ (by omega) (by omega) frS.rf (fun _ => rfl) (isP_new.imp fun r c b1 b2 b3 b4 p => by omega)).mono fun out G' h' _ hh => pC_tr (f.tr ff) hh
      rw [w_na n18.2.2.1, w_na n18.2.2.1]
      have := zso_rg (key := key) r x x0 (by omega)
      exact ⟨hk x x0 (by omega), by omega, by omega⟩
  | succ m ih =>
    intro r h e f hk
    have k' := isC_fr ap ki f
    have e1 := k'.1; have e2 := k'.2.1
    have j1 := isC_ix k' oT (r := r) (c := a) (by omega) (by omega) (by omega) (by omega)
    have w3 := nT r a (by omega) (by omega) (by omega) (by omega)
    have w4 := oT.2 r a (by omega) (by omega) (by omega) (by omega)
    have b01 := z_b01 (zmv key r)
    have hg : ∀ k : Int, 0 ≤ k → k ≤ r → ¬ k = r → 0 ≤ zso key r k ∧ zso key r k ≤ r := fun k k0 k1 kn => by have := zso_rg (key := key) r k k0 (by omega); omega
    have rg := zsi_rg (key := key) (r := r) (by omega) r (zso key r) (Int.le_refl _) hg
    refine b_X3_sort_6 hd ap.1 ⟨by omega, by omega⟩ ⟨by omega, by omega⟩ (fun c => by omega) (fun c => by omega) (fun c => by omega) (fun _ => j1.1) (fun _ => j1.2.1) (fun _ => by rw [j1.2.2.1]; exact w3) (fun _ => by rw [j1.2.2.1]; exact w4.2) (fun c => by omega) (fun c => by omega) (fun c => by omega) (fun c => ?_)
    rw [j1.2.2.1, show zkey (T.2.2 r a) = key r by rw [ek]]
    refine l_sort31 hd ap ki oT nT ha ha' (fun r => by rw [ek]) (by omega) (by omega) r (zso key r) h (Int.le_refl _) f (fun k k0 k1 kn => ⟨hk k k0 (by omega), hg k k0 k1 kn⟩) fun h' f' hk' => ?_
    have go : ∀ x4 : Int, x4 = z_b (zmv key (r + 1)) → z_Y D M_X3_sort d 6 [(0, 2, 12), (1, 2, i), (2, 2, o), (3, 0, a), (4, 0, x4), (5, 0, (r : Int) + 1)] [] G (z_wr h' 18 (zsi key r r (zso key r)).1 r) (pC G o h0 (sSort a T)) := by
      intro x4 ex
      rw [ex, show (r : Int) + 1 = ((r + 1 : Nat) : Int) by omega]
      exact ih (r + 1) _ (by omega) (f'.w (Or.inr (Or.inr (by omega)))) fun k k0 k1 => hk' k k0 (by omega)
    refine b_X3_sort_81 rg.1.1 (by omega) ⟨by omega, by omega⟩ (fun _ => ⟨by omega, by omega⟩) (fun _ => ⟨by omega, by omega⟩) (fun c => ?_) (fun c c2 => ?_) (fun c c2 => ?_)
    · have mv : zmv key r := Classical.byContradiction fun w => c (z_b0 w)
      exact b_X3_sort_102 (b_X3_sort_107 (go 1 (z_b1 (Or.inl mv)).symm))
    · refine b_X3_sort_107 (go 0 (z_b0 (fun w => ?_)).symm)
      rcases w with w | w
      · exact c (by rw [z_b1 w]; omega)
      · omega
    · exact b_X3_sort_102 (b_X3_sort_107 (go 1 (z_b1 (Or.inr (by omega))).symm))
theorem c_sort (hd : 3 ≤ d) {i o a : Int} {T : zTb} (ap : apS G i o) (ki : isC h i T) (oT : okT T) (nT : noA T) (ha : 0 ≤ a) (ha' : a < T.2.1) : z_CY D M_X3_sort d [(2, 12), (2, i), (2, o), (0, a)] G h (pC G o h (sSort a T)) := by
  have sh := oT.1
  have k1 := l_sort6 (D := D) hd ap ki oT nT ha ha' rfl T.1.toNat 0 h (by omega) frS.rf (fun k k0 k1 => by omega)
  rw [z_b0 (p := zmv (fun r => zkey (T.2.2 r a)) 0) (fun w => w)] at k1
  exact z_begin mo_X3_sort rfl (nle rfl) (b_X3_sort_0 k1)
end Stp11
