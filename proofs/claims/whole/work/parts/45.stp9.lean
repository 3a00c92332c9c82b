section Stp9
variable {D : zD} {d : Nat} {G : zG} {h h0 : zH} {Q : zO → zG → zH → Prop}
/-! chosen rows put (wip/gen/rowsby.py) -/
theorem l_keep72 (hd : 3 ≤ d) {i o n : Int} {T U : zTb} {g : Int → Int} (ap : apS G i o) (ki : isC h0 i T) (oT : okT T) (u1 : U.1 = n) (u2 : U.2.1 = T.2.1) (uv : ∀ r c : Int, U.2.2 r c = T.2.2 (g r) c) (oU : shT U) (hn : n ≤ T.1) (hg : ∀ k : Int, 0 ≤ k → k < n → h0 18 k = g k ∧ 0 ≤ g k ∧ g k < T.1) : ∀ (m : Nat) (x : Int) (h : zH), x = n - m → 0 ≤ x → frS o h0 h → (∀ k : Int, h 18 k = h0 18 k) → isP h o U (fun r _ => r < x) →
    z_Y D M_X3_keep d 72 [(0, 2, 12), (1, 2, i), (2, 2, o), (4, 0, n), (5, 0, x)] [] G h (pC G o h0 (some U)) := by
  have sh := oT.1
  have nod : ¬ (18 : Int) = o + 1 := by obtain ⟨-, -, -, -, -, -, -, -, q⟩ := ap; omega
  intro m
  induction m with
  | zero =>
    intro x h e x0 f hk k
    have k' := isC_fr ap ki f
    have e1 := k'.1; have e2 := k'.2.1
    exact b_X3_keep_72 hd ⟨by omega, by omega⟩ ⟨by omega, by omega⟩ (fun c => by omega) (fun c => by omega) (fun _ => ap.1) (fun _ => ap.2.1) (fun _ => ap.2.2.1) (fun c => by omega) (fun c => by omega) (fun c => by omega) (fun c => by omega) (fun c => by omega) (fun _ => ⟨rfl, f, rfl, k.all fun r c b1 b2 b3 b4 => by omega⟩) (fun c => by omega)
  | succ m ih =>
    intro x h e x0 f hk k
    have k' := isC_fr ap ki f
    have e1 := k'.1; have e2 := k'.2.1
    have e3 := k.2.1
    obtain ⟨g1, g2, g3⟩ := hg x x0 (by omega)
    have g1 : h 18 x = g x := (hk x).trans g1
    have q1 := isC_ix k' oT (r := g x) (c := T.2.1 - 1) (by omega) (by omega) (by omega) (by omega)
    have q2 := isC_ix k' oT (r := g x) (c := 0) (by omega) (by omega) (by omega) (by omega)
    have q3 := isP_ix (r := x) (c := T.2.1 - 1) k oU (by omega) (by omega) (by omega) (by omega)
    have q4 := isP_ix (r := x) (c := 0) k oU (by omega) (by omega) (by omega) (by omega)
    refine b_X3_keep_72 hd ⟨by omega, by omega⟩ ⟨by omega, by omega⟩ (fun c => by omega) (fun c => by omega) (fun _ => ap.1) (fun _ => ap.2.1) (fun _ => ap.2.2.1) (fun c => by omega) (fun c => by omega) (fun c => by omega) (fun c => by rw [g1]; omega) (fun c => by rw [g1]; omega) (fun c => by omega) (fun c => ih (x + 1) _ (by omega) (by omega) (f.c (Or.inr (Or.inl rfl))) (fun k => by rw [c_na nod]; exact hk k) ?_)
    rw [g1, e2, e3]
    exact (isP_cp k k' (r := x) (q := g x) (n := T.2.1) (by omega) (by omega) (by omega) (fun c _ _ => (uv x c).symm)).imp fun r c b1 b2 b3 b4 p => by omega

theorem l_single43 (hd : 3 ≤ d) {i o n : Int} {T U : zTb} {g : Int → Int} (ap : apS G i o) (ki : isC h0 i T) (oT : okT T) (u1 : U.1 = n) (u2 : U.2.1 = T.2.1) (uv : ∀ r c : Int, U.2.2 r c = T.2.2 (g r) c) (oU : shT U) (hn : n ≤ T.1) (hg : ∀ k : Int, 0 ≤ k → k < n → h0 14 k = g k ∧ 0 ≤ g k ∧ g k < T.1) : ∀ (m : Nat) (x : Int) (h : zH), x = n - m → 0 ≤ x → frS o h0 h → (∀ k : Int, h 14 k = h0 14 k) → isP h o U (fun r _ => r < x) →
    z_Y D M_X3_single d 43 [(0, 2, 12), (1, 2, i), (2, 2, o), (3, 0, n), (4, 0, x)] [] G h (pC G o h0 (some U)) := by
  have sh := oT.1
  have nod : ¬ (14 : Int) = o + 1 := by obtain ⟨-, -, -, -, -, -, -, -, q⟩ := ap; omega
  intro m
  induction m with
  | zero =>
    intro x h e x0 f hk k
    have k' := isC_fr ap ki f
    have e1 := k'.1; have e2 := k'.2.1
    exact b_X3_single_43 hd ⟨by omega, by omega⟩ ⟨by omega, by omega⟩ (fun c => by omega) (fun c => by omega) (fun _ => ap.1) (fun _ => ap.2.1) (fun _ => ap.2.2.1) (fun c => by omega) (fun c => by omega) (fun c => by omega) (fun c => by omega) (fun c => by omega) (fun _ => ⟨rfl, f, rfl, k.all fun r c b1 b2 b3 b4 => by omega⟩) (fun c => by omega)
  | succ m ih =>
    intro x h e x0 f hk k
    have k' := isC_fr ap ki f
    have e1 := k'.1; have e2 := k'.2.1
    have e3 := k.2.1
    obtain ⟨g1, g2, g3⟩ := hg x x0 (by omega)
    have g1 : h 14 x = g x := (hk x).trans g1
    have q1 := isC_ix k' oT (r := g x) (c := T.2.1 - 1) (by omega) (by omega) (by omega) (by omega)
    have q2 := isC_ix k' oT (r := g x) (c := 0) (by omega) (by omega) (by omega) (by omega)
    have q3 := isP_ix (r := x) (c := T.2.1 - 1) k oU (by omega) (by omega) (by omega) (by omega)
    have q4 := isP_ix (r := x) (c := 0) k oU (by omega) (by omega) (by omega) (by omega)
    refine b_X3_single_43 hd ⟨by omega, by omega⟩ ⟨by omega, by omega⟩ (fun c => by omega) (fun c => by omega) (fun _ => ap.1) (fun _ => ap.2.1) (fun _ => ap.2.2.1) (fun c => by omega) (fun c => by omega) (fun c => by omega) (fun c => by rw [g1]; omega) (fun c => by rw [g1]; omega) (fun c => by omega) (fun c => ih (x + 1) _ (by omega) (by omega) (f.c (Or.inr (Or.inl rfl))) (fun k => by rw [c_na nod]; exact hk k) ?_)
    rw [g1, e2, e3]
    exact (isP_cp k k' (r := x) (q := g x) (n := T.2.1) (by omega) (by omega) (by omega) (fun c _ _ => (uv x c).symm)).imp fun r c b1 b2 b3 b4 p => by omega

theorem l_sort140 (hd : 3 ≤ d) {i o n : Int} {T U : zTb} {g : Int → Int} (ap : apS G i o) (ki : isC h0 i T) (oT : okT T) (u1 : U.1 = n) (u2 : U.2.1 = T.2.1) (uv : ∀ r c : Int, U.2.2 r c = T.2.2 (g r) c) (oU : shT U) (hn : n ≤ T.1) (hg : ∀ k : Int, 0 ≤ k → k < n → h0 18 k = g k ∧ 0 ≤ g k ∧ g k < T.1) (en : n = T.1) : ∀ (m : Nat) (x : Int) (h : zH), x = n - m → 0 ≤ x → frS o h0 h → (∀ k : Int, h 18 k = h0 18 k) → isP h o U (fun r _ => r < x) →
    z_Y D M_X3_sort d 140 [(0, 2, 12), (1, 2, i), (2, 2, o), (5, 0, x)] [] G h (pC G o h0 (some U)) := by
  have sh := oT.1
  have nod : ¬ (18 : Int) = o + 1 := by obtain ⟨-, -, -, -, -, -, -, -, q⟩ := ap; omega
  intro m
  induction m with
  | zero =>
    intro x h e x0 f hk k
    have k' := isC_fr ap ki f
    have e1 := k'.1; have e2 := k'.2.1
    exact b_X3_sort_140 hd ap.1 ⟨by omega, by omega⟩ ⟨by omega, by omega⟩ (fun c => by omega) (fun c => by omega) (fun _ => ap.2.1) (fun _ => ap.2.2.1) (fun c => by omega) (fun c => by omega) (fun c => by omega) (fun c => by omega) (fun c => by omega) (fun _ => ⟨rfl, f, rfl, k.all fun r c b1 b2 b3 b4 => by omega⟩) (fun c => by omega)
  | succ m ih =>
    intro x h e x0 f hk k
    have k' := isC_fr ap ki f
    have e1 := k'.1; have e2 := k'.2.1
    have e3 := k.2.1
    obtain ⟨g1, g2, g3⟩ := hg x x0 (by omega)
    have g1 : h 18 x = g x := (hk x).trans g1
    have q1 := isC_ix k' oT (r := g x) (c := T.2.1 - 1) (by omega) (by omega) (by omega) (by omega)
    have q2 := isC_ix k' oT (r := g x) (c := 0) (by omega) (by omega) (by omega) (by omega)
    have q3 := isP_ix (r := x) (c := T.2.1 - 1) k oU (by omega) (by omega) (by omega) (by omega)
    have q4 := isP_ix (r := x) (c := 0) k oU (by omega) (by omega) (by omega) (by omega)
    refine b_X3_sort_140 hd ap.1 ⟨by omega, by omega⟩ ⟨by omega, by omega⟩ (fun c => by omega) (fun c => by omega) (fun _ => ap.2.1) (fun _ => ap.2.2.1) (fun c => by omega) (fun c => by omega) (fun c => by omega) (fun c => by rw [g1]; omega) (fun c => by rw [g1]; omega) (fun c => by omega) (fun c => ih (x + 1) _ (by omega) (by omega) (f.c (Or.inr (Or.inl rfl))) (fun k => by rw [c_na nod]; exact hk k) ?_)
    rw [g1, e2, e3]
    exact (isP_cp k k' (r := x) (q := g x) (n := T.2.1) (by omega) (by omega) (by omega) (fun c _ _ => (uv x c).symm)).imp fun r c b1 b2 b3 b4 p => by omega
end Stp9
