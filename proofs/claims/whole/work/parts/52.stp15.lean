section Stp16
variable {D : zD} {d : Nat} {G : zG} {h h0 : zH} {Q : zO → zG → zH → Prop}
/-! hasNameTwice -/
theorem l_twice9 {R r : Int} (hR : 0 ≤ R ∧ R ≤ 12) (k13 : ∀ q : Int, 0 ≤ q → q < R → z_in (h 13 q)) (k15 : ∀ q : Int, 0 ≤ q → q < R → z_in (h 15 q)) (r0 : 1 ≤ r) (r1 : r < R)
    (k1 : (∀ q : Int, 0 ≤ q → q < r → ¬ (h 13 r = h 13 q ∧ h 15 r = h 15 q)) → z_Y D M_X3_hasNameTwice d 2 [(0, 2, 12), (1, 0, R), (2, 0, r + 1)] [] G h Q)
    (k2 : (∃ q : Int, 0 ≤ q ∧ q < r ∧ h 13 r = h 13 q ∧ h 15 r = h 15 q) → Q (.inl (some (0, 1))) G h) : ∀ (m : Nat) (q : Int), q = r - m → 0 ≤ q → (∀ s : Int, 0 ≤ s → s < q → ¬ (h 13 r = h 13 s ∧ h 15 r = h 15 s)) →
    z_Y D M_X3_hasNameTwice d 9 [(0, 2, 12), (1, 0, R), (2, 0, r), (3, 0, q)] [] G h Q := by
  intro m
  induction m with
  | zero =>
    intro q e q0 hs
    exact b_X3_hasNameTwice_9 ⟨by omega, by omega⟩ ⟨by omega, by omega⟩ (fun c => by omega) (fun c => by omega) (fun c => by omega) (fun c => by omega) (fun c => by omega) (fun c => by omega) (fun c => by omega) (fun c => by omega) (fun _ => k1 fun s s0 s1 => hs s s0 (by omega)) (fun c => by omega) (fun c => by omega) (fun c => by omega)
  | succ m ih =>
    intro q e q0 hs
    have nx : ¬ (h 13 r = h 13 q ∧ h 15 r = h 15 q) → ∀ s : Int, 0 ≤ s → s < q + 1 → ¬ (h 13 r = h 13 s ∧ h 15 r = h 15 s) := by
      intro nq s s0 s1
      by_cases e5 : s = q
      · rw [e5]; exact nq
      · exact hs s s0 (by omega)
    refine b_X3_hasNameTwice_9 ⟨by omega, by omega⟩ ⟨by omega, by omega⟩ (fun c => by omega) (fun c => by omega) (fun c => by omega) (fun c => by omega) (fun c => k13 r (by omega) r1) (fun c => k13 q q0 (by omega)) (fun c _ => k15 r (by omega) r1) (fun c _ => k15 q q0 (by omega)) (fun c => by omega) (fun c c2 => ih (q + 1) (by omega) (by omega) (nx fun w => c2 w.1)) (fun c c2 c3 => ih (q + 1) (by omega) (by omega) (nx fun w => c3 w.2)) (fun c c2 c3 => k2 ⟨q, q0, by omega, Classical.not_not.mp c2, Classical.not_not.mp c3⟩)
theorem l_twice2 {R : Int} (hR : 0 ≤ R ∧ R ≤ 12) (k13 : ∀ q : Int, 0 ≤ q → q < R → z_in (h 13 q)) (k15 : ∀ q : Int, 0 ≤ q → q < R → z_in (h 15 q)) : ∀ (m : Nat) (r : Int), R ≤ r + m → 1 ≤ r → r ≤ 13 → (∀ s q : Int, 0 ≤ q → q < s → s < r → s < R → ¬ (h 13 s = h 13 q ∧ h 15 s = h 15 q)) →
    z_Y D M_X3_hasNameTwice d 2 [(0, 2, 12), (1, 0, R), (2, 0, r)] [] G h (fun o G' h' => o = .inl (some (0, z_b (∃ s q : Int, 0 ≤ q ∧ q < s ∧ s < R ∧ h 13 s = h 13 q ∧ h 15 s = h 15 q))) ∧ G' = G ∧ h' = h) := by
  intro m
  induction m with
  | zero =>
    intro r e r0 r1 hs
    refine b_X3_hasNameTwice_2 ⟨by omega, by omega⟩ ⟨by omega, by omega⟩ (fun _ => ⟨?_, rfl, rfl⟩) (fun c => by omega)
    rw [z_b0]
    rintro ⟨s, q, q0, q1, q2, q3⟩
    exact hs s q q0 q1 (by omega) q2 q3
  | succ m ih =>
    intro r e r0 r1 hs
    refine b_X3_hasNameTwice_2 ⟨by omega, by omega⟩ ⟨by omega, by omega⟩ (fun _ => ⟨?_, rfl, rfl⟩) (fun c => l_twice9 hR k13 k15 r0 (by omega) (fun none => ih (r + 1) (by omega) (by omega) (by omega) ?_) (fun ⟨q, q0, q1, q2⟩ => ⟨?_, rfl, rfl⟩) r.toNat 0 (by omega) (by omega) (fun s s0 s1 => by omega))
    · rw [z_b0]
      rintro ⟨s, q, q0, q1, q2, q3⟩
      exact hs s q q0 q1 (by omega) q2 q3
    · intro s q q0 q1 s1 s2
      by_cases e5 : s = r
      · rw [e5]; exact none q q0 (by omega)
      · exact hs s q q0 q1 (by omega) s2
    · rw [z_b1 ⟨r, q, q0, q1, by omega, q2⟩]
theorem a_twice {R : Int} (hR : 0 ≤ R ∧ R ≤ 12) (k13 : ∀ q : Int, 0 ≤ q → q < R → z_in (h 13 q)) (k15 : ∀ q : Int, 0 ≤ q → q < R → z_in (h 15 q)) : z_Ei D M_X3_hasNameTwice d [(2, 12), (0, R)] G h (z_b (∃ s q : Int, 0 ≤ q ∧ q < s ∧ s < R ∧ h 13 s = h 13 q ∧ h 15 s = h 15 q)) h :=
  z_begin mo_X3_hasNameTwice rfl (nle rfl) (b_X3_hasNameTwice_0 (l_twice2 hR k13 k15 12 1 (by omega) (by omega) (by omega) (fun s q a b c => by omega)))
end Stp16
/-! unfold -/
def zuE (T : zTb) (g n : Int) (r : Int) : Prop := 0 ≤ r ∧ r < T.1 ∧ zgi T 0 (T.2.1 - 2) r = g ∧ zgi T (T.2.1 - 2) (T.2.1 - 2 + 1) r = n
noncomputable def sUnfU (T : zTb) : zTb := (1 + zct (zF T 0 (T.2.1 - 2)) T.1.toNat, T.2.1 - 2 + zct (zF T (T.2.1 - 2) (T.2.1 - 2 + 1)) T.1.toNat, fun r c =>
  if r = 0 then (if c < T.2.1 - 2 then 0 else T.2.2 (zse (zF T (T.2.1 - 2) (T.2.1 - 2 + 1)) T.1.toNat (c - (T.2.1 - 2))) (T.2.1 - 2))
  else (if c < T.2.1 - 2 then T.2.2 (zse (zF T 0 (T.2.1 - 2)) T.1.toNat (r - 1)) c else zif (∃ q, zuE T (r - 1) (c - (T.2.1 - 2)) q) (T.2.2 (zls (zuE T (r - 1) (c - (T.2.1 - 2)))) (T.2.1 - 2 + 1)) 0))
def zuT (T : zTb) : Prop := ∃ s q : Int, 0 ≤ q ∧ q < s ∧ s < T.1 ∧ zgi T 0 (T.2.1 - 2) s = zgi T 0 (T.2.1 - 2) q ∧ zgi T (T.2.1 - 2) (T.2.1 - 2 + 1) s = zgi T (T.2.1 - 2) (T.2.1 - 2 + 1) q
noncomputable def sUnfold (T : zTb) : Option zTb := zif (3 ≤ T.2.1 ∧ ¬ zuT T ∧ 1 + zct (zF T 0 (T.2.1 - 2)) T.1.toNat ≤ 12 ∧ T.2.1 - 2 + zct (zF T (T.2.1 - 2) (T.2.1 - 2 + 1)) T.1.toNat ≤ 6) (some (sUnfU T)) none
/-- a row's own place is its alone -/
theorem zuE_u {T : zTb} {r : Int} (nt : ¬ zuT T) (r0 : 0 ≤ r) (r1 : r < T.1) : zls (zuE T (zgi T 0 (T.2.1 - 2) r) (zgi T (T.2.1 - 2) (T.2.1 - 2 + 1) r)) = r := by
  refine zls_eq ⟨r0, ⟨r0, r1, rfl, rfl⟩, fun j j0 j1 w => nt ⟨r, j, j0, j1, r1, w.2.2.1.symm, w.2.2.2.symm⟩⟩
section Stp17
variable {D : zD} {d : Nat} {G : zG} {h h0 : zH} {Q : zO → zG → zH → Prop}
/-- what stays while an unfold writes: the stepper's rows of groups -/
def uS (T : zTb) (A : Int) (h : zH) : Prop := (∀ q : Int, 0 ≤ q → q < T.1 → h 13 q = zgi T 0 A q ∧ h 15 q = zgi T A (A + 1) q) ∧ (∀ q : Int, 0 ≤ q → q < T.1 → zF T 0 A q → h 14 (zct (zF T 0 A) q.toNat) = q) ∧ ∀ q : Int, 0 ≤ q → q < T.1 → zF T A (A + 1) q → h 16 (zct (zF T A (A + 1)) q.toNat) = q
theorem uS_k {T : zTb} {A : Int} {h' : zH} (k : uS T A h) (e : ∀ a j : Int, 13 ≤ a ∧ a ≤ 16 → h' a j = h a j) : uS T A h' := ⟨fun q q0 q1 => by rw [e 13 q (by omega), e 15 q (by omega)]; exact k.1 q q0 q1, fun q q0 q1 qF => by rw [e 14 _ (by omega)]; exact k.2.1 q q0 q1 qF, fun q q0 q1 qF => by rw [e 16 _ (by omega)]; exact k.2.2 q q0 q1 qF⟩
/-- cells that nothing is put into -/
def uP (T : zTb) (A : Int) (r c : Int) : Prop := (r = 0 ∧ c < A) ∨ (1 ≤ r ∧ A ≤ c ∧ ¬ ∃ q, zuE T (r - 1) (c - A) q)
theorem l_unf157 (hd : 2 ≤ d) {i o A : Int} {T U : zTb} (ap : apS G i o) (ki : isC h0 i T) (oT : okT T) (eA : A = T.2.1 - 2) (hA : 1 ≤ A) (eU : U = sUnfU T) (oU : shT U) (nt : ¬ zuT T) : ∀ (m : Nat) (x : Int) (h : zH), x = T.1 - m → 0 ≤ x → frS o h0 h → uS T A h → isP h o U (fun r c => uP T A r c ∨ r = 0 ∨ c < A ∨ ∃ q : Int, q < x ∧ zuE T (r - 1) (c - A) q) →
    z_Y D M_X3_unfold d 157 [(0, 2, 12), (1, 2, i), (2, 2, o), (3, 0, A), (6, 0, x)] [] G h (pC G o h0 (some U)) := by
  have sh := oT.1
  have u1 : U.1 = 1 + zct (zF T 0 A) T.1.toNat := by rw [eU, eA]; rfl
  have u2 : U.2.1 = A + zct (zF T A (A + 1)) T.1.toNat := by rw [eU, eA]; rfl
  intro m
  induction m with
  | zero =>
    intro x h e x0 f us k
    have k' := isC_fr ap ki f
    have e1 := k'.1
    refine b_X3_unfold_157 hd ap.1 ⟨by omega, by omega⟩ ⟨by omega, by omega⟩ (fun c => by omega) (fun c => by omega) (fun c => by omega) (fun c => by omega) (fun c => by omega) (fun c => by omega) (fun c => by omega) (fun _ => ⟨rfl, f, rfl, k.all fun r c b1 b2 b3 b4 => ?_⟩) (fun c => by omega)
    by_cases c1 : r = 0
    · exact Or.inr (Or.inl c1)
    by_cases c2 : c < A
    · exact Or.inr (Or.inr (Or.inl c2))
    by_cases c3 : ∃ q, zuE T (r - 1) (c - A) q
    · obtain ⟨q, hq⟩ := c3
      exact Or.inr (Or.inr (Or.inr ⟨q, by have := hq.2.1; omega, hq⟩))
    · exact Or.inl (Or.inr ⟨by omega, by omega, c3⟩)
  | succ m ih =>
    intro x h e x0 f us k
    have k' := isC_fr ap ki f
    have e1 := k'.1
    have e13 := (us.1 x x0 (by omega)).1
    have e15 := (us.1 x x0 (by omega)).2
    have g1 := zgi_rg (T := T) (f := 0) (t := A) x0 (show x < T.1 by omega)
    have g2 := zgi_rg (T := T) (f := A) (t := A + 1) x0 (show x < T.1 by omega)
    have j1 := isC_ix k' oT (r := x) (c := A + 1) x0 (by omega) (by omega) (by omega)
    have j2 := isP_ix (r := 1 + zgi T 0 A x) (c := A + zgi T A (A + 1) x) k oU (by omega) (by omega) (by omega) (by omega)
    refine b_X3_unfold_157 hd ap.1 ⟨by omega, by omega⟩ ⟨by omega, by omega⟩ (fun c => by omega) (fun c => by omega) (fun c => j1.1) (fun c => j1.2.1) (fun _ => ap.2.1) (fun c => by rw [e13, e15]; exact j2.1) (fun c => by rw [e13, e15]; exact j2.2) (fun c => by omega) (fun c => ?_)
    rw [e13, e15, j1.2.2.1]
    have n18 := ap.n18
    refine ih (x + 1) _ (by omega) (by omega) (f.w (Or.inr (Or.inl rfl))) (uS_k us fun a j ha => w_na (n18 a (by omega)).2.2.2) (isP_put2 k (by omega) (by omega) ?_ fun r c b1 b2 b3 b4 p => ?_)
    · have zu := zuE_u nt x0 (show x < T.1 by omega)
      rw [← eA] at zu
      rw [eU]
      unfold sUnfU
      dsimp only
      rw [← eA, if_neg (by omega), if_neg (by omega), show 1 + zgi T 0 A x - 1 = zgi T 0 A x by omega, show A + zgi T A (A + 1) x - A = zgi T A (A + 1) x by omega, zu, zif1]
      exact ⟨x, x0, by omega, by rw [← eA], by rw [← eA]⟩
    · rcases p with p | p | p | ⟨q, q1, q2⟩
      · exact Or.inl (Or.inl p)
      · exact Or.inl (Or.inr (Or.inl p))
      · exact Or.inl (Or.inr (Or.inr (Or.inl p)))
      · by_cases e5 : q = x
        · subst e5
          have w1 := q2.2.2.1; have w2 := q2.2.2.2
          rw [← eA] at w1 w2
          exact Or.inr ⟨by omega, by omega⟩
        · exact Or.inl (Or.inr (Or.inr (Or.inr ⟨q, by omega, q2⟩)))
theorem l_unf124 (hd : 3 ≤ d) {i o A n : Int} {T U : zTb} (ap : apS G i o) (ki : isC h0 i T) (oT : okT T) (eA : A = T.2.1 - 2) (hA : 1 ≤ A) (eU : U = sUnfU T) (oU : shT U) (nt : ¬ zuT T) (en : n = zct (zF T 0 A) T.1.toNat) : ∀ (m : Nat) (x : Int) (h : zH), x = n - m → 0 ≤ x → frS o h0 h → uS T A h → isP h o U (fun r c => uP T A r c ∨ r = 0 ∨ (r < 1 + x ∧ c < A)) →
    z_Y D M_X3_unfold d 124 [(0, 2, 12), (1, 2, i), (2, 2, o), (3, 0, A), (4, 0, n), (6, 0, x)] [] G h (pC G o h0 (some U)) := by
  have sh := oT.1
  have u1 : U.1 = 1 + zct (zF T 0 A) T.1.toNat := by rw [eU, eA]; rfl
  have u2 : U.2.1 = A + zct (zF T A (A + 1)) T.1.toNat := by rw [eU, eA]; rfl
  have rg := zct_r (p := zF T 0 A) (show 0 ≤ T.1 by omega)
  have rg2 := zct_r (p := zF T A (A + 1)) (show 0 ≤ T.1 by omega)
  intro m
  induction m with
  | zero =>
    intro x h e x0 f us k
    refine b_X3_unfold_124 hd ⟨by omega, by omega⟩ ⟨by omega, by omega⟩ (fun c => by omega) (fun c => by omega) (fun c => by omega) (fun c => by omega) (fun c => by omega) (fun c => by omega) (fun c => by omega) (fun c => by omega) (fun c => by omega) (fun c => by omega) (fun _ => l_unf157 (by omega) ap ki oT eA hA eU oU nt T.1.toNat 0 h (by omega) (by omega) f us (k.imp fun r c b1 b2 b3 b4 p => ?_)) (fun c => by omega)
    rcases p with p | p | p | ⟨q, q1, q2⟩
    · exact Or.inl p
    · exact Or.inr (Or.inl p)
    · exact Or.inr (Or.inr (by omega))
    · have := q2.1; omega
  | succ m ih =>
    intro x h e x0 f us k
    have k' := isC_fr ap ki f
    have e2 := k'.2.1
    have e3 := k.2.1
    obtain ⟨q, q0, q1, qF, qe⟩ := zct_sr (p := zF T 0 A) (g := x) (show 0 ≤ T.1 by omega) x0 (by omega)
    have e14 : h 14 x = q := by rw [← qe]; exact us.2.1 q q0 q1 qF
    have es : zse (zF T 0 A) T.1.toNat x = q := by rw [← qe]; exact zse_q q0 q1 qF
    have j1 := isC_ix k' oT (r := q) (c := A) q0 q1 (by omega) (by omega)
    have j2 := isC_ix k' oT (r := q) (c := 0) q0 q1 (by omega) (by omega)
    have q3 := isP_ix (r := 1 + x) (c := 0) k oU (by omega) (by omega) (by omega) (by omega)
    have q4 := isP_ix (r := 1 + x) (c := A - 1) k oU (by omega) (by omega) (by omega) (by omega)
    refine b_X3_unfold_124 hd ⟨by omega, by omega⟩ ⟨by omega, by omega⟩ (fun c => by omega) (fun c => by omega) (fun _ => ap.2.1) (fun _ => ap.1) (fun _ => ap.2.2.1) (fun c => by omega) (fun c => by omega) (fun c => by omega) (fun c => by rw [e14]; omega) (fun c => by rw [e14]; omega) (fun c => by omega) (fun c => ?_)
    rw [e14, e2, e3]
    have n18 := ap.n18
    refine ih (x + 1) _ (by omega) (by omega) (f.c (Or.inr (Or.inl rfl))) (uS_k us fun a j ha => c_na (n18 a (by omega)).2.2.2) ((isP_cp k k' (r := 1 + x) (q := q) (n := A) (by omega) ⟨q0, q1⟩ (by omega) (fun c b1 b2 => ?_)).imp fun r c b1 b2 b3 b4 p => ?_)
    · rw [eU]
      unfold sUnfU
      dsimp only
      rw [← eA, if_neg (by omega), if_pos b2, show 1 + x - 1 = x by omega, es]
    · rcases p with p | p | p
      · exact Or.inl (Or.inl p)
      · exact Or.inl (Or.inr (Or.inl p))
      · by_cases e5 : r = 1 + x
        · exact Or.inr ⟨e5, p.2⟩
        · exact Or.inl (Or.inr (Or.inr (by omega)))
theorem l_unf87 (hd : 3 ≤ d) {i o A n nn : Int} {T U : zTb} (ap : apS G i o) (ki : isC h0 i T) (oT : okT T) (eA : A = T.2.1 - 2) (hA : 1 ≤ A) (eU : U = sUnfU T) (oU : shT U) (nt : ¬ zuT T) (en : n = zct (zF T 0 A) T.1.toNat) (enn : nn = zct (zF T A (A + 1)) T.1.toNat) : ∀ (m : Nat) (x : Int) (h : zH), x = nn - m → 0 ≤ x → frS o h0 h → uS T A h → isP h o U (fun r c => uP T A r c ∨ (r = 0 ∧ A ≤ c ∧ c < A + x)) →
    z_Y D M_X3_unfold d 87 [(0, 2, 12), (1, 2, i), (2, 2, o), (3, 0, A), (4, 0, n), (5, 0, nn), (6, 0, x)] [] G h (pC G o h0 (some U)) := by
  have sh := oT.1
  have u1 : U.1 = 1 + zct (zF T 0 A) T.1.toNat := by rw [eU, eA]; rfl
  have u2 : U.2.1 = A + zct (zF T A (A + 1)) T.1.toNat := by rw [eU, eA]; rfl
  have rg := zct_r (p := zF T 0 A) (show 0 ≤ T.1 by omega)
  have rg2 := zct_r (p := zF T A (A + 1)) (show 0 ≤ T.1 by omega)
  intro m
  induction m with
  | zero =>
    intro x h e x0 f us k
    refine b_X3_unfold_87 (by omega) ⟨by omega, by omega⟩ ⟨by omega, by omega⟩ (fun c => by omega) (fun c => by omega) (fun c => by omega) (fun c => by omega) (fun c => by omega) (fun c => by omega) (fun c => by omega) (fun c => by omega) (fun _ => l_unf124 hd ap ki oT eA hA eU oU nt en n.toNat 0 h (by omega) (by omega) f us (k.imp fun r c b1 b2 b3 b4 p => ?_)) (fun c => by omega)
    rcases p with p | p | p
    · exact Or.inl p
    · by_cases e5 : c < A
      · exact Or.inl (Or.inl ⟨p, e5⟩)
      · exact Or.inr (by omega)
    · exact Or.inl (Or.inl (by omega))
  | succ m ih =>
    intro x h e x0 f us k
    have k' := isC_fr ap ki f
    obtain ⟨q, q0, q1, qF, qe⟩ := zct_sr (p := zF T A (A + 1)) (g := x) (show 0 ≤ T.1 by omega) x0 (by omega)
    have e16 : h 16 x = q := by rw [← qe]; exact us.2.2 q q0 q1 qF
    have es : zse (zF T A (A + 1)) T.1.toNat x = q := by rw [← qe]; exact zse_q q0 q1 qF
    have j1 := isC_ix k' oT (r := q) (c := A) q0 q1 (by omega) (by omega)
    have j2 := isP_ix (r := 0) (c := A + x) k oU (by omega) (by omega) (by omega) (by omega)
    refine b_X3_unfold_87 (by omega) ⟨by omega, by omega⟩ ⟨by omega, by omega⟩ (fun c => by omega) (fun c => by omega) (fun _ => ap.1) (fun c => by rw [e16]; exact j1.1) (fun c => by rw [e16]; exact j1.2.1) (fun _ => ap.2.1) (fun c => j2.1) (fun c => j2.2) (fun c => by omega) (fun c => ?_)
    rw [e16, j1.2.2.1]
    have n18 := ap.n18
    refine ih (x + 1) _ (by omega) (by omega) (f.w (Or.inr (Or.inl rfl))) (uS_k us fun a j ha => w_na (n18 a (by omega)).2.2.2) (isP_put2 k (by omega) (by omega) ?_ fun r c b1 b2 b3 b4 p => ?_)
    · rw [eU]
      unfold sUnfU
      dsimp only
      rw [← eA, if_pos rfl, if_neg (by omega), show A + x - A = x by omega, es]
    · rcases p with p | p
      · exact Or.inl (Or.inl p)
      · by_cases e5 : c = A + x
        · exact Or.inr ⟨p.1, e5⟩
        · exact Or.inl (Or.inr (by omega))
end Stp17
