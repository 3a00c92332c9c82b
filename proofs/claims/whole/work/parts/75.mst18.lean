section Mst18
variable {D : zD} {d : Nat} {G : zG} {h h0 h1 : zH} {Q : zO → zG → zH → Prop}
/-! unfolds -/
def unS (T : zTb) (A x : Int) (h : zH) : Prop := ∀ q : Int, 0 ≤ q → q < x → h 92 q = zgi T 0 A q ∧ h 93 q = zgi T A (A + 1) q
def unT (T : zTb) (A x : Int) : Prop := ∃ s q : Int, 0 ≤ q ∧ q < s ∧ s < x ∧ zgi T 0 A s = zgi T 0 A q ∧ zgi T A (A + 1) s = zgi T A (A + 1) q
theorem unS_w {T : zTb} {A x i v : Int} (u : unS T A x h) : unS T A x (z_wr h 91 i v) := fun q q0 q1 => ⟨by rw [w_na (by omega)]; exact (u q q0 q1).1, by rw [w_na (by omega)]; exact (u q q0 q1).2⟩
theorem zgi_f {T : zTb} {f t r s : Int} (r0 : 0 ≤ r) (e : zls (fun q => zag T f t r q) = s) : zgi T f t s = zgi T f t r := by
  obtain ⟨s', ⟨a, b⟩, c, e1, e2⟩ := zF_of (T := T) (f := f) (t := t) r0
  have : s' = s := e2.symm.trans e
  subst this
  rw [zgi_of r0 a c e1, zgi_of a a c zag.rf]
theorem zgi_n {T : zTb} {f t r : Int} (r0 : 0 ≤ r) (e : zls (fun q => zag T f t r q) = r) : zgi T f t r = zct (zF T f t) r.toNat := zgi_of r0 r0 ((zls_F r0).1 e) zag.rf
theorem l_unfs132 {A x3 x4 r : Int} {T : zTb} (oT : okT T) (u : unS T A (r + 1) h) (r0 : 0 ≤ r) (r1 : r < T.1)
    (k0 : (∃ q : Int, 0 ≤ q ∧ q < r ∧ zgi T 0 A r = zgi T 0 A q ∧ zgi T A (A + 1) r = zgi T A (A + 1) q) → Q (.inl (some (0, 0))) G h)
    (kk : (∀ q : Int, 0 ≤ q → q < r → ¬ (zgi T 0 A r = zgi T 0 A q ∧ zgi T A (A + 1) r = zgi T A (A + 1) q)) → z_Y D M_X13_unfolds d 19 [(0, 2, 88), (2, 0, A), (3, 0, x3), (4, 0, x4), (5, 0, r + 1)] [] G h Q) : ∀ (n : Nat) (x : Int), x = r - n → 0 ≤ x → (∀ q : Int, 0 ≤ q → q < x → ¬ (zgi T 0 A r = zgi T 0 A q ∧ zgi T A (A + 1) r = zgi T A (A + 1) q)) →
    z_Y D M_X13_unfolds d 132 [(0, 2, 88), (2, 0, A), (3, 0, x3), (4, 0, x4), (5, 0, r), (8, 0, x)] [] G h Q := by
  have sh := oT.1
  have ur := u r r0 (by omega)
  have z1 := zgi12 (f := 0) (t := A) oT r0 r1
  have z2 := zgi12 (f := A) (t := A + 1) oT r0 r1
  intro n
  induction n with
  | zero =>
    intro x e x0 hq
    rw [show x = r by omega] at hq ⊢
    exact b_X13_unfolds_132 ⟨by omega, by omega⟩ ⟨by omega, by omega⟩ (fun c => by omega) (fun c => by omega) (fun c => by omega) (fun c => by omega) (fun c => by omega) (fun c => by omega) (fun c => by omega) (fun c => by omega) (fun _ => kk hq) (fun c => by omega) (fun c => by omega) (fun c => by omega)
  | succ n ih =>
    intro x e x0 hq
    have ux := u x x0 (by omega)
    have y1 := zgi12 (f := 0) (t := A) oT x0 (show x < T.1 by omega)
    have y2 := zgi12 (f := A) (t := A + 1) oT x0 (show x < T.1 by omega)
    have nx : ¬ (zgi T 0 A r = zgi T 0 A x ∧ zgi T A (A + 1) r = zgi T A (A + 1) x) → z_Y D M_X13_unfolds d 132 [(0, 2, 88), (2, 0, A), (3, 0, x3), (4, 0, x4), (5, 0, r), (8, 0, x + 1)] [] G h Q := fun w => ih (x + 1) (by omega) (by omega) fun q q0 q1 => by
      by_cases z : q = x
      · rw [z]; exact w
      · exact hq q q0 (by omega)
    refine b_X13_unfolds_132 ⟨by omega, by omega⟩ ⟨by omega, by omega⟩ (fun _ => x0) (fun _ => by omega) (fun _ => r0) (fun _ => by omega) (fun _ => by rw [ux.1]; exact ⟨by omega, by omega⟩) (fun _ => by rw [ur.1]; exact ⟨by omega, by omega⟩) (fun _ _ => by rw [ux.2]; exact ⟨by omega, by omega⟩) (fun _ _ => by rw [ur.2]; exact ⟨by omega, by omega⟩) (fun c => by omega) (fun _ c => nx fun w => c ?_) (fun _ c c2 => nx fun w => c2 ?_) (fun _ c c2 => k0 ⟨x, x0, by omega, ?_, ?_⟩)
    · rw [ux.1, ur.1]; exact w.1.symm
    · rw [ux.2, ur.2]; exact w.2.symm
    · rw [← ux.1, ← ur.1]; exact (Classical.not_not.mp c).symm
    · rw [← ux.2, ← ur.2]; exact (Classical.not_not.mp c2).symm
theorem l_unfs19 (hd : 5 ≤ d) {k A : Int} {T : zTb} (m : mS h0 k T) (oT : okT T) (eA : A = T.2.1 - 2) (hA : 1 ≤ A)
    (kk : ∀ h, frN h0 h → unS T A T.1 h → sUnfold T = some (sUnfU T) → ¬ zuT T → z_Kv D M_X13_shape d [(2, 88), (0, 10), (0, zct (zF T 0 A) T.1.toNat + 1), (0, A + zct (zF T A (A + 1)) T.1.toNat)] G h (fun G' h' => z_Y D M_X13_unfolds d 219 [(0, 2, 88), (2, 0, A)] [] G' h' (pM G h0 (sUnfold T)))) : ∀ (n : Nat) (x : Int) (h : zH), x = T.1 - n → 0 ≤ x → frN h0 h → unS T A x h → ¬ unT T A x →
    z_Y D M_X13_unfolds d 19 [(0, 2, 88), (2, 0, A), (3, 0, zct (zF T 0 A) x.toNat), (4, 0, zct (zF T A (A + 1)) x.toNat), (5, 0, x)] [] G h (pM G h0 (sUnfold T)) := by
  have sh := oT.1
  have zu : zuT T ↔ unT T A T.1 := by rw [eA]; exact Iff.rfl
  intro n
  induction n with
  | zero =>
    intro x h e x0 f u nt
    have e4 := (m.fr f).2.1
    rw [show x = T.1 by omega] at u nt ⊢
    have r1 := zct_r (p := zF T 0 A) (show 0 ≤ T.1 by omega)
    have r2 := zct_r (p := zF T A (A + 1)) (show 0 ≤ T.1 by omega)
    have no : ¬ (1 + zct (zF T 0 A) T.1.toNat ≤ 12 ∧ A + zct (zF T A (A + 1)) T.1.toNat ≤ 6) → sUnfold T = none := fun w => by
      unfold sUnfold
      rw [← eA, zif0 (fun z => w z.2.2)]
    refine b_X13_unfolds_19 ⟨by omega, by omega⟩ ⟨by omega, by omega⟩ (fun _ => ⟨by omega, by omega⟩) (fun _ _ => ⟨by omega, by omega⟩) (fun _ c => ?_) (fun _ c c2 => kk h f u ?_ (fun w => nt (zu.1 w))) (fun _ c c2 => ?_) (fun c => by omega)
    · rw [no (by omega)]; exact ⟨rfl, f, rfl⟩
    · unfold sUnfold
      rw [← eA, zif1 ⟨by omega, fun w => nt (zu.1 w), by omega, c2⟩]
    · rw [no (by omega)]; exact ⟨rfl, f, rfl⟩
  | succ n ih =>
    intro x h e x0 f u nt
    have m' := m.fr f
    have e4 := m'.2.1
    have x1 : x < T.1 := by omega
    refine b_X13_unfolds_19 ⟨by omega, by omega⟩ ⟨by omega, by omega⟩ (fun c => by omega) (fun c => by omega) (fun c => by omega) (fun c => by omega) (fun c => by omega) (fun _ => ?_)
    refine z_Ki.of (d2 := d - 1) (by omega) (a_X13_firstLike (by omega) m' oT x0 x1 (show 0 ≤ A by omega) (by omega)) ?_
    rintro out G' h1 hl1 ⟨r1, rfl, rfl⟩
    obtain ⟨s, ⟨s0, s1⟩, s2, s3, s4⟩ := zF_of (T := T) (f := 0) (t := A) x0
    have ss := zct_s (p := zF T 0 A) x0
    have zz := zls_F (T := T) (f := 0) (t := A) x0
    refine ⟨_, r1, ?_⟩
    rw [s4] at zz ⊢
    have fs := zgi_f x0 s4
    obtain ⟨t, ⟨t0, t1⟩, t2, t3, t4⟩ := zF_of (T := T) (f := A) (t := A + 1) x0
    have tt := zct_s (p := zF T A (A + 1)) x0
    have yy := zls_F (T := T) (f := A) (t := A + 1) x0
    rw [t4] at yy
    have ft := zgi_f x0 t4
    have f1 : frN h0 (z_wr h1 92 x (zgi T 0 A x)) := f.w (Or.inr (Or.inr ⟨by omega, by omega⟩))
    have f2 : frN h0 (z_wr (z_wr h1 92 x (zgi T 0 A x)) 93 x (zgi T A (A + 1) x)) := f1.w (Or.inr (Or.inr ⟨by omega, by omega⟩))
    have u2 : unS T A (x + 1) (z_wr (z_wr h1 92 x (zgi T 0 A x)) 93 x (zgi T A (A + 1) x)) := fun q q0 q1 => by
      by_cases z : q = x
      · rw [z]; exact ⟨by rw [w_na (by omega), w_s], by rw [w_s]⟩
      · exact ⟨by rw [w_na (by omega), w_nj z]; exact (u q q0 (by omega)).1, by rw [w_nj z, w_na (by omega)]; exact (u q q0 (by omega)).2⟩
    have go3 : ∀ v : Int, zct (zF T A (A + 1)) (x + 1).toNat = zct (zF T A (A + 1)) x.toNat + v → z_Y D M_X13_unfolds d 126 [(0, 2, 88), (2, 0, A), (3, 0, zct (zF T 0 A) (x + 1).toNat), (5, 0, x)] [(0, v), (0, zct (zF T A (A + 1)) x.toNat)] G' (z_wr (z_wr h1 92 x (zgi T 0 A x)) 93 x (zgi T A (A + 1) x)) (pM G' h0 (sUnfold T)) := by
      intro v ev
      refine b_X13_unfolds_126 ?_
      rw [← ev]
      refine l_unfs132 oT u2 x0 x1 (fun ⟨q, q0, q1, q2⟩ => ?_) (fun w => ih (x + 1) _ (by omega) (by omega) f2 u2 ?_) x.toNat 0 (by omega) (by omega) (fun q a b => by omega)
      · rintro ⟨s', q, q0, q1, q2, q3⟩
        by_cases z : s' = x
        · rw [z] at q1 q3; exact w q q0 q1 q3
        · exact nt ⟨s', q, q0, q1, by omega, q3⟩
      · have : sUnfold T = none := by
          unfold sUnfold
          rw [zif0 (fun z => z.2.1 (zu.2 ⟨x, q, q0, q1, x1, q2⟩))]
        rw [this]
        exact ⟨rfl, f2, rfl⟩
    have go2 : ∀ v : Int, z_Y D M_X13_unfolds d 111 [(0, 2, 88), (2, 0, A), (3, 0, zct (zF T 0 A) (x + 1).toNat), (4, 0, zct (zF T A (A + 1)) x.toNat), (5, 0, x), (7, 0, t)] [(0, zgi T A (A + 1) x), (0, x), (2, 93)] G' (z_wr h1 92 x (zgi T 0 A x)) (pM G' h0 (sUnfold T)) := by
      intro v
      refine b_X13_unfolds_111 x0 (by omega) ⟨by omega, by omega⟩ ⟨by omega, by omega⟩ (fun c => go3 0 ?_) (fun c => go3 1 ?_)
      · rw [tt, z_b0 (fun w => c (yy.2 w))]
      · rw [tt, z_b1 (yy.1 (Classical.not_not.mp c))]
    have go1 : ∀ v : Int, zct (zF T 0 A) (x + 1).toNat = zct (zF T 0 A) x.toNat + v → z_Y D M_X13_unfolds d 75 [(0, 2, 88), (2, 0, A), (4, 0, zct (zF T A (A + 1)) x.toNat), (5, 0, x)] [(0, v), (0, zct (zF T 0 A) x.toNat)] G' (z_wr h1 92 x (zgi T 0 A x)) (pM G' h0 (sUnfold T)) := by
      intro v ev
      refine b_X13_unfolds_75 ?_
      rw [← ev]
      refine z_Ki.of (d2 := d - 1) (by omega) (a_X13_firstName (by omega) (m.fr f1) oT x0 x1 (show 0 ≤ A by omega) (by omega)) ?_
      rintro out G'' h2 hl2 ⟨r2, rfl, rfl⟩
      refine ⟨_, r2, ?_⟩
      rw [t4]
      refine b_X13_unfolds_84 ⟨by omega, by omega⟩ ⟨by omega, by omega⟩ (fun _ => t0) (fun _ => by omega) (fun c => ?_) (fun c => ?_)
      · rw [w_na (by omega), (u t t0 (by omega)).2, ft]
        exact go2 0
      · have q := go2 0
        rw [zgi_n x0 (t4.trans (Classical.not_not.mp c))] at q
        exact q
    have go0 : z_Y D M_X13_unfolds d 61 [(0, 2, 88), (2, 0, A), (3, 0, zct (zF T 0 A) x.toNat), (4, 0, zct (zF T A (A + 1)) x.toNat), (5, 0, x), (6, 0, s)] [(0, zgi T 0 A x), (0, x), (2, 92)] G' h1 (pM G' h0 (sUnfold T)) := by
      refine b_X13_unfolds_61 x0 (by omega) ⟨by omega, by omega⟩ ⟨by omega, by omega⟩ (fun c => go1 0 ?_) (fun c => go1 1 ?_)
      · rw [ss, z_b0 (fun w => c (zz.2 w))]
      · rw [ss, z_b1 (zz.1 (Classical.not_not.mp c))]
    refine b_X13_unfolds_35 ⟨by omega, by omega⟩ ⟨by omega, by omega⟩ (fun _ => s0) (fun _ => by omega) (fun c => ?_) (fun c => ?_)
    · rw [(u s s0 (by omega)).1, fs]
      exact go0
    · have q := go0
      rw [zgi_n x0 (s4.trans (Classical.not_not.mp c))] at q
      exact q
/-- what an unfold's cells hold, by the row that they come from -/
theorem unU {T : zTb} {A x : Int} (eA : A = T.2.1 - 2) (nt : ¬ zuT T) (x0 : 0 ≤ x) (x1 : x < T.1) : (0 ≤ zgi T A (A + 1) x → (sUnfU T).2.2 0 (A + zgi T A (A + 1) x) = T.2.2 x A) ∧ (∀ c : Int, 0 ≤ c → c < A → (sUnfU T).2.2 (zgi T 0 A x + 1) c = T.2.2 x c) ∧ (sUnfU T).2.2 (zgi T 0 A x + 1) (A + zgi T A (A + 1) x) = T.2.2 x (A + 1) := by
  subst eA
  obtain ⟨s, ⟨s0, s1⟩, s2, s3, s4⟩ := zF_of (T := T) (f := 0) (t := T.2.1 - 2) x0
  obtain ⟨t, ⟨t0, t1⟩, t2, t3, t4⟩ := zF_of (T := T) (f := T.2.1 - 2) (t := T.2.1 - 2 + 1) x0
  have g1 := zgi_of x0 s0 s2 s3
  have g2 := zgi_of x0 t0 t2 t3
  have rg := zct_r (p := zF T 0 (T.2.1 - 2)) s0
  have rg2 := zct_r (p := zF T (T.2.1 - 2) (T.2.1 - 2 + 1)) t0
  refine ⟨fun n => ?_, fun c c0 c1 => ?_, ?_⟩
  · unfold sUnfU
    dsimp only
    rw [if_pos rfl, if_neg (by omega), show T.2.1 - 2 + zgi T (T.2.1 - 2) (T.2.1 - 2 + 1) x - (T.2.1 - 2) = zgi T (T.2.1 - 2) (T.2.1 - 2 + 1) x by omega, g2, zse_q t0 (by omega) t2]
    exact (zag_1.1 t3).symm
  · unfold sUnfU
    dsimp only
    rw [if_neg (by omega), if_pos c1, show zgi T 0 (T.2.1 - 2) x + 1 - 1 = zgi T 0 (T.2.1 - 2) x by omega, g1, zse_q s0 (by omega) s2]
    exact (s3 c c0 c1).symm
  · have e1 : (zgi T 0 (T.2.1 - 2) x + 1 - 1) = zgi T 0 (T.2.1 - 2) x := by omega
    have e2 : T.2.1 - 2 + zgi T (T.2.1 - 2) (T.2.1 - 2 + 1) x - (T.2.1 - 2) = zgi T (T.2.1 - 2) (T.2.1 - 2 + 1) x := by omega
    unfold sUnfU
    dsimp only
    rw [if_neg (by omega), if_neg (by omega), e1, e2, zif1 ⟨x, x0, x1, rfl, rfl⟩, zuE_u nt x0 x1]
/-- the cells that stand when the rows before x are through -/
def unQ (T : zTb) (A x r c : Int) : Prop := nrm (sUnfU T) r c = 0 ∨ ∃ q : Int, 0 ≤ q ∧ q < x ∧ ((r = 0 ∧ c = A + zgi T A (A + 1) q) ∨ (r = zgi T 0 A q + 1 ∧ (c < A ∨ c = A + zgi T A (A + 1) q)))
theorem l_unfs255 (hd : 3 ≤ d) {k A x : Int} {T : zTb} (m : mS h0 k T) (oT : okT T) (eA : A = T.2.1 - 2) (hA : 1 ≤ A) (s1 : (sUnfU T).1 ≤ 12) (s2 : (sUnfU T).2.1 ≤ 6) (nt : ¬ zuT T) (x0 : 0 ≤ x) (x1 : x < T.1)
    (kk : ∀ h, frN h0 h → unS T A T.1 h → isN h 10 (sUnfU T) (unQ T A (x + 1)) → z_Y D M_X13_unfolds d 222 [(0, 2, 88), (2, 0, A), (5, 0, x + 1)] [] G h Q) : ∀ (n : Nat) (y : Int) (h : zH), y = A - n → 0 ≤ y → frN h0 h → unS T A T.1 h → isN h 10 (sUnfU T) (fun r c => unQ T A x r c ∨ (r = 0 ∧ c = A + zgi T A (A + 1) x) ∨ (r = zgi T 0 A x + 1 ∧ c < y)) →
    z_Y D M_X13_unfolds d 255 [(0, 2, 88), (2, 0, A), (5, 0, x), (6, 0, y)] [] G h Q := by
  have sh := oT.1
  obtain ⟨v1, v2, v3⟩ := unU eA nt x0 x1
  have z1 := zgi_rg (T := T) (f := 0) (t := A) x0 x1
  have z2 := zgi_rg (T := T) (f := A) (t := A + 1) x0 x1
  have q1 : (sUnfU T).1 = 1 + zct (zF T 0 A) T.1.toNat := by rw [eA]; rfl
  have q2 : (sUnfU T).2.1 = A + zct (zF T A (A + 1)) T.1.toNat := by rw [eA]; rfl
  intro n
  induction n with
  | zero =>
    intro y h e y0 f u kN
    have m' := m.fr f
    have ux := u x x0 x1
    have j := m'.at oT x0 x1 (show 0 ≤ A + 1 by omega) (by omega)
    refine b_X13_unfolds_255 hd ⟨by omega, by omega⟩ ⟨by omega, by omega⟩ (fun _ => x0) (fun _ => by omega) (fun _ => j.1) (fun _ => j.2.1) (fun _ => by rw [ux.1, ux.2]; omega) (fun _ => by rw [ux.1, ux.2]; omega) (fun c => by omega) (fun c => by omega) (fun c => by omega) (fun c => by omega) (fun c => by omega) (fun c => by omega) (fun _ => ?_) (fun c => by omega)
    rw [ux.1, ux.2, j.2.2.1]
    refine kk _ (f.w (Or.inr (Or.inl ⟨rfl, by omega, by omega⟩))) (unS_w u) (isN_put kN (by omega) (by omega) (by omega) (by omega) (by omega) v3.symm fun r c b1 b2 b3 b4 p => ?_)
    by_cases w : r = zgi T 0 A x + 1 ∧ c = A + zgi T A (A + 1) x
    · exact Or.inr w
    · refine Or.inl ?_
      rcases p with p | ⟨q, q0, q1, p⟩
      · exact Or.inl (Or.inl p)
      · by_cases z : q = x
        · rw [z] at p
          rcases p with p | ⟨p, p2 | p2⟩
          · exact Or.inr (Or.inl p)
          · exact Or.inr (Or.inr ⟨p, by omega⟩)
          · exact absurd ⟨p, p2⟩ w
        · exact Or.inl (Or.inr ⟨q, q0, by omega, p⟩)
  | succ n ih =>
    intro y h e y0 f u kN
    have m' := m.fr f
    have ux := u x x0 x1
    have j := m'.at oT x0 x1 y0 (show y < T.2.1 by omega)
    refine b_X13_unfolds_255 hd ⟨by omega, by omega⟩ ⟨by omega, by omega⟩ (fun c => by omega) (fun c => by omega) (fun c => by omega) (fun c => by omega) (fun c => by omega) (fun c => by omega) (fun _ => x0) (fun _ => by omega) (fun _ => j.1) (fun _ => j.2.1) (fun _ => by rw [ux.1]; omega) (fun _ => by rw [ux.1]; omega) (fun c => by omega) (fun _ => ?_)
    rw [ux.1, j.2.2.1]
    refine ih (y + 1) _ (by omega) (by omega) (f.w (Or.inr (Or.inl ⟨rfl, by omega, by omega⟩))) (unS_w u) (isN_put kN (by omega) (by omega) y0 (by omega) (by omega) (v2 y y0 (by omega)).symm fun r c b1 b2 b3 b4 p => ?_)
    by_cases w : r = zgi T 0 A x + 1 ∧ c = y
    · exact Or.inr w
    · refine Or.inl ?_
      rcases p with p | p | p
      · exact Or.inl p
      · exact Or.inr (Or.inl p)
      · exact Or.inr (Or.inr ⟨p.1, by omega⟩)
theorem l_unfs222 (hd : 3 ≤ d) {k A : Int} {T : zTb} (m : mS h0 k T) (oT : okT T) (eA : A = T.2.1 - 2) (hA : 1 ≤ A) (s1 : (sUnfU T).1 ≤ 12) (s2 : (sUnfU T).2.1 ≤ 6) (nt : ¬ zuT T) : ∀ (n : Nat) (x : Int) (h : zH), x = T.1 - n → 0 ≤ x → frN h0 h → unS T A T.1 h → isN h 10 (sUnfU T) (unQ T A x) →
    z_Y D M_X13_unfolds d 222 [(0, 2, 88), (2, 0, A), (5, 0, x)] [] G h (pM G h0 (some (sUnfU T))) := by
  have sh := oT.1
  have q1 : (sUnfU T).1 = 1 + zct (zF T 0 A) T.1.toNat := by rw [eA]; rfl
  have q2 : (sUnfU T).2.1 = A + zct (zF T A (A + 1)) T.1.toNat := by rw [eA]; rfl
  intro n
  induction n with
  | zero =>
    intro x h e x0 f u kN
    have e4 := (m.fr f).2.1
    refine b_X13_unfolds_222 hd ⟨by omega, by omega⟩ ⟨by omega, by omega⟩ (fun c => by omega) (fun c => by omega) (fun c => by omega) (fun c => by omega) (fun c => by omega) (fun c => by omega) (fun _ => ⟨rfl, f, rfl, kN.all fun r c b1 b2 b3 b4 => ?_⟩) (fun c => by omega)
    by_cases z : r < (sUnfU T).1 ∧ c < (sUnfU T).2.1
    · by_cases r0 : r = 0
      · by_cases cA : c < A
        · left
          rw [nrm, if_pos z, r0]
          unfold sUnfU
          dsimp only
          rw [if_pos rfl, if_pos (by omega)]
        · obtain ⟨q, a1, a2, a3, a4⟩ := zct_sr (p := zF T A (A + 1)) (g := c - A) (show 0 ≤ T.1 by omega) (by omega) (by omega)
          have g := zgi_of (T := T) a1 a1 a3 zag.rf
          exact Or.inr ⟨q, a1, by omega, Or.inl ⟨r0, by omega⟩⟩
      · by_cases cA : c < A
        · obtain ⟨q, a1, a2, a3, a4⟩ := zct_sr (p := zF T 0 A) (g := r - 1) (show 0 ≤ T.1 by omega) (by omega) (by omega)
          have g := zgi_of (T := T) a1 a1 a3 zag.rf
          exact Or.inr ⟨q, a1, by omega, Or.inr ⟨by omega, Or.inl cA⟩⟩
        · by_cases ex : ∃ q, zuE T (r - 1) (c - A) q
          · obtain ⟨q, a1, a2, a3, a4⟩ := ex
            rw [← eA] at a3 a4
            exact Or.inr ⟨q, a1, by omega, Or.inr ⟨by omega, Or.inr (by omega)⟩⟩
          · left
            rw [nrm, if_pos z]
            unfold sUnfU
            dsimp only
            rw [if_neg r0, if_neg (by omega), zif0 (by rw [← eA]; exact ex)]
    · left
      rw [nrm, if_neg z]
  | succ n ih =>
    intro x h e x0 f u kN
    have m' := m.fr f
    have e4 := m'.2.1
    have x1 : x < T.1 := by omega
    have ux := u x x0 x1
    have j := m'.at oT x0 x1 (show 0 ≤ A by omega) (by omega)
    have z2 := zgi_rg (T := T) (f := A) (t := A + 1) x0 x1
    have z3 := zct_r (p := zF T 0 A) (r := T.1) (by omega)
    obtain ⟨v1, v2, v3⟩ := unU eA nt x0 x1
    refine b_X13_unfolds_222 hd ⟨by omega, by omega⟩ ⟨by omega, by omega⟩ (fun _ => x0) (fun _ => by omega) (fun _ => j.1) (fun _ => j.2.1) (fun _ => by rw [ux.2]; omega) (fun _ => by rw [ux.2]; omega) (fun c => by omega) (fun _ => ?_)
    rw [ux.2, j.2.2.1]
    refine l_unfs255 hd m oT eA hA s1 s2 nt x0 x1 (fun h' f' u' k' => ih (x + 1) h' (by omega) (by omega) f' u' k') A.toNat 0 _ (by omega) (by omega) (f.w (Or.inr (Or.inl ⟨rfl, by omega, by omega⟩))) (unS_w u) (isN_put kN (by omega) (by omega) (by omega) (by omega) (by omega) (v1 z2.1).symm fun r c b1 b2 b3 b4 p => ?_)
    rcases p with p | p | p
    · exact Or.inl p
    · exact Or.inr p
    · omega
theorem m_unfolds (hd : 5 ≤ d) {k : Int} {T : zTb} (m : mS h k T) (oT : okT T) : z_CY D M_X13_unfolds d [(2, 88), (0, T.2.1)] G h (pM G h (sUnfold T)) := by
  have sh := oT.1
  refine z_begin mo_X13_unfolds rfl (nle rfl) (b_X13_unfolds_0 ⟨by omega, by omega⟩ (fun c => ?_) (fun c => ?_))
  · obtain ⟨A, eA⟩ : ∃ A, A = T.2.1 - 2 := ⟨_, rfl⟩
    rw [← eA]
    refine l_unfs19 hd m oT eA (by omega) (fun h1 f u es nt => ?_) T.1.toNat 0 h (by omega) (by omega) frN.rf (fun q a b => by omega) (fun ⟨s, q, a, b, e, _⟩ => by omega)
    have cond : 1 + zct (zF T 0 A) T.1.toNat ≤ 12 ∧ A + zct (zF T A (A + 1)) T.1.toNat ≤ 6 := by
      unfold sUnfold at es
      rw [← eA] at es
      by_cases w : 3 ≤ T.2.1 ∧ ¬ zuT T ∧ 1 + zct (zF T 0 A) T.1.toNat ≤ 12 ∧ A + zct (zF T A (A + 1)) T.1.toNat ≤ 6
      · exact w.2.2
      · rw [zif0 w] at es; cases es
    have q1 : (sUnfU T).1 = 1 + zct (zF T 0 A) T.1.toNat := by rw [eA]; rfl
    have q2 : (sUnfU T).2.1 = A + zct (zF T A (A + 1)) T.1.toNat := by rw [eA]; rfl
    refine z_Kv.of (d2 := d - 1) (by omega) (a_X13_shape 10 (zct (zF T 0 A) T.1.toNat + 1) (A + zct (zF T A (A + 1)) T.1.toNat) (by omega) (by omega)) ?_
    rintro out G' h2 hl2 ⟨r2, rfl, rfl⟩
    rw [es]
    refine ⟨r2, b_X13_unfolds_219 (l_unfs222 (by omega) m oT eA (by omega) (by omega) (by omega) nt T.1.toNat 0 _ (by omega) (by omega) (f.tr frN_new) (fun q q0 q1 => ?_) ⟨?_, ?_, fun r c b1 b2 b3 b4 p => ?_⟩)⟩
    · rw [zfr_na (by omega), w_na (by omega), w_na (by omega), zfr_na (by omega), w_na (by omega), w_na (by omega)]
      exact u q q0 q1
    · rw [zfr_na (by omega), w_na (by omega), w_s]; omega
    · rw [zfr_na (by omega), w_s]; omega
    · rcases p with p | ⟨q, a1, a2, _⟩
      · rw [p]; unfold zfr; rw [if_pos ⟨rfl, by omega, by omega⟩]
      · omega
  · have : sUnfold T = none := by unfold sUnfold; rw [zif0 (fun z => c z.1)]
    rw [this]
    exact ⟨rfl, frN.rf, rfl⟩
end Mst18
