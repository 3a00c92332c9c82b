/-! which numbers a step can have; a step -/
def zfm (n : Int) : Int := if 1 ≤ n ∧ n ≤ 14 then z_list [0, 0, 1, 2, 1, 2, 1, 0, 1, 0, 1, 3, 1, 0, 1] n else 0
def nC (C n a b : Int) : Prop :=
  if n = 3 then (0 ≤ a ∧ a ≤ C - 1) ∧ 0 ≤ b ∧ b ≤ 3
  else if n = 5 then (0 ≤ a ∧ a ≤ C - 2) ∧ 0 ≤ b ∧ b ≤ 3
  else if n = 11 then (0 ≤ a ∧ a ≤ C - 1) ∧ (0 ≤ b ∧ b ≤ C - 1) ∧ ¬ a = b
  else if n = 6 then (1 ≤ a ∧ a ≤ C - 1) ∧ b = 0
  else if n = 14 then (0 ≤ a ∧ a ≤ C - 2) ∧ b = 0
  else (0 ≤ a ∧ a ≤ (if zfm n = 0 then 0 else C - 1)) ∧ b = 0
noncomputable def sStep (n a b : Int) (T : zTb) : Option zTb := zif (nC T.2.1 n a b)
  (if n = 1 then sTurn T else if n = 2 then sDrop a T else if n = 3 then sSplit a b T else if n = 4 then sFill a T else if n = 5 then sJoin a b T else if n = 6 then sFold a T else if n = 7 then sUnfold T else if n = 8 then sSort a T else if n = 9 then sSingle T else if n = 10 then sCount a T else if n = 11 then sSum a b T else if n = 12 then sKeep a T else if n = 13 then sHead T else if n = 14 then sSwap a T else none) none
section Chg
variable {D : zD} {d : Nat} {G : zG} {h h0 : zH} {Q : zO → zG → zH → Prop}
theorem zEi {M2 : zM} {av : List zV} {x y : Int} {h1 : zH} (k : z_Ei D M2 d av G h x h1) (e : x = y) : z_Ei D M2 d av G h y h1 := e ▸ k
theorem a_X3_isWithin (x0 x1 x2 : Int) (h0 : z_in x0) (h1 : z_in x1) (h2 : z_in x2) : z_Ei D M_X3_isWithin d [(0, x0), (0, x1), (0, x2)] G h (z_b (x1 ≤ x0 ∧ x0 ≤ x2)) h :=
  z_begin mo_X3_isWithin rfl (nle rfl) (b_X3_isWithin_0 h0 h1 (fun _ => h2) (fun c => ⟨by rw [z_b0 (by omega)], rfl, rfl⟩) (fun c c2 => ⟨by rw [z_b0 (by omega)], rfl, rfl⟩) (fun c c2 => ⟨by rw [z_b1 (by omega)], rfl, rfl⟩))
theorem a_X3_formOf (n : Int) (hn : z_in n) : z_Ei D M_X3_formOf d [(0, n)] G h (zfm n) h :=
  z_begin mo_X3_formOf rfl (nle rfl) (b_X3_formOf_0 hn (fun _ _ => by omega) (fun _ _ => by omega) (fun c => ⟨by rw [zfm, if_neg (by omega)], rfl, rfl⟩) (fun c c2 => ⟨by rw [zfm, if_neg (by omega)], rfl, rfl⟩) (fun c c2 => ⟨by rw [zfm, if_pos (by omega)], rfl, rfl⟩))
theorem zfm_in (n : Int) : z_in (zfm n) := by
  unfold zfm
  split
  · next q =>
    have : n = 1 ∨ n = 2 ∨ n = 3 ∨ n = 4 ∨ n = 5 ∨ n = 6 ∨ n = 7 ∨ n = 8 ∨ n = 9 ∨ n = 10 ∨ n = 11 ∨ n = 12 ∨ n = 13 ∨ n = 14 := by omega
    rcases this with rfl | rfl | rfl | rfl | rfl | rfl | rfl | rfl | rfl | rfl | rfl | rfl | rfl | rfl <;> exact ⟨by decide, by decide⟩
  · exact ⟨by decide, by decide⟩
theorem zb_in (p : Prop) : z_in (z_b p) := by have := z_b01 p; exact ⟨by omega, by omega⟩
theorem zb_ne {p : Prop} (c : ¬ z_b p = 0) : p := Classical.byContradiction fun w => c (z_b0 w)
theorem zb_eq {p : Prop} (c : z_b p = 0) : ¬ p := fun w => by rw [z_b1 w] at c; omega
theorem a_X3_numbersCanBe (hd : 1 ≤ d) (C n a b : Int) (hC : 0 ≤ C ∧ C ≤ 6) (hn : z_in n) (ha : z_in a) (hb : z_in b) : z_Ei D M_X3_numbersCanBe d [(0, C), (0, n), (0, a), (0, b)] G h (z_b (nC C n a b)) h := by
  have w0 : z_in 0 := ⟨by decide, by decide⟩
  have w1 : z_in 1 := ⟨by decide, by decide⟩
  have w3 : z_in 3 := ⟨by decide, by decide⟩
  have c1 : z_in (C - 1) := ⟨by omega, by omega⟩
  have c2 : z_in (C - 2) := ⟨by omega, by omega⟩
  have t210 : ∀ (p q : Prop), (q ↔ p ∧ b = 0) → z_Y D M_X3_numbersCanBe d 210 [(3, 0, b)] [(0, z_b p)] G h (fun o G' h' => o = .inl (some (0, z_b q)) ∧ G' = G ∧ h' = h) := fun p q e => b_X3_numbersCanBe_210 (zb_in p) (fun _ => hb) (fun c => ⟨by rw [z_b0 (fun w => zb_eq c (e.1 w).1)], rfl, rfl⟩) (fun c c2 => ⟨by rw [z_b0 (fun w => c2 (e.1 w).2)], rfl, rfl⟩) (fun c c2 => ⟨by rw [z_b1 (e.2 ⟨zb_ne c, Classical.not_not.mp c2⟩)], rfl, rfl⟩)
  have tail : ∀ (q : Prop), (q ↔ (0 ≤ a ∧ a ≤ (if zfm n = 0 then 0 else C - 1)) ∧ b = 0) → z_Ki D M_X3_formOf d [(0, n)] G h (fun r G' h' => z_Y D M_X3_numbersCanBe d 197 [(0, 0, C), (3, 0, b)] [(0, r), (0, 0), (0, a)] G' h' (fun o G' h' => o = .inl (some (0, z_b q)) ∧ G' = G ∧ h' = h)) := by
    intro q e
    refine z_Ki.of (d2 := d - 1) (by omega) (a_X3_formOf n hn) fun o G' h' _ hh => ⟨_, hh.1, ?_⟩
    rw [hh.2.1, hh.2.2]
    have t207 : ∀ x : Int, x = (if zfm n = 0 then 0 else C - 1) → z_Y D M_X3_numbersCanBe d 207 [(3, 0, b)] [(0, x), (0, 0), (0, a)] G h (fun o G' h' => o = .inl (some (0, z_b q)) ∧ G' = G ∧ h' = h) := by
      intro x ex
      refine b_X3_numbersCanBe_207 (z_Ki.of (d2 := d - 1) (by omega) (a_X3_isWithin a 0 x ha w0 (by rw [ex]; split <;> assumption)) fun o G' h' _ hh => ⟨_, hh.1, ?_⟩)
      rw [hh.2.1, hh.2.2]
      exact t210 _ _ (by rw [ex]; exact e)
    exact b_X3_numbersCanBe_197 (zfm_in n) (fun c => t207 _ (by rw [if_neg c])) (fun c => t207 _ (by rw [if_pos (Classical.not_not.mp c)]))
  have e3 : n = 3 → (nC C n a b ↔ (0 ≤ a ∧ a ≤ C - 1) ∧ 0 ≤ b ∧ b ≤ 3) := fun e => by subst e; exact Iff.rfl
  have e5 : n = 5 → (nC C n a b ↔ (0 ≤ a ∧ a ≤ C - 2) ∧ 0 ≤ b ∧ b ≤ 3) := fun e => by subst e; exact Iff.rfl
  have e11 : n = 11 → (nC C n a b ↔ (0 ≤ a ∧ a ≤ C - 1) ∧ (0 ≤ b ∧ b ≤ C - 1) ∧ ¬ a = b) := fun e => by subst e; exact Iff.rfl
  have e6 : n = 6 → (nC C n a b ↔ (1 ≤ a ∧ a ≤ C - 1) ∧ b = 0) := fun e => by subst e; exact Iff.rfl
  have e14 : n = 14 → (nC C n a b ↔ (0 ≤ a ∧ a ≤ C - 2) ∧ b = 0) := fun e => by subst e; exact Iff.rfl
  have eE : ¬ n = 3 → ¬ n = 5 → ¬ n = 11 → ¬ n = 6 → ¬ n = 14 → (nC C n a b ↔ (0 ≤ a ∧ a ≤ (if zfm n = 0 then 0 else C - 1)) ∧ b = 0) := fun n1 n2 n3 n4 n5 => by unfold nC; rw [if_neg n1, if_neg n2, if_neg n3, if_neg n4, if_neg n5]
  refine z_begin mo_X3_numbersCanBe rfl (nle rfl) (b_X3_numbersCanBe_0 (fun _ _ _ _ _ _ _ _ _ _ _ _ => hn) (fun c => ?_) (fun _ c => ?_) (fun _ _ c => ?_) (fun _ _ _ c => ?_) (fun _ _ _ _ c => ?_) (fun _ _ _ _ _ c => ?_) (fun _ _ _ _ _ _ c => ?_) (fun _ _ _ _ _ _ _ c => ?_) (fun _ _ _ _ _ _ _ _ c => ?_) (fun _ _ _ _ _ _ _ _ _ c => ?_) (fun _ _ _ _ _ _ _ _ _ _ c => ?_) (fun _ _ _ _ _ _ _ _ _ _ _ c => ?_) (fun d3 d4 d5 d6 d7 d8 d9 d10 d11 d12 d13 d14 => ?_))
  · refine z_Ki.of (d2 := d - 1) (by omega) (a_X3_isWithin a 0 (C - 1) ha w0 c1) fun o G' h' _ hh => ⟨_, hh.1, ?_⟩
    rw [hh.2.1, hh.2.2]
    refine b_X3_numbersCanBe_72 (zb_in _) (fun q => ⟨by rw [z_b0 (fun w => zb_eq q ((e3 c).1 w).1)], rfl, rfl⟩) (fun q => z_Ki.of (d2 := d - 1) (by omega) (a_X3_isWithin b 0 3 hb w0 w3) fun o G' h' _ hh => ⟨_, hh.1, ?_⟩)
    rw [hh.2.1, hh.2.2]
    exact b_X3_numbersCanBe_81 (zb_in _) (fun q2 => ⟨by rw [z_b0 (fun w => zb_eq q2 ((e3 c).1 w).2)], rfl, rfl⟩) (fun q2 => ⟨by rw [z_b1 ((e3 c).2 ⟨zb_ne q, zb_ne q2⟩)], rfl, rfl⟩)
  · exact tail _ (eE (by omega) (by omega) (by omega) (by omega) (by omega))
  · refine z_Ki.of (d2 := d - 1) (by omega) (a_X3_isWithin a 0 (C - 2) ha w0 c2) fun o G' h' _ hh => ⟨_, hh.1, ?_⟩
    rw [hh.2.1, hh.2.2]
    refine b_X3_numbersCanBe_98 (zb_in _) (fun q => ⟨by rw [z_b0 (fun w => zb_eq q ((e5 c).1 w).1)], rfl, rfl⟩) (fun q => z_Ki.of (d2 := d - 1) (by omega) (a_X3_isWithin b 0 3 hb w0 w3) fun o G' h' _ hh => ⟨_, hh.1, ?_⟩)
    rw [hh.2.1, hh.2.2]
    exact b_X3_numbersCanBe_107 (zb_in _) (fun q2 => ⟨by rw [z_b0 (fun w => zb_eq q2 ((e5 c).1 w).2)], rfl, rfl⟩) (fun q2 => ⟨by rw [z_b1 ((e5 c).2 ⟨zb_ne q, zb_ne q2⟩)], rfl, rfl⟩)
  · refine z_Ki.of (d2 := d - 1) (by omega) (a_X3_isWithin a 1 (C - 1) ha w1 c1) fun o G' h' _ hh => ⟨_, hh.1, ?_⟩
    rw [hh.2.1, hh.2.2]
    exact b_X3_numbersCanBe_157 (zb_in _) (fun _ => hb) (fun q => ⟨by rw [z_b0 (fun w => zb_eq q ((e6 c).1 w).1)], rfl, rfl⟩) (fun q q2 => ⟨by rw [z_b0 (fun w => q2 ((e6 c).1 w).2)], rfl, rfl⟩) (fun q q2 => ⟨by rw [z_b1 ((e6 c).2 ⟨zb_ne q, Classical.not_not.mp q2⟩)], rfl, rfl⟩)
  · exact tail _ (eE (by omega) (by omega) (by omega) (by omega) (by omega))
  · exact tail _ (eE (by omega) (by omega) (by omega) (by omega) (by omega))
  · exact tail _ (eE (by omega) (by omega) (by omega) (by omega) (by omega))
  · exact tail _ (eE (by omega) (by omega) (by omega) (by omega) (by omega))
  · refine z_Ki.of (d2 := d - 1) (by omega) (a_X3_isWithin a 0 (C - 1) ha w0 c1) fun o G' h' _ hh => ⟨_, hh.1, ?_⟩
    rw [hh.2.1, hh.2.2]
    refine b_X3_numbersCanBe_124 (zb_in _) (fun q => ⟨by rw [z_b0 (fun w => zb_eq q ((e11 c).1 w).1)], rfl, rfl⟩) (fun q => z_Ki.of (d2 := d - 1) (by omega) (a_X3_isWithin b 0 (C - 1) hb w0 c1) fun o G' h' _ hh => ⟨_, hh.1, ?_⟩)
    rw [hh.2.1, hh.2.2]
    exact b_X3_numbersCanBe_135 (zb_in _) (fun _ => ha) (fun _ => hb) (fun q2 => ⟨by rw [z_b0 (fun w => zb_eq q2 ((e11 c).1 w).2.1)], rfl, rfl⟩) (fun q2 q3 => ⟨by rw [z_b0 (fun w => ((e11 c).1 w).2.2 q3)], rfl, rfl⟩) (fun q2 q3 => ⟨by rw [z_b1 ((e11 c).2 ⟨zb_ne q, zb_ne q2, q3⟩)], rfl, rfl⟩)
  · exact tail _ (eE (by omega) (by omega) (by omega) (by omega) (by omega))
  · exact tail _ (eE (by omega) (by omega) (by omega) (by omega) (by omega))
  · refine z_Ki.of (d2 := d - 1) (by omega) (a_X3_isWithin a 0 (C - 2) ha w0 c2) fun o G' h' _ hh => ⟨_, hh.1, ?_⟩
    rw [hh.2.1, hh.2.2]
    exact b_X3_numbersCanBe_178 (zb_in _) (fun _ => hb) (fun q => ⟨by rw [z_b0 (fun w => zb_eq q ((e14 c).1 w).1)], rfl, rfl⟩) (fun q q2 => ⟨by rw [z_b0 (fun w => q2 ((e14 c).1 w).2)], rfl, rfl⟩) (fun q q2 => ⟨by rw [z_b1 ((e14 c).2 ⟨zb_ne q, Classical.not_not.mp q2⟩)], rfl, rfl⟩)
  · exact tail _ (eE (by omega) (by omega) (by omega) (by omega) (by omega))
end Chg
