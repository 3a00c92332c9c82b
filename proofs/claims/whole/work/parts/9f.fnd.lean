/-! the model's levels -/
def mFd (a j : Int) : Prop := mW a j ∨ (101 ≤ a ∧ a ≤ 113) ∨ (a = 88 ∧ 29 ≤ j)
theorem mX_F {a j : Int} (q : mX a j) : mFd a j := by unfold mX mK at q; unfold mFd; rcases q with q | q | q | q <;> first | exact Or.inl q | (right; omega)
theorem mTl_F {a j : Int} (q : mTl a j) : mFd a j := by unfold mTl at q; unfold mFd; rcases q with q | q | q <;> first | exact Or.inl q | (right; omega)
def fnM (h : zH) (r : Int × Int × Int × Int × List (List Int)) : Prop := h 88 29 = r.2.1 ∧ h 88 30 = r.2.2.1 ∧ h 88 31 = r.2.2.2.1 ∧ tdM r.1 h r.2.2.2.2
section Fnd
variable {D : zD} {d : Nat} {G : zG} {h h0 h1 : zH} {two : Prop} {W V B : zTb} {wi vi : Int}
def feQ (two : Prop) (W V : zTb) (R : Int × bS × (Int → Int)) (G : zG) (h : zH) : zO → zG → zH → Prop := fun out G' h' => out = .inl (some (0, R.1)) ∧ G' = G ∧ frB mFd h h' ∧ fnM h' (fRR two (eW W V) R)
/-- a level's beginning, for the model -/
def mlI (two : Prop) (W V B : zTb) (wi vi : Int) (lvl : Int → Int) (l : Int) (s : bS) (h : zH) : Prop := msI two W V B wi vi h s ∧ lvR h lvl l ∧ (lvO lvl l ∧ lvl (l + 1) = s.1) ∧ (∀ j : Int, 0 ≤ j → j < lvl l → edK two (s.2 j) s 504) ∧ tgB two lvl l s
theorem tgB_next {lvl : Int → Int} {l : Int} {s0 s : bS} (o : lvO lvl l) (e0 : lvl (l + 1) = s0.1) (x : exS s0 s) (ek : ∀ j : Int, 0 ≤ j → j < lvl l → edK two (s0.2 j) s0 504) (tg : tgB two lvl l s0) : lvO (lvN lvl l s.1) (l + 1) ∧ lvN lvl l s.1 (l + 1 + 1) = s.1 ∧ tgB two (lvN lvl l s.1) (l + 1) s := by
  have o1 := o.1
  have lo : ∀ k : Int, k ≤ l + 1 → lvN lvl l s.1 k = lvl k := fun k hk => lvN_o (by omega)
  have x1 := x.1
  refine ⟨⟨by omega, by rw [lo 0 (by omega)]; exact o.2.1, fun k a b => ?_⟩, by rw [show l + 1 + 1 = l + 2 by omega]; exact lvN_n, fun l' a b j c e ct hc => ?_⟩
  · rw [lo k (by omega)]
    by_cases z : k = l + 1
    · subst z; rw [show l + 1 + 1 = l + 2 by omega, lvN_n]; omega
    · rw [lo (k + 1) (by omega)]; exact o.2.2 k a (by omega)
  · rw [lo l' (by omega)] at c
    rw [lo (l' + 1) (by omega)] at e hc
    have m1 := o.mo (Int.le_refl 0) (show 0 ≤ l' + 1 by omega) (by omega)
    rw [o.2.1] at m1
    have m0 := o.mo (Int.le_refl 0) a (by omega)
    rw [o.2.1] at m0
    by_cases z : l' = l
    · subst z
      rw [lvN_n]
      exact (edP_tg (by omega) 504 ct hc).2
    · have m2 := o.mo (a := l' + 1) (b := l) (by omega) (by omega) (by omega)
      have m3 := o.2.2 l o.1 (Int.le_refl _)
      rw [lo (l' + 2) (by omega)]
      rw [x.2 j (by omega) (by omega), edP_ex x 504 (ek j (by omega) (by omega))] at hc
      exact tg l' a (by omega) j c e ct hc
theorem l_fnd241 (hd : 9 ≤ d) {lvl : Int → Int} {l most : Int} {s0 : bS} {RL : Int × bS} {Q : zO → zG → zH → Prop} (oW : okT W) (oV : okT V) (o : lvO lvl l) (e0 : lvl (l + 1) = s0.1) (l3 : l < 3)
    (KF : ∀ (h : zH), RL.1 = 0 → msI two W V B wi vi h RL.2 → frB mX h0 h → Q (.inl (some (0, -3))) G h)
    (K : ∀ (s : bS) (h : zH), RL = (1, s) → msI two W V B wi vi h s → exS s0 s → (∀ j : Int, 0 ≤ j → j < lvl (l + 1) → edK two (s.2 j) s 504) → frB mX h0 h → z_Y D M_X13_find d 218 [(0, 2, 88), (5, 0, most), (6, 0, l + 1)] [] G (z_wr h 106 (l + 1 + 1) (h 88 29)) Q) (lr : lvR h0 lvl l) :
    ∀ (m : Nat) (i : Int) (s : bS) (h : zH), lvl (l + 1) = i + m → 0 ≤ i → msI two W V B wi vi h s → exS s0 s → bL two (lvl (l + 1) - i).toNat i s = RL → (∀ j : Int, 0 ≤ j → j < i → edK two (s.2 j) s 504) → frB mX h0 h → z_Y D M_X13_find d 241 [(0, 2, 88), (5, 0, most), (6, 0, l), (7, 0, i)] [] G h Q := by
  have o1 := o.1
  intro m
  induction m with
  | zero =>
    intro i s h e i0 ms x eb ek f
    have v : h 106 (l + 1) = lvl (l + 1) := by rw [f 106 _ (by unfold mX mW mK; omega)]; exact lr (l + 1) (by omega) (by omega)
    have s15 := ms.1.1
    have x1 := x.1
    refine b_X13_find_241 (by omega) (by omega) ⟨by omega, by omega⟩ (by rw [v]; exact ⟨by omega, by omega⟩) (fun _ => by omega) (fun _ => by omega) (fun _ => K s h ?_ ms x (fun j j0 j1 => ek j j0 (by omega)) f) (fun c => absurd (by rw [v]; omega) c)
    rw [← eb, show (lvl (l + 1) - i).toNat = 0 by omega]; rfl
  | succ m ih =>
    intro i s h e i0 ms x eb ek f
    have v : h 106 (l + 1) = lvl (l + 1) := by rw [f 106 _ (by unfold mX mW mK; omega)]; exact lr (l + 1) (by omega) (by omega)
    have s15 := ms.1.1
    have x1 := x.1
    have is : i < s.1 := by omega
    rw [show (lvl (l + 1) - i).toNat = (lvl (l + 1) - (i + 1)).toNat + 1 by omega, bL] at eb
    refine b_X13_find_241 (by omega) (by omega) ⟨by omega, by omega⟩ (by rw [v]; exact ⟨by omega, by omega⟩) (fun c => absurd c (by rw [v]; omega)) (fun c => absurd c (by rw [v]; omega)) (fun c => absurd c (by rw [v]; omega)) (fun _ => ?_)
    refine z_Ki.of (d2 := d - 1) (by omega) (m_spread (by omega) ms oW oV i0 is) ?_
    rintro out G' h1 hl1 ⟨rfl, f1, r1, ms1⟩
    have bp := bX_p (two := two) (P := s.2 i) 504 0 s s15.2.2
    rcases bp.2.2 with z | z
    · rw [if_pos z] at eb
      rw [z] at r1
      refine ⟨0, r1, b_X13_find_261 ⟨by omega, by omega⟩ (fun c => absurd rfl c) (fun _ => KF h1 (by rw [← eb]; exact z) (by rw [← eb]; exact ms1) (f.tr f1))⟩
    · rw [if_neg (by rw [z]; decide)] at eb
      rw [z] at r1
      have eK := bX_K (two := two) (P := s.2 i) 504 0 s s15.2.1 s15.2.2 (fun j a b => by omega) z
      rw [show (0 : Int) + ((504 : Nat) : Int) = 504 by omega] at eK
      refine ⟨1, r1, b_X13_find_261 ⟨by omega, by omega⟩ (fun _ => ih (i + 1) _ h1 (by omega) (by omega) ms1 (x.tr bp.1) eb (fun j j0 j1 => ?_) (f.tr f1)) (fun c => absurd (by decide) c)⟩
      rw [bp.1.2 j j0 (by omega)]
      by_cases y : j = i
      · subst y; exact eK
      · exact edK_ex bp.1 (ek j j0 (by omega))
end Fnd
