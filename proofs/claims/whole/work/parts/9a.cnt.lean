/-! the model's ways, counted backwards -/
theorem sml_ap {g : Int → Nat} {a b : List (Int × Int)} : sml g (a ++ b) = sml g a + sml g b := by
  unfold sml; rw [List.map_append, List.sum_append]
theorem edI_mem {two : Prop} {P : zSt} {lv : Int} {s : bS} {ct : Int × Int} : ∀ (N e : Nat), e < N → ct ∈ edI two P lv s e → ct ∈ edP two P lv s N := by
  intro N
  induction N with
  | zero => intro e h; omega
  | succ N ih =>
    intro e h hc
    rw [edP]
    by_cases z : e = N
    · subst z; exact List.mem_append_right _ hc
    · exact List.mem_append_left _ (ih e (by omega) hc)
def mC (a j : Int) : Prop := mW a j ∨ a = 105
section Cnt
variable {D : zD} {d : Nat} {G : zG} {h h0 h1 : zH} {Q : zO → zG → zH → Prop} {two : Prop} {W V B : zTb} {wi vi : Int} {lvl : Int → Int} {l : Int} {s : bS}
noncomputable def pL (two : Prop) (W V : zTb) (lvl : Int → Int) (l : Int) (s : bS) (r : Nat) (t : Int) : Nat := (pth (eD two s lvl l) (eE (eW W V) s) r t).length
/-- what is counted so far: levels behind k, and level k up to x -/
def ctI (two : Prop) (W V B : zTb) (wi vi : Int) (lvl : Int → Int) (l : Int) (s : bS) (h0 : zH) (k x : Int) (g : zH) : Prop := msI two W V B wi vi g s ∧ lvR g lvl l ∧ frB mC h0 g ∧ ∀ l' : Int, 0 ≤ l' → l' ≤ l → ∀ t : Int, lvl l' ≤ t → t < lvl (l' + 1) → (k < l' ∨ (l' = k ∧ t < x)) → g 105 t = cap (pL two W V lvl l s (l - l').toNat t)
theorem msI_105 {t v : Int} (m : msI two W V B wi vi h s) : msI two W V B wi vi (z_wr h 105 t v) s := by
  have o : ∀ b j : Int, ¬ b = 105 → z_wr h 105 t v b j = h b j := fun b j p => w_na p
  obtain ⟨a1, a2, ⟨a3, a4, a5⟩, a6, a7, a8, a9⟩ := m
  have kp : ∀ {k : Int} {T : zTb}, isM h k T → isM (z_wr h 105 t v) k T := fun q => ⟨by rw [o 89 _ (by omega)]; exact q.1, by rw [o 90 _ (by omega)]; exact q.2.1, fun r c x1 x2 x3 x4 => by rw [o 91 _ (by omega)]; exact q.2.2 r c x1 x2 x3 x4⟩
  refine ⟨mST_k a1 (fun b j p => o b j (by omega)), by rw [o 88 32 (by omega)]; exact a2, ⟨a3, by rw [o 88 33 (by omega)]; exact a4, kp a5⟩, fun z => ?_, by rw [o 88 30 (by omega)]; exact a7, fun i i0 i1 => by rw [o 107 i (by omega)]; exact a8 i i0 i1, a9⟩
  obtain ⟨b1, b2, b3⟩ := a6 z
  exact ⟨b1, by rw [o 88 34 (by omega)]; exact b2, kp b3⟩
theorem lv_bd (o : lvO lvl l) (e : lvl (l + 1) = s.1) (s15 : s.1 ≤ 1500) : ∀ k : Int, 0 ≤ k → k ≤ l + 1 → 0 ≤ lvl k ∧ lvl k ≤ 1500 := fun k k0 k1 => by
  have a := o.mo (Int.le_refl 0) k0 k1
  have b := o.mo k0 k1 (Int.le_refl _)
  rw [o.2.1] at a
  omega
/-- one step's ways -/
theorem cw_step {k x n a b : Int} {g : zH} (c : ctI two W V B wi vi lvl l s h0 k x g) (o : lvO lvl l) (tg : tgB two lvl l s) (k0 : 0 ≤ k) (kl : k < l) (x0 : lvl k ≤ x) (x1 : x < lvl (k + 1)) (n1 : 1 ≤ n) (n2 : n ≤ 14) (a0 : 0 ≤ a) (a1 : a ≤ 5) (b0 : 0 ≤ b) (b1 : b ≤ 5) : ldv two (g 105) s (s.2 x) (lvl (k + 1)) (lvl (k + 1 + 1)) n a b = cap (sml (pL two W V lvl l s (l - (k + 1)).toNat) (edI two (s.2 x) (lvl (k + 1)) s (ei n a b))) := by
  unfold ldv edI
  rw [nxe_ei a0 a1 b0 b1]
  cases es : nx two n a b (s.2 x) with
  | none => exact ((cap_z _).2 rfl).symm
  | some S =>
    dsimp only
    by_cases z : lvl (k + 1) ≤ idx s S
    · have hm : (cod (ei n a b), idx s S) ∈ edP two (s.2 x) (lvl (k + 1)) s 504 := by
        refine edI_mem 504 (ei n a b).toNat (by unfold ei; omega) ?_
        rw [show (((ei n a b).toNat : Nat) : Int) = ei n a b by unfold ei; omega]
        unfold edI
        rw [nxe_ei a0 a1 b0 b1, es]
        dsimp only
        rw [if_pos z]; exact List.mem_singleton.mpr rfl
      have t := tg k k0 kl x x0 x1 _ hm
      have t : idx s S < lvl (k + 2) := t
      rw [if_pos ⟨z, by rw [show k + 1 + 1 = k + 2 by omega]; exact t⟩, if_pos z]
      rw [c.2.2.2 (k + 1) (by omega) (by omega) (idx s S) z (by rw [show k + 1 + 1 = k + 2 by omega]; exact t) (Or.inl (by omega))]
      congr 1
    · rw [if_neg (fun q => z q.1), if_neg z]; exact ((cap_z _).2 rfl).symm
theorem l_cw98 (hd : 9 ≤ d) (o : lvO lvl l) (e0 : lvl (l + 1) = s.1) (tg : tgB two lvl l s) (l3 : l ≤ 3) {k x n a : Int} (k0 : 0 ≤ k) (kl : k < l) (x0 : lvl k ≤ x) (x1 : x < lvl (k + 1)) (n1 : 1 ≤ n) (n2 : n ≤ 14) (a0 : 0 ≤ a) (a1 : a ≤ 5)
    (K : ∀ g : zH, ctI two W V B wi vi lvl l s h0 k x g → g 105 x = cap (sml (pL two W V lvl l s (l - (k + 1)).toNat) (edP two (s.2 x) (lvl (k + 1)) s (ei n (a + 1) 0).toNat)) → z_Y D M_X13_countWays d 88 [(0, 2, 88), (2, 0, k), (3, 0, x), (4, 0, n), (5, 0, a + 1)] [] G g Q) :
    ∀ (m : Nat) (b : Int) (g : zH), 6 = b + m → 0 ≤ b → ctI two W V B wi vi lvl l s h0 k x g → g 105 x = cap (sml (pL two W V lvl l s (l - (k + 1)).toNat) (edP two (s.2 x) (lvl (k + 1)) s (ei n a b).toNat)) → z_Y D M_X13_countWays d 98 [(0, 2, 88), (2, 0, k), (3, 0, x), (4, 0, n), (5, 0, a), (6, 0, b)] [] G g Q := by
  intro m
  induction m with
  | zero =>
    intro b g e b0 c v
    refine b_X13_countWays_98 ⟨by omega, by omega⟩ (fun c => by omega) (fun c => by omega) (fun _ => K g c ?_) (fun c => by omega)
    rw [show ei n a b = ei n (a + 1) 0 by unfold ei; omega] at v
    exact v
  | succ m ih =>
    intro b g e b0 c v
    have s15 := c.1.1.1.2.2
    have lb := lv_bd o e0 s15
    have bx := lb k k0 (by omega)
    have bx2 := o.mo (a := k + 1) (b := l + 1) (by omega) (by omega) (by omega)
    have st := cw_step (n := n) (a := a) (b := b) c o tg k0 kl x0 x1 n1 n2 a0 a1 b0 (by omega)
    refine b_X13_countWays_98 ⟨by omega, by omega⟩ (fun _ => by omega) (fun _ => by omega) (fun c => by omega) (fun _ => ?_)
    refine z_Ki.of (d2 := d - 1) (by omega) (m_leadsBy (l := l) (lvl := lvl) (by omega) c.1 (by omega) (by omega) n1 n2 a0 a1 b0 (by omega) c.2.1 (by omega) (by omega) l3 lb) ?_
    rintro out G' h1 hl1 ⟨rfl, f1, r1, -⟩
    rw [st] at r1
    refine ⟨_, r1, ?_⟩
    rw [v]
    refine b_X13_countWays_132 (by omega) ⟨by omega, by omega⟩ (cap2_in _ _) (by omega) (by omega) ?_
    rw [cap_add]
    refine ih (b + 1) _ (by omega) (by omega) ⟨msI_105 (msI_W c.1 f1), fun j j0 j1 => ?_, ?_, fun l' a' b' t t0 t1 q => ?_⟩ ?_
    · rw [w_na (by omega), f1 106 j (by unfold mW; omega)]; exact c.2.1 j j0 j1
    · exact (c.2.2.1.tr (f1.imp fun _ _ q => Or.inl q)).w (Or.inr rfl)
    · have nt : ¬ t = x := fun z => by
        rcases q with q | q
        · have := o.mo (a := k + 1) (b := l') (by omega) (by omega) (by omega)
          omega
        · omega
      rw [w_nj nt, f1 105 t (by unfold mW; omega)]
      exact c.2.2.2 l' a' b' t t0 t1 q
    · rw [w_s, ← sml_ap, ← edP_s (by unfold ei; omega), show ei n a b + 1 = ei n a (b + 1) by unfold ei; omega]
theorem l_cw88 (hd : 9 ≤ d) (o : lvO lvl l) (e0 : lvl (l + 1) = s.1) (tg : tgB two lvl l s) (l3 : l ≤ 3) {k x n : Int} (k0 : 0 ≤ k) (kl : k < l) (x0 : lvl k ≤ x) (x1 : x < lvl (k + 1)) (n1 : 1 ≤ n) (n2 : n ≤ 14)
    (K : ∀ g : zH, ctI two W V B wi vi lvl l s h0 k x g → g 105 x = cap (sml (pL two W V lvl l s (l - (k + 1)).toNat) (edP two (s.2 x) (lvl (k + 1)) s (ei (n + 1) 0 0).toNat)) → z_Y D M_X13_countWays d 78 [(0, 2, 88), (2, 0, k), (3, 0, x), (4, 0, n + 1)] [] G g Q) :
    ∀ (m : Nat) (a : Int) (g : zH), 6 = a + m → 0 ≤ a → ctI two W V B wi vi lvl l s h0 k x g → g 105 x = cap (sml (pL two W V lvl l s (l - (k + 1)).toNat) (edP two (s.2 x) (lvl (k + 1)) s (ei n a 0).toNat)) → z_Y D M_X13_countWays d 88 [(0, 2, 88), (2, 0, k), (3, 0, x), (4, 0, n), (5, 0, a)] [] G g Q := by
  intro m
  induction m with
  | zero =>
    intro a g e a0 c v
    refine b_X13_countWays_88 ⟨by omega, by omega⟩ (fun _ => K g c ?_) (fun c => by omega)
    rw [show ei n a 0 = ei (n + 1) 0 0 by unfold ei; omega] at v
    exact v
  | succ m ih =>
    intro a g e a0 c v
    exact b_X13_countWays_88 ⟨by omega, by omega⟩ (fun c => by omega) (fun _ => l_cw98 hd o e0 tg l3 k0 kl x0 x1 n1 n2 a0 (by omega) (fun g c v => ih (a + 1) g (by omega) (by omega) c v) 6 0 g (by omega) (by omega) c v)
theorem l_cw78 (hd : 9 ≤ d) (o : lvO lvl l) (e0 : lvl (l + 1) = s.1) (tg : tgB two lvl l s) (l3 : l ≤ 3) {k x : Int} (k0 : 0 ≤ k) (kl : k < l) (x0 : lvl k ≤ x) (x1 : x < lvl (k + 1))
    (K : ∀ g : zH, ctI two W V B wi vi lvl l s h0 k x g → g 105 x = cap (sml (pL two W V lvl l s (l - (k + 1)).toNat) (edP two (s.2 x) (lvl (k + 1)) s 504)) → z_Y D M_X13_countWays d 56 [(0, 2, 88), (2, 0, k), (3, 0, x + 1)] [] G g Q) :
    ∀ (m : Nat) (n : Int) (g : zH), 15 = n + m → 1 ≤ n → ctI two W V B wi vi lvl l s h0 k x g → g 105 x = cap (sml (pL two W V lvl l s (l - (k + 1)).toNat) (edP two (s.2 x) (lvl (k + 1)) s (ei n 0 0).toNat)) → z_Y D M_X13_countWays d 78 [(0, 2, 88), (2, 0, k), (3, 0, x), (4, 0, n)] [] G g Q := by
  intro m
  induction m with
  | zero =>
    intro n g e n0 c v
    refine b_X13_countWays_78 ⟨by omega, by omega⟩ (fun _ => K g c ?_) (fun c => by omega)
    rw [show n = 15 by omega, show ei 15 0 0 = 504 by decide] at v
    exact v
  | succ m ih =>
    intro n g e n0 c v
    exact b_X13_countWays_78 ⟨by omega, by omega⟩ (fun c => by omega) (fun _ => l_cw88 hd o e0 tg l3 k0 kl x0 x1 (by omega) (by omega) (fun g c v => ih (n + 1) g (by omega) (by omega) c v) 6 0 g (by omega) (by omega) c v)
theorem l_cw56 (hd : 9 ≤ d) (o : lvO lvl l) (e0 : lvl (l + 1) = s.1) (tg : tgB two lvl l s) (l3 : l ≤ 3) {k : Int} (k0 : 0 ≤ k) (kl : k < l)
    (K : ∀ g : zH, ctI two W V B wi vi lvl l s h0 k (lvl (k + 1)) g → z_Y D M_X13_countWays d 45 [(0, 2, 88), (2, 0, k + -1)] [] G g Q) :
    ∀ (m : Nat) (x : Int) (g : zH), lvl (k + 1) = x + m → lvl k ≤ x → ctI two W V B wi vi lvl l s h0 k x g → z_Y D M_X13_countWays d 56 [(0, 2, 88), (2, 0, k), (3, 0, x)] [] G g Q := by
  intro m
  induction m with
  | zero =>
    intro x g e x0 c
    have s15 := c.1.1.1.2.2
    have lb := lv_bd o e0 s15 (k + 1) (by omega) (by omega)
    have v := c.2.1 (k + 1) (by omega) (by omega)
    refine b_X13_countWays_56 (by omega) (by omega) ⟨by omega, by omega⟩ (by rw [v]; exact ⟨by omega, by omega⟩) (fun c => absurd (by rw [v]; omega) c) (fun c => absurd (by rw [v]; omega) c) (fun _ => K g ?_) (fun c => absurd (by rw [v]; omega) c)
    rw [show x = lvl (k + 1) by omega] at c
    exact c
  | succ m ih =>
    intro x g e x0 c
    have s15 := c.1.1.1.2.2
    have lb := lv_bd o e0 s15 (k + 1) (by omega) (by omega)
    have lb0 := lv_bd o e0 s15 k (by omega) (by omega)
    have v := c.2.1 (k + 1) (by omega) (by omega)
    have lbx := o.mo (a := k + 1) (b := l + 1) (by omega) (by omega) (by omega)
    have x15 : x < 1500 := by omega
    refine b_X13_countWays_56 (by omega) (by omega) ⟨by omega, by omega⟩ (by rw [v]; exact ⟨by omega, by omega⟩) (fun _ => by omega) (fun _ => x15) (fun c => absurd c (by rw [v]; omega)) (fun _ => ?_)
    refine l_cw78 hd o e0 tg l3 k0 kl x0 (by omega) (fun g' c' v' => ih (x + 1) g' (by omega) (by omega) ⟨c'.1, c'.2.1, c'.2.2.1, fun l' a b t t0 t1 q => ?_⟩) 14 1 _ (by omega) (by omega) ⟨msI_105 c.1, fun j j0 j1 => by rw [w_na (by omega)]; exact c.2.1 j j0 j1, c.2.2.1.w (Or.inr rfl), fun l' a b t t0 t1 q => ?_⟩ ?_
    · by_cases z : t = x
      · subst z
        have el : l' = k := by
          rcases q with q | q
          · have := o.mo (a := k + 1) (b := l') (by omega) (by omega) (by omega)
            omega
          · exact q.1
        subst el
        have ep : pL two W V lvl l s (l - l').toNat t = sml (pL two W V lvl l s (l - (l' + 1)).toNat) (edP two (s.2 t) (lvl (l' + 1)) s 504) := by
          rw [show (l - (l' + 1)).toNat = (l - l' - 1).toNat by omega, show (l - l').toNat = (l - l' - 1).toNat + 1 by omega]
          unfold pL
          rw [pth_len, eD_at k0 kl]
        rw [v', ep]
      · exact c'.2.2.2 l' a b t t0 t1 (by omega)
    · have nt : ¬ t = x := fun z => by
        rcases q with q | q
        · have := o.mo (a := k + 1) (b := l') (by omega) (by omega) (by omega)
          omega
        · omega
      rw [w_nj nt]; exact c.2.2.2 l' a b t t0 t1 q
    · rw [w_s]; exact ((cap_z _).2 rfl).symm
end Cnt
