/-! begin, and seek whole -/
section Begin
variable {D : zD} {d : Nat} {G G0 : zG} {h h1 h2 h0 g : zH} {two : Prop} {W V B : zTb}
/-- the empty search -/
theorem SI_0 {n : Int} {P : zSt} (po : pool G h n) (rm : rmS G h) (eg : edg G h) (k49 : ∀ j : Int, 0 ≤ j → j < 4096 → h 49 j = 0) (e14 : h 33 14 = 0) (e12 : h 33 12 = 0) (e15 : h 33 15 = 0) (e8 : h 33 8 = z_b two) (kw : isC h 42 W) (kv : isC h 44 V) (kb : isC h 40 P.2) : SI two W V P.2 G h (0, fun _ => P) (fun _ => 0) := by
  have p1 := po.1
  have g3 := eg.2.2.1
  refine ⟨⟨n, po, ⟨Int.le_refl _, p1.1⟩, e14, ⟨?_, fun k k0 k1 => ?_, fun i i0 i1 => ?_⟩, fun i j i0 ij j1 => ?_, fun i i0 i1 => ?_⟩, rm, eg, ⟨kw, kv⟩, e8, e15, fun i i0 i1 => ?_, fun _ _ => rfl, fun _ => ⟨kb, fun i i0 i1 => ?_⟩, by omega⟩
  · exact (zct_0 _ 4096).2 fun i i0 i1 w => w (k49 i i0 (by omega))
  · rw [k49 k k0 k1]; exact ⟨Int.le_refl _, Int.le_refl _⟩
  · have : i < 0 := i1
    omega
  · have : j < 0 := j1
    omega
  · have : i < 0 := i1
    omega
  · have : i < 0 := i1
    omega
  · have : i < 0 := i1
    omega
theorem adS_0 {P : zSt} : adS (0, fun _ => P) P = (1, fun _ => P) := by
  unfold adS
  congr 1
  funext i
  show (if i = (0 : Int) then P else P) = P
  split <;> rfl
/-- from the four tables on -/
theorem l_beg109 (hd : 4 ≤ d) {n : Int} {P : zSt} (oP : okP P) (oW : okT W) (oV : okT V) (si : SI two W V P.2 G h (0, fun _ => P) (fun _ => 0)) (k1 : isC h 38 P.1) (k2 : isC h 40 P.2) :
    z_Y D M_X1_begin d 109 [(0, 2, 33)] [] G h (fun out G' h' => out = .inl none ∧ SI two W V P.2 G' h' (1, fun _ => P) (fun x => if x = 0 then 0 + 1 else 0) ∧ frK G h G' h' ∧ (∀ j : Int, h' 51 j = h 51 j) ∧ h' 33 12 = h 33 12 ∧ h' 33 16 = h 33 16) := by
  obtain ⟨⟨n, ss⟩, rm, eg, ⟨kw, kv⟩, -⟩ := id si
  have p1 := ss.1.1
  refine b_X1_begin_109 (z_Ki.of (d2 := d - 1) (by omega) (a_X1_mixOfMade (by omega) k1 k2 oP) ?_)
  rintro out G' h' hl' ⟨r1, rfl, rfl⟩
  refine ⟨_, r1, b_X1_begin_113 (z_Ki.of (d2 := d - 1) (by omega) (c_slotOf (by omega) ss k1 k2 oP) ?_)⟩
  rintro out G' h' hl' ⟨rfl, rfl, k, r2, sl⟩
  have ix : idx (0, fun _ => P) P = -1 := by
    rcases idx_rg ((0, fun _ => P) : bS) P with w | w
    · exact w.1
    · have : idx (0, fun _ => P) P < 0 := w.2.1.1
      omega
  have s0 : h' 49 k = 0 := by
    rcases sl.2 with w | w
    · exact w.1
    · omega
  refine ⟨_, r2, b_X1_begin_122 (z_Ki.of (d2 := d - 1) (by omega) (c_addState (by omega) ss k1 k2 oP kw kv oW oV rm eg sl s0) ?_)⟩
  intro out G1 h1 hl1 qa
  obtain ⟨u1, u2, u3, u4, u5⟩ := SI_add si (by show (0 : Int) < 1500; omega) (fun _ => rfl) qa
  rw [adS_0] at u1
  obtain ⟨⟨n1, ss1⟩, -⟩ := id u1
  have sr1 : (1 : Int) ≤ n1 := ss1.2.1.2
  refine ⟨_, u3, b_X1_begin_127 (ss1.1.2.1 0 (by omega) (by omega)).1.1 ?_⟩
  have q := SI_ways hl1 (t := 0) (v := 1) u1 (by omega) (by show (0 : Int) < 1; omega)
  have e1 : cap (0 + 1) = 1 := by unfold cap; rw [if_pos (by show ((1 : Nat) : Int) < 1000000; omega)]; rfl
  rw [e1] at q
  have a114 := (ss1.1.2.1 0 (by omega) (by omega)).2.1
  have w : ∀ b j : Int, b < 114 → z_wr h1 (h1 48 0) 6 1 b j = h1 b j := fun b j p => w_na (by omega)
  refine ⟨rfl, q.1, ⟨u2.1, fun b j p q r t => ?_⟩, fun j => ?_, ?_, ?_⟩
  · rw [w b j p]; exact u2.2.1 b j p (by omega) (by omega) (by omega) (by omega)
  · rw [w 51 j (by omega)]; exact u2.2.1 51 j (by omega) (by omega) (by omega) (by omega) (by omega)
  · rw [w 33 12 (by omega)]; exact u5
  · rw [w 33 16 (by omega)]; exact u2.2.1 33 16 (by omega) (by omega) (by omega) (by omega) (by omega)
def bgQ (two : Prop) (W V : zTb) (P : zSt) (G : zG) (h : zH) : zO → zG → zH → Prop := fun out G' h' => out = .inl none ∧ SI two W V P.2 G' h' (1, fun _ => P) (fun x => if x = 0 then 0 + 1 else 0) ∧ frK G h G' h' ∧ tdI h' ∧ h' 51 0 = 0 ∧ h' 33 12 = 0 ∧ h' 33 16 = 0
/-- a table that a search may read -/
def rdT (G : zG) (h : zH) (a : Int) (T : zTb) : Prop := z_is G a 3 ∧ isC h a T ∧ okT T ∧ (a = 46 ∨ (56 ≤ a ∧ a < 88))
theorem c_begin (hd : 5 ≤ d) {a b x y : Int} {T U : zTb} (pi : PI G h) (ra : rdT G h a T) (rb : rdT G h b W) (tw : (two ∧ rdT G h x U ∧ rdT G h y V ∧ ¬ x = -1 ∧ ¬ y = -1) ∨ (¬ two ∧ x = -1 ∧ y = -1 ∧ rdT G h 46 U ∧ rdT G h 46 V)) :
    z_CY D M_X1_begin d [(2, 33), (2, a), (2, b), (2, x), (2, y)] G h (bgQ two W V (T, U) G h) := by
  intro hl
  obtain ⟨⟨n, po⟩, rm, eg, td⟩ := pi
  have p1 := po.1
  obtain ⟨ta, ka, oa, va⟩ := ra
  obtain ⟨tb, kb, ob, vb⟩ := rb
  have t49 : z_is G 49 50 := hl.i 49 (by decide) rfl
  have n49 : G.2.2.2 49 = 4096 := hl.n 49 (by decide) rfl
  have t38 : z_is G 38 3 := hl.i 38 (by decide) rfl
  have t40 : z_is G 40 3 := hl.i 40 (by decide) rfl
  have t42 : z_is G 42 3 := hl.i 42 (by decide) rfl
  have t44 : z_is G 44 3 := hl.i 44 (by decide) rfl
  refine z_begin mo_X1_begin rfl (nle rfl) (b_X1_begin_0 (z_Kv.of (d2 := d - 1) (by omega) (a_J7_filli 49 0 4096 t49 n49 (by omega) (by omega)) ?_)) hl
  rintro out G' h1 hl1 ⟨rfl, rfl, e1⟩
  refine ⟨rfl, b_X1_begin_8 (z_Kv.of (d2 := d - 1) (by omega) (z_begin mo_X7_clear rfl (nle rfl) (b_X7_clear_0 (Q := fun o G' h' => o = .inl none ∧ G' = _ ∧ h' = _) ⟨rfl, rfl, rfl⟩)) ?_)⟩
  rintro out G'' h2 hl2 ⟨rfl, rfl, e2⟩
  refine ⟨rfl, ?_⟩
  -- where the four tables come from
  obtain ⟨x', y', rx, ry, hx, hy⟩ : ∃ x' y' : Int, rdT G'' h x' U ∧ rdT G'' h y' V ∧ ((x = -1 ∧ x' = 46) ∨ (¬ x = -1 ∧ x' = x)) ∧ ((y = -1 ∧ y' = 46) ∨ (¬ y = -1 ∧ y' = y)) := by
    rcases tw with ⟨-, q1, q2, q3, q4⟩ | ⟨-, q1, q2, q3, q4⟩
    · exact ⟨x, y, q1, q2, Or.inr ⟨q3, rfl⟩, Or.inr ⟨q4, rfl⟩⟩
    · exact ⟨46, 46, q3, q4, Or.inl ⟨q1, rfl⟩, Or.inl ⟨q2, rfl⟩⟩
  obtain ⟨tx, kx, ox, vx⟩ := rx
  obtain ⟨ty, ky, oy, vy⟩ := ry
  -- behind the marks
  have main : ∀ g : zH, lay G'' g → (∀ b j : Int, ¬ b = 33 → ¬ b = 49 → ¬ (b = 51 ∧ (j = 0 ∨ j = 1)) → g b j = h b j) → (∀ j : Int, ¬ j = 8 → ¬ j = 12 → ¬ j = 14 → ¬ j = 15 → ¬ j = 16 → g 33 j = h 33 j) → (∀ j : Int, 0 ≤ j → j < 4096 → g 49 j = 0) → g 51 0 = 0 → g 33 8 = z_b two → g 33 12 = 0 → g 33 14 = 0 → g 33 15 = 0 → g 33 16 = 0 →
      z_Kv D M_X4_become d [(2, 38), (2, a)] G'' g (fun G' h' => z_Y D M_X1_begin d 61 [(0, 2, 33), (2, 2, b), (3, 2, x), (4, 2, y)] [] G' h' (bgQ two W V (T, U) G'' h)) := by
    intro g hlg f f33 f49 f51 f8 f12 f14 f15 f16
    have kp : ∀ {u : Int} {T : zTb}, (u = 46 ∨ (56 ≤ u ∧ u < 88)) → isC h u T → isC g u T := fun hu k => isC_keep k (fun j => f _ j (by omega) (by omega) (by omega)) (fun j => f _ j (by omega) (by omega) (by omega))
    refine z_Kv.of (d2 := d - 1) (by omega) (c_become (by omega) t38 ta (kp va ka) oa) ?_
    rintro out G1 g1 hg1 ⟨r1, rfl, f1, k1⟩
    refine ⟨r1, b_X1_begin_61 (z_Kv.of (d2 := d - 1) (by omega) (c_become (by omega) t42 tb (isC_B (kp vb kb) f1 (fun j => by omega) (fun j => by omega)) ob) ?_)⟩
    rintro out G1 g2 hg2 ⟨r2, rfl, f2, k2⟩
    refine ⟨r2, ?_⟩
    have k1' := isC_B k1 f2 (fun j => by omega) (fun j => by omega)
    have kx2 : isC g2 x' U := isC_B (isC_B (kp vx kx) f1 (fun j => by omega) (fun j => by omega)) f2 (fun j => by omega) (fun j => by omega)
    have ky2 : isC g2 y' V := isC_B (isC_B (kp vy ky) f1 (fun j => by omega) (fun j => by omega)) f2 (fun j => by omega) (fun j => by omega)
    have go : z_Y D M_X1_begin d 85 [(0, 2, 33), (4, 2, y)] [(2, x'), (2, 40)] G1 g2 (bgQ two W V (T, U) G1 h) := by
      refine b_X1_begin_85 (z_Kv.of (d2 := d - 1) (by omega) (c_become (by omega) t40 tx kx2 ox) ?_)
      rintro out G2 g3 hg3 ⟨r3, rfl, f3, k3⟩
      refine ⟨r3, ?_⟩
      have ky3 : isC g3 y' V := isC_B ky2 f3 (fun j => by omega) (fun j => by omega)
      have go2 : z_Y D M_X1_begin d 106 [(0, 2, 33)] [(2, y'), (2, 44)] G2 g3 (bgQ two W V (T, U) G2 h) := by
        refine b_X1_begin_106 (z_Kv.of (d2 := d - 1) (by omega) (c_become (by omega) t44 ty ky3 oy) ?_)
        rintro out G3 g4 hg4 ⟨r4, rfl, f4, k4⟩
        refine ⟨r4, ?_⟩
        have ff : ∀ b j : Int, ¬ (38 ≤ b ∧ b ≤ 45) → g4 b j = g b j := fun b j q => by rw [f4 b j (by omega), f3 b j (by omega), f2 b j (by omega), f1 b j (by omega)]
        have fo : ∀ b j : Int, ¬ (38 ≤ b ∧ b ≤ 45) → ¬ b = 33 → ¬ b = 49 → ¬ b = 51 → g4 b j = h b j := fun b j p q r t => by rw [ff b j p]; exact f b j q r (by omega)
        have e48 : ∀ j : Int, g4 48 j = h 48 j := fun j => fo 48 j (by omega) (by omega) (by omega) (by omega)
        have z0 : ∀ i : Int, 0 ≤ i → i < n → g4 (h 48 i) 0 = h (h 48 i) 0 := fun i i0 i1 => by
          have := (po.2.1 i i0 i1).2.1
          exact fo _ 0 (by omega) (by omega) (by omega) (by omega)
        have e11 : g4 33 11 = h 33 11 := by rw [ff 33 11 (by omega)]; exact f33 11 (by omega) (by omega) (by omega) (by omega) (by omega)
        have po4 : pool G3 g4 n := by
          refine ⟨po.1, fun i i0 i1 => ?_, fun i j i0 ij j1 => ?_, fun i i0 i1 => by rw [e48]; exact po.2.2.2 i i0 i1⟩
          · unfold stS; rw [e48, z0 i i0 i1]; exact po.2.1 i i0 i1
          · rw [e48, e48, z0 i i0 (by omega), z0 j (by omega) j1]; exact po.2.2.1 i j i0 ij j1
        have k1f : isC g4 38 T := isC_B (isC_B k1' f3 (fun j => by omega) (fun j => by omega)) f4 (fun j => by omega) (fun j => by omega)
        have k2f : isC g4 42 W := isC_B (isC_B k2 f3 (fun j => by omega) (fun j => by omega)) f4 (fun j => by omega) (fun j => by omega)
        have k3f : isC g4 40 U := isC_B k3 f4 (fun j => by omega) (fun j => by omega)
        have si := SI_0 (two := two) (P := (T, U)) po4 (rm_k rm po e48 z0 e11) (by unfold edg; rw [e11]; exact eg) (fun j j0 j1 => by rw [ff 49 j (by omega)]; exact f49 j j0 j1) (by rw [ff 33 14 (by omega)]; exact f14) (by rw [ff 33 12 (by omega)]; exact f12) (by rw [ff 33 15 (by omega)]; exact f15) (by rw [ff 33 8 (by omega)]; exact f8) k2f k4 k3f
        refine (l_beg109 (n := n) (by omega) (P := (T, U)) ⟨oa, ox⟩ ob oy si k1f k3f).mono fun out G' h' _ q => ?_
        obtain ⟨q1, q2, q3, q4, q5, q6⟩ := q
        have fK : frK G3 h G3 g4 := ⟨ext.rf, fun b j p q r t => fo b j (by omega) (by omega) (by omega) (by omega)⟩
        have e51 : ∀ j : Int, h' 51 j = g 51 j := fun j => (q4 j).trans (ff 51 j (by omega))
        refine ⟨q1, q2, fK.tr q3, ?_, by rw [e51]; exact f51, by rw [q5, ff 33 12 (by omega)]; exact f12, by rw [q6, ff 33 16 (by omega)]; exact f16⟩
        unfold tdI at td ⊢
        rw [e51, e51, e51, e51, f 51 2 (by omega) (by omega) (by omega), f 51 3 (by omega) (by omega) (by omega), f 51 4 (by omega) (by omega) (by omega), f 51 5 (by omega) (by omega) (by omega)]
        exact td
      rcases hy with ⟨q1, q2⟩ | ⟨q1, q2⟩
      · exact b_X1_begin_88 (fun _ => by rw [q2] at go2; exact go2) (fun c => absurd q1 c)
      · exact b_X1_begin_88 (fun c => absurd c q1) (fun _ => by rw [q2] at go2; exact go2)
    rcases hx with ⟨q1, q2⟩ | ⟨q1, q2⟩
    · exact b_X1_begin_69 (fun _ => by rw [q2] at go; exact go) (fun c => absurd q1 c)
    · exact b_X1_begin_69 (fun c => absurd c q1) (fun _ => by rw [q2] at go; exact go)
  -- the marks
  have fin : ∀ v : Int, v = z_b two → z_Y D M_X1_begin d 50 [(0, 2, 33), (1, 2, a), (2, 2, b), (3, 2, x), (4, 2, y)] [(0, v), (2, 33)] G'' (z_wr (z_wr (z_wr (z_wr h2 33 14 0) 33 12 0) 33 15 0) 33 16 0) (bgQ two W V (T, U) G'' h) := by
    intro v ev hlv
    have zb := z_b01 two
    have f2 : ∀ b j : Int, ¬ b = 49 → ¬ (b = 51 ∧ (j = 0 ∨ j = 1)) → h2 b j = h b j := fun b j p q => by
      rw [e2]
      have : z_wr (z_wr h1 51 0 0) 51 1 0 b j = h1 b j := by unfold z_wr; rw [if_neg (by omega), if_neg (by omega)]
      rw [this, e1]
      unfold zfi
      rw [if_neg (by omega)]
    have f49 : ∀ j : Int, 0 ≤ j → j < 4096 → h2 49 j = 0 := fun j j0 j1 => by
      rw [e2, w_na (by omega), w_na (by omega), e1]
      unfold zfi
      rw [if_pos ⟨rfl, j0, j1⟩]
    refine b_X1_begin_50 (by omega) (main _ ?_ (fun b j p q r => ?_) (fun j p q r t u => ?_) (fun j j0 j1 => ?_) ?_ ?_ ?_ ?_ ?_ ?_) hlv
    · exact hlv.wr (hlv.i 33 (by decide) rfl) (by decide)
    · rw [w_na p, w_na p, w_na p, w_na p, w_na p]; exact f2 b j q r
    · rw [w_nj p, w_nj u, w_nj t, w_nj q, w_nj r]; exact f2 33 j (by omega) (by omega)
    · rw [w_na (by omega), w_na (by omega), w_na (by omega), w_na (by omega), w_na (by omega)]; exact f49 j j0 j1
    · rw [w_na (by omega), w_na (by omega), w_na (by omega), w_na (by omega), w_na (by omega), e2, w_nj (by omega), w_s]
    · rw [w_s, ev]
    · rw [w_nj (by omega), w_nj (by omega), w_nj (by omega), w_s]
    · rw [w_nj (by omega), w_nj (by omega), w_nj (by omega), w_nj (by omega), w_s]
    · rw [w_nj (by omega), w_nj (by omega), w_s]
    · rw [w_nj (by omega), w_s]
  rcases tw with ⟨tw, -, -, q3, q4⟩ | ⟨tw, q1, q2, -, -⟩
  · exact b_X1_begin_15 (fun c => absurd c q3) (fun _ c => absurd c q4) (fun _ _ => fin 1 (z_b1 tw).symm)
  · exact b_X1_begin_15 (fun _ => b_X1_begin_49 (fin 0 (z_b0 tw).symm)) (fun c => absurd q1 c) (fun c => absurd q1 c)
end Begin
