/-! the model's find -/
section Fnd4
variable {D : zD} {d : Nat} {G : zG} {h h0 h1 : zH} {two : Prop} {W V B : zTb} {wi vi : Int}
theorem m_more2 (hd : 4 ≤ d) {s : bS} {S : zSt} (ms : msI two W V B wi vi h s) (oW : okT W) (oV : okT V) (m : mPr two h S) (oS : okP S) (ix : idx s S = -1) (s15 : s.1 < 1500) (sb : ¬ two → S.2 = B) {K : zG → zH → Prop} (hK : ∀ h', lay G h' → frB mX h h' → msI two W V B wi vi h' (adS s S) → K G h') :
    z_Kv D M_X13_keepState d [(2, 88)] G h (fun G' h' => z_Kv D M_X13_noteEnd d [(2, 88), (0, s.1)] G' h' K) := by
  obtain ⟨a1, a2, ⟨a3, a4, a5⟩, a6, a7, a8, a9⟩ := id ms
  have s0 := a1.1
  refine z_Kv.of (d2 := d - 1) (by omega) (m_keepS (by omega) a1 m oS ix s15) ?_
  rintro out G' h1 hl1 ⟨r1, rfl, f1, ms1⟩
  refine ⟨r1, ?_⟩
  have e29 : h1 88 29 = s.1 + 1 := ms1.1.1
  have kp : ∀ {k : Int} {T : zTb}, isM h k T → isM h1 k T := fun m => isM_B m f1 (by unfold mK; omega) (by unfold mK; omega) (fun j _ _ => by unfold mK; omega)
  have v1 : two → (0 ≤ vi ∧ vi < 8) ∧ h1 88 34 = vi ∧ isM h1 vi V := fun t => by
    obtain ⟨b1, b2, b3⟩ := a6 t
    exact ⟨b1, by rw [f1 88 34 (by unfold mK; omega)]; exact b2, kp b3⟩
  refine z_Kv.of (d2 := d - 1) (by omega) (m_noteEnd (W := W) (V := V) (wi := wi) (vi := vi) (by omega) (by omega) s15 ⟨kp m.1, fun t => kp (m.2.1 t), by rw [f1 88 32 (by unfold mK; omega)]; exact m.2.2⟩ oS ⟨a3, by rw [f1 88 33 (by unfold mK; omega)]; exact a4, kp a5⟩ v1 oW oV (fun z => by rw [sb z, (a9 z).1]; exact tlk.rf)) ?_
  rintro out G' h2 hl2 ⟨r2, rfl, e2⟩
  refine ⟨r2, hK h2 hl2 (fun b j p => ?_) ?_⟩
  · rw [e2]
    have : z_wr (z_wr h1 107 s.1 (z_b (eW W V S))) 88 30 (h1 88 30 + z_b (eW W V S)) b j = h1 b j := by
      unfold z_wr
      rw [if_neg (fun q => p (Or.inr (Or.inr (Or.inr q)))), if_neg (fun q => p (Or.inr (Or.inr (Or.inl q.1))))]
    rw [this]
    exact f1 b j fun q => p (mK_X q)
  · have o : ∀ b j : Int, ¬ b = 107 → ¬ (b = 88 ∧ j = 30) → h2 b j = h1 b j := fun b j p q => by
      rw [e2]; unfold z_wr; rw [if_neg q, if_neg (fun w => p w.1)]
    have kp2 : ∀ {k : Int} {T : zTb}, isM h k T → isM h2 k T := fun m => by
      have q := kp m
      exact ⟨by rw [o 89 _ (by omega) (by omega)]; exact q.1, by rw [o 90 _ (by omega) (by omega)]; exact q.2.1, fun r c x1 x2 x3 x4 => by rw [o 91 _ (by omega) (by omega)]; exact q.2.2 r c x1 x2 x3 x4⟩
    refine ⟨mST_k ms1 (fun b j p => o b j (by omega) (by omega)), by rw [o 88 32 (by omega) (by omega), f1 88 32 (by unfold mK; omega)]; exact a2, ⟨a3, by rw [o 88 33 (by omega) (by omega), f1 88 33 (by unfold mK; omega)]; exact a4, kp2 a5⟩, fun t => ?_, ?_, fun i i0 i1 => ?_, fun z => ⟨(a9 z).1, fun i i0 i1 => ?_⟩⟩
    · obtain ⟨b1, b2, b3⟩ := a6 t
      exact ⟨b1, by rw [o 88 34 (by omega) (by omega), f1 88 34 (by unfold mK; omega)]; exact b2, kp2 b3⟩
    · show h2 88 30 = zct (fun i => eW W V ((adS s S).2 i)) (s.1 + 1).toNat
      rw [e2, w_s, f1 88 30 (by unfold mK; omega), a7, zct_s (by omega), adS_n]
      congr 1
      exact zct_congr _ fun i i0 i1 => by rw [adS_o (by omega)]
    · have i1 : i < s.1 + 1 := i1
      by_cases z : i = s.1
      · subst z; rw [adS_n, e2, w_na (by omega), w_s]
      · rw [adS_o z, e2, w_na (by omega), w_nj z, f1 107 i (by unfold mK; omega)]; exact a8 i i0 (by omega)
    · have i1 : i < s.1 + 1 := i1
      by_cases y : i = s.1
      · subst y; rw [adS_n]; exact sb z
      · rw [adS_o y]; exact (a9 z).2 i i0 (by omega)
theorem l_fnd128 {Q : zO → zG → zH → Prop} {t u most : Int} (K : ∀ g : zH, (∀ b j : Int, ¬ b = 104 → g b j = h0 b j) → (∀ v : Int, 0 ≤ v → v < 4096 → g 104 v = -1) → z_Kv D M_X13_become d [(2, 88), (0, 8), (0, t)] G g (fun G' h' => z_Y D M_X13_find d 159 [(0, 2, 88), (3, 0, u), (5, 0, most)] [] G' h' Q)) : ∀ (m : Nat) (x : Int) (g : zH), 4096 = x + m → 0 ≤ x → (∀ b j : Int, ¬ b = 104 → g b j = h0 b j) → (∀ v : Int, 0 ≤ v → v < x → g 104 v = -1) → z_Y D M_X13_find d 128 [(0, 2, 88), (1, 0, t), (3, 0, u), (5, 0, most), (6, 0, x)] [] G g Q := by
  intro m
  induction m with
  | zero =>
    intro x g e x0 f v
    exact b_X13_find_128 ⟨by omega, by omega⟩ (fun c => by omega) (fun c => by omega) (fun _ => K g f fun i a b => v i a (by omega)) (fun c => by omega)
  | succ m ih =>
    intro x g e x0 f v
    refine b_X13_find_128 ⟨by omega, by omega⟩ (fun _ => by omega) (fun _ => by omega) (fun c => by omega) (fun _ => ih (x + 1) _ (by omega) (by omega) (fun b j q => by rw [w_na q]; exact f b j q) fun i a b => ?_)
    by_cases z : i = x
    · subst z; rw [w_s]
    · rw [w_nj z]; exact v i a (by omega)
/-- the first State, and on -/
theorem l_fnd192 (hd : 15 ≤ d) {P : zSt} {most : Int} (oP : okP P) (oW : okT W) (oV : okT V) (m0 : 0 ≤ most) (m3 : most ≤ 3) (m : mPr two h P) (w : (0 ≤ wi ∧ wi < 8) ∧ h 88 33 = wi ∧ isM h wi W) (v : two → (0 ≤ vi ∧ vi < 8) ∧ h 88 34 = vi ∧ isM h vi V) (nv : ¬ two → V = P.2) (e29 : h 88 29 = 0) (e30 : h 88 30 = 0) (e31 : h 88 31 = 0) (e41 : h 88 41 = 0) (e104 : ∀ v : Int, 0 ≤ v → v < 4096 → h 104 v = -1) :
    z_Y D M_X13_find d 192 [(0, 2, 88), (5, 0, most)] [] G h (feQ two W V (bF two (eW W V) most.toNat 0 0 (1, fun _ => P)) G h) := by
  have ix : idx (0, fun _ => P) P = -1 := by
    rcases idx_rg ((0, fun _ => P) : bS) P with w | w
    · exact w.1
    · have : idx (0, fun _ => P) P < 0 := w.2.1.1
      omega
  have no : ∀ {i : Int} {p : Prop}, 0 ≤ i → i < ((0, fun _ => P) : bS).1 → p := fun a b => by
    have : _ < (0 : Int) := b
    omega
  have ms : msI two W V P.2 wi vi h (0, fun _ => P) := ⟨⟨⟨e29, Int.le_refl _, by show (0 : Int) ≤ 1500; omega⟩, fun i a b => no a b, fun i j a b c => no (i := j) (by omega) c, fun v a b => Or.inl ⟨e104 v a b, fun j c d => no c d⟩, fun i a b => no a b⟩, m.2.2, w, v, e30, fun i a b => no a b, fun z => ⟨nv z, fun i a b => no a b⟩⟩
  refine b_X13_find_192 ?_
  have q := m_more2 (D := D) (d := d) (G := G) (K := fun G' h' => z_Y D M_X13_find d 201 [(0, 2, 88), (5, 0, most)] [] G' h' (feQ two W V (bF two (eW W V) most.toNat 0 0 (1, fun _ => P)) G h)) (by omega) ms oW oV m oP ix (by show (0 : Int) < 1500; omega) (fun _ => rfl) fun h' _ f' ms' => by
    rw [adS_0] at ms'
    refine b_X13_find_201 ?_
    obtain ⟨lvl, l0, l1⟩ : ∃ lvl : Int → Int, lvl 0 = 0 ∧ lvl 1 = 1 := ⟨fun k => if k = 0 then 0 else 1, rfl, rfl⟩
    have bq : bqI two (eW W V) (bF two (eW W V) most.toNat 0 0 (1, fun _ => P)) most.toNat lvl 0 (1, fun _ => P) := by
      unfold bqI
      rw [l0]
      exact ⟨rfl, rfl, fun k k0 hk => by omega, fun _ _ => rfl⟩
    refine l_fnd218 hd oW oV m3 most.toNat 0 lvl (1, fun _ => P) _ (by omega) (by rw [l1]; omega) ⟨msI_g ms' (fun a j q => by rw [w_na (by omega), w_na (by omega)]), fun k k0 k1 => ?_, ⟨⟨Int.le_refl _, l0, fun k k0 k1 => ?_⟩, l1⟩, fun j j0 j1 => by rw [l0] at j1; omega, fun l' a b => by omega⟩ (fun _ => rfl) bq (((f'.imp fun _ _ q => mX_F q).w (Or.inr (Or.inl (by omega)))).w (Or.inr (Or.inl (by omega)))) ?_ ?_
    · have : k = 0 ∨ k = 1 := by omega
      rcases this with rfl | rfl
      · rw [w_nj (by omega), w_s, l0]
      · rw [w_s, l1]
    · have : k = 0 := by omega
      subst this
      rw [show (0 : Int) + 1 = 1 from rfl, l0, l1]; omega
    · rw [w_na (by omega), w_na (by omega), f' 88 31 (by unfold mX mW mK; omega)]; exact e31
    · rw [w_na (by omega), w_na (by omega), f' 88 41 (by unfold mX mW mK; omega)]; exact e41
  obtain ⟨d2, hd2, kk⟩ := q
  exact ⟨d2, hd2, kk.mono fun o G1 h3 hl3 q => by obtain ⟨r, e, z, w⟩ := q; exact ⟨r, e, z, b_X13_find_196 w⟩⟩
end Fnd4
