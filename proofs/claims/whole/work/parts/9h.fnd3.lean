section Fnd3
variable {D : zD} {d : Nat} {G : zG} {h h0 h1 : zH} {two : Prop} {W V B : zTb} {wi vi : Int}
theorem l_fnd218 (hd : 15 ≤ d) {R : Int × bS × (Int → Int)} (oW : okT W) (oV : okT V) {most : Int} (m3 : most ≤ 3) : ∀ (m : Nat) (l : Int) (lvl : Int → Int) (s : bS) (h : zH), most = l + m → 0 < lvl 1 → mlI two W V B wi vi lvl l s h → (l = 0 → s.1 = 1) → bqI two (eW W V) R m lvl l s → frB mFd h0 h → h 88 31 = 0 → h 88 41 = 0 → z_Y D M_X13_find d 218 [(0, 2, 88), (5, 0, most), (6, 0, l)] [] G h (feQ two W V R G h0) := by
  have none' : ∀ {s : bS} {h : zH}, R.1 < 0 → R.2.1 = s → msI two W V B wi vi h s → frB mFd h0 h → h 88 31 = 0 → h 88 41 = 0 → feQ two W V R G h0 (.inl (some (0, R.1))) G h := by
    intro s h r1 r2 ms f e31 e41
    refine ⟨rfl, rfl, f, ?_⟩
    unfold fnM fRR
    dsimp only
    rw [if_neg (by omega), if_neg (by omega), r2]
    exact ⟨ms.1.1.1, ms.2.2.2.2.1, e31, by decide, by rw [e41]; rfl, fun q => absurd rfl q, fun i p hp => by cases hp⟩
  intro m
  induction m with
  | zero =>
    intro l lvl s h e L1 ml s1 bq f e31 e41
    have o1 := ml.2.2.1.1.1
    have ms := ml.1
    have e30 := ms.2.2.2.2.1
    have rg := zct_rg (fun i => eW W V (s.2 i)) s.1.toNat
    have s15 := ms.1.1
    have z30 : z_in (h 88 30) := by rw [e30]; exact ⟨by omega, by omega⟩
    refine b_X13_find_218 z30 (fun _ => ⟨by omega, by omega⟩) (fun _ => ⟨by omega, by omega⟩) (fun _ c => by omega) (fun _ c => by omega) (fun c => ?_) (fun c _ => ?_) (fun _ c => by omega)
    · have ex : ∃ i : Int, 0 ≤ i ∧ i < s.1 ∧ eW W V (s.2 i) := Classical.byContradiction fun q => c ((mno_E ms).2 q)
      exact l_mfound hd ml (by omega) L1 ex (fun z => by obtain ⟨i, i0, i1, i2⟩ := ex; have := s1 z; rw [show i = 0 by omega] at i2; exact i2) bq f e41
    · have c : h 88 30 = 0 := Classical.byContradiction fun q => c q
      refine b_X13_find_292 z30 (fun q => absurd c q) (fun _ => ?_)
      obtain ⟨b1, b2, -, -⟩ := bq
      rw [bF, zif0 ((mno_E ms).1 c)] at b1
      have b2 : R.2.1 = s := b2
      have b1 : R.1 = -1 := b1
      have q := none' (by omega) b2 ms f e31 e41
      rw [b1] at q
      exact q
  | succ m ih =>
    intro l lvl s h e L1 ml s1 bq f e31 e41
    obtain ⟨ms, lr, ⟨o, lN⟩, ek, tg⟩ := id ml
    have o1 := o.1
    have e30 := ms.2.2.2.2.1
    have rg := zct_rg (fun i => eW W V (s.2 i)) s.1.toNat
    have s15 := ms.1.1
    have z30 : z_in (h 88 30) := by rw [e30]; exact ⟨by omega, by omega⟩
    have m0 := o.mo (Int.le_refl 0) o.1 (by omega)
    rw [o.2.1] at m0
    have lm := o.2.2 l o.1 (Int.le_refl _)
    refine b_X13_find_218 z30 (fun _ => ⟨by omega, by omega⟩) (fun _ => ⟨by omega, by omega⟩) (fun _ _ => by omega) (fun _ _ => by omega) (fun c => ?_) (fun _ c => by omega) (fun c _ => ?_)
    · have ex : ∃ i : Int, 0 ≤ i ∧ i < s.1 ∧ eW W V (s.2 i) := Classical.byContradiction fun q => c ((mno_E ms).2 q)
      exact l_mfound hd ml (by omega) L1 ex (fun z => by obtain ⟨i, i0, i1, i2⟩ := ex; have := s1 z; rw [show i = 0 by omega] at i2; exact i2) bq f e41
    · have c : h 88 30 = 0 := Classical.byContradiction fun q => c q
      have nE := (mno_E ms).1 c
      obtain ⟨b1, b2, b3, b4⟩ := bq
      rw [bF, zif0 nE] at b1 b2 b4
      rw [lr l o1 (by omega)]
      refine l_fnd241 (h0 := h) (RL := bL two (s.1 - lvl l).toNat (lvl l) s) (by omega) oW oV o lN (by omega) (fun h' r0 ms' f' => ?_) (fun s' h' eR ms' x ek' f' => ?_) lr (lvl (l + 1) - lvl l).toNat (lvl l) s h (by omega) m0 ms exS.rf (by rw [lN]) ek frB.rf
      · rw [if_pos r0] at b1 b2
        have b1 : R.1 = -3 := b1
        have q := none' (by omega) b2 ms' (f.tr (f'.imp fun _ _ q => mX_F q)) (by rw [f' 88 31 (by unfold mX mW mK; omega)]; exact e31) (by rw [f' 88 41 (by unfold mX mW mK; omega)]; exact e41)
        rw [b1] at q
        exact q
      · rw [eR] at b1 b2 b4
        have n10 : ¬ ((1, s') : Int × bS).1 = 0 := fun q => by cases q
        rw [if_neg n10] at b1 b2 b4
        have lo : ∀ k : Int, k ≤ l + 1 → lvN lvl l s'.1 k = lvl k := fun k hk => lvN_o (by omega)
        have bq' : bqI two (eW W V) R m (lvN lvl l s'.1) (l + 1) s' := by
          unfold bqI
          rw [lo (l + 1) (Int.le_refl _), lN]
          refine ⟨b1, b2, fun k k0 hk => ?_, fun k hk => ?_⟩
          · rw [lo k (by omega)]
            by_cases z : k < l
            · exact b3 k k0 z
            · rw [b4 k (by omega)]
              show (if k = l then lvl l else _) = _
              rw [if_pos (by omega), show k = l by omega]
          · rw [b4 k (by omega)]
            show (if k = l then _ else _) = _
            rw [if_neg (by omega)]
        obtain ⟨t1, t2, t3⟩ := tgB_next (two := two) o lN x ek tg
        have e29 := ms'.1.1.1
        have fw : frB mFd h0 (z_wr h' 106 (l + 1 + 1) (h' 88 29)) := (f.tr (f'.imp fun _ _ q => mX_F q)).w (Or.inr (Or.inl (by omega)))
        refine ih (l + 1) (lvN lvl l s'.1) s' _ (by omega) (by rw [lo 1 (by omega)]; exact L1) ⟨msI_g ms' (fun a j q => w_na (by omega)), fun k k0 k1 => ?_, ⟨t1, t2⟩, fun j j0 j1 => ek' j j0 (by rw [lo (l + 1) (Int.le_refl _)] at j1; exact j1), t3⟩ (fun z => by omega) bq' fw (by rw [w_na (by omega), f' 88 31 (by unfold mX mW mK; omega)]; exact e31) (by rw [w_na (by omega), f' 88 41 (by unfold mX mW mK; omega)]; exact e41)
        by_cases z : k = l + 2
        · subst z
          rw [show l + 1 + 1 = l + 2 by omega, w_s, lvN_n]; exact e29
        · rw [w_nj (by omega), lo k (by omega), f' 106 k (by unfold mX mW mK; omega)]; exact lr k k0 (by omega)
end Fnd3
