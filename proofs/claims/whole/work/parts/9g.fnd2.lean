/-! the model's find, from its first State on -/
section Fnd2
variable {D : zD} {d : Nat} {G : zG} {h h0 h1 : zH} {two : Prop} {W V B : zTb} {wi vi : Int}
theorem msI_g {s : bS} (m : msI two W V B wi vi h s) (f : ∀ a j : Int, (101 ≤ a ∧ a ≤ 104) ∨ a = 107 ∨ (a = 88 ∧ ((29 ≤ j ∧ j ≤ 30) ∨ (32 ≤ j ∧ j ≤ 34))) ∨ ((a = 89 ∨ a = 90) ∧ j < 8) ∨ (a = 91 ∧ j < 576) → h1 a j = h a j) : msI two W V B wi vi h1 s := by
  obtain ⟨a1, a2, ⟨a3, a4, a5⟩, a6, a7, a8, a9⟩ := m
  have kp : ∀ {k : Int} {T : zTb}, k < 8 → isM h k T → isM h1 k T := fun k8 q => ⟨by rw [f 89 _ (by omega)]; exact q.1, by rw [f 90 _ (by omega)]; exact q.2.1, fun r c x1 x2 x3 x4 => by rw [f 91 _ (by omega)]; exact q.2.2 r c x1 x2 x3 x4⟩
  refine ⟨mST_k a1 (fun b j p => f b j (by omega)), by rw [f 88 32 (by omega)]; exact a2, ⟨a3, by rw [f 88 33 (by omega)]; exact a4, kp a3.2 a5⟩, fun z => ?_, by rw [f 88 30 (by omega)]; exact a7, fun i i0 i1 => by rw [f 107 i (by omega)]; exact a8 i i0 i1, a9⟩
  obtain ⟨b1, b2, b3⟩ := a6 z
  exact ⟨b1, by rw [f 88 34 (by omega)]; exact b2, kp b1.2 b3⟩
theorem mno_E {s : bS} (ms : msI two W V B wi vi h s) : h 88 30 = 0 ↔ ¬ ∃ i : Int, 0 ≤ i ∧ i < s.1 ∧ eW W V (s.2 i) := by
  have e := ms.2.2.2.2.1
  have z := zct_0 (fun i => eW W V (s.2 i)) s.1.toNat
  rw [e, z]
  constructor
  · rintro q ⟨i, i0, i1, i2⟩
    exact q i i0 (by omega) i2
  · intro q i i0 i1 i2
    exact q ⟨i, i0, by omega, i2⟩
theorem l_mfound (hd : 15 ≤ d) {lvl : Int → Int} {l : Int} {s : bS} {R : Int × bS × (Int → Int)} {m : Nat} (ml : mlI two W V B wi vi lvl l s h) (l3 : l ≤ 3) (L1 : 0 < lvl 1) (ex : ∃ i : Int, 0 ≤ i ∧ i < s.1 ∧ eW W V (s.2 i)) (E0 : l = 0 → eW W V (s.2 0)) (bq : bqI two (eW W V) R m lvl l s) (f : frB mFd h0 h) (e41 : h 88 41 = 0) : z_Y D M_X13_find d 292 [(0, 2, 88), (6, 0, l)] [] G h (feQ two W V R G h0) := by
  obtain ⟨ms, lr, ⟨o, lN⟩, ek, tg⟩ := ml
  have o1 := o.1
  have e30 := ms.2.2.2.2.1
  have rg := zct_rg (fun i => eW W V (s.2 i)) s.1.toNat
  have s15 := ms.1.1
  have nz : ¬ h 88 30 = 0 := fun q => (mno_E ms).1 q ex
  have hb : bF two (eW W V) m l (lvl l) s = (l, s, fun k => if k = l then lvl l else s.1) := by
    cases m with
    | zero => rw [bF, zif1 ex]
    | succ m => rw [bF, zif1 ex]
  obtain ⟨b1, b2, b3, b4⟩ := bq
  rw [hb] at b1 b2 b4
  have R1 : R.1 = l := b1
  have R2 : R.2.1 = s := b2
  have R3 : ∀ k : Int, 0 ≤ k → k ≤ l → R.2.2 k = lvl k := fun k k0 k1 => by
    by_cases z : k < l
    · exact b3 k k0 z
    · rw [b4 k (by omega)]
      show (if k = l then lvl l else s.1) = _
      rw [if_pos (by omega), show k = l by omega]
  have pe : pth (eD two R.2.1 R.2.2 R.1) (eE (eW W V) R.2.1) R.1.toNat 0 = pP two W V lvl l s l.toNat 0 := by
    unfold pP
    rw [R1, R2]
    refine pth_c l.toNat 0 fun r hr t => ?_
    unfold eD
    rw [R3 (l - r) (by omega) (by omega)]
  refine b_X13_find_292 (by rw [e30]; exact ⟨by omega, by omega⟩) (fun _ => ?_) (fun c => absurd nz c)
  refine z_Kv.of (d2 := d - 1) (by omega) (m_countWays (by omega) ms lr o lN tg l3 L1) ?_
  rintro out G' h1 hl1 ⟨r1, rfl, f1, v1, ld⟩
  have ms1 : msI two W V B wi vi h1 s := msI_g ms fun a j q => f1 a j (by unfold mC mW; omega)
  have e411 : h1 88 41 = 0 := by rw [f1 88 41 (by unfold mC mW; omega)]; exact e41
  refine ⟨r1, b_X13_find_307 (z_Kv.of (d2 := d - 1) (by omega) (m_tells o lN tg l3 l.toNat (d - 1) (by omega) 0 0 h1 [] [] (Int.le_refl _) (by omega) (by rw [o.2.1]; exact Int.le_refl _) L1 (fun z => ?_) ⟨by decide, by rw [e411]; rfl, fun q => absurd rfl q, fun i p hp => by cases hp⟩ (fun k c hk => by cases hk) rfl ⟨ms1, fun k k0 k1 => by rw [f1 106 k (by unfold mC mW; omega)]; exact lr k k0 k1, ld⟩) ?_)⟩
  · unfold pP
    rw [z]
    show ¬ (if eE (eW W V) s 0 = true then [[]] else []) = []
    rw [if_pos (show eE (eW W V) s 0 = true from zB1.2 (E0 (by omega)))]
    intro q; cases q
  · rintro out G' h2 hl2 ⟨r2, rfl, f2, td, -⟩
    refine ⟨r2, b_X13_find_315 ⟨by rw [R1], rfl, ?_, ?_⟩⟩
    · exact f.tr ((f1.imp fun a j q => by unfold mC at q; unfold mFd; rcases q with (q | q) | q <;> first | exact Or.inl q | (right; omega)).tr (f2.imp fun a j q => mTl_F q))
    · unfold fnM fRR
      dsimp only
      rw [pe, R1, R2, if_pos o1, if_pos o1]
      have q : ([] ++ (pP two W V lvl l s l.toNat 0).map fun p => [] ++ p) = pP two W V lvl l s l.toNat 0 := by
        rw [List.nil_append]
        exact List.map_id _
      rw [q] at td
      refine ⟨?_, ?_, ?_, td⟩
      · rw [f2 88 29 (by unfold mTl mW; omega), f1 88 29 (by unfold mC mW; omega)]; exact s15.1
      · rw [f2 88 30 (by unfold mTl mW; omega), f1 88 30 (by unfold mC mW; omega)]; exact e30
      · rw [f2 88 31 (by unfold mTl mW; omega), v1]; rfl
end Fnd2
