section Tread3
variable {D : zD} {d : Nat} {G : zG} {h h0 h1 : zH} {Q : zO → zG → zH → Prop}
theorem zb8_rg (x : Int) : 0 ≤ zb8 x ∧ zb8 x ≤ 255 := by
  unfold zb8
  rw [z_iand255]
  omega
def cPr (a _ : Int) : Prop := a = 4 ∨ a = 5 ∨ a = 6
theorem cP_r {a j : Int} (q : cP a j) : cPr a j := by unfold cP at q; unfold cPr; omega
theorem cR_w {s : tS} {j v : Int} (k : cR s h) (hj : j = 1 ∨ j = 2) : cR s (z_wr h 4 j v) := by
  obtain ⟨⟨k1, k2, k3⟩, ⟨k4, k5, k6⟩, k7⟩ := k
  exact ⟨⟨by rw [w_nj (by omega)]; exact k1, by rw [w_nj (by omega)]; exact k2, by rw [w_nj (by omega)]; exact k3⟩, ⟨by rw [w_nj (by omega)]; exact k4, by rw [w_nj (by omega)]; exact k5, by rw [w_nj (by omega)]; exact k6⟩, fun r c w => by rw [w_na (by omega)]; exact k7 r c w⟩
def rdQ (G : zG) (h : zH) (r : Int × Int × tS) : zO → zG → zH → Prop := fun out G' h' => out = .inl none ∧ G' = G ∧ frB cPr h h' ∧ h' 4 1 = r.1 ∧ h' 4 2 = r.2.1 ∧ (r.1 = 0 → isC h' 5 (tTab r.2.2))
theorem l_read32 (hd : 5 ≤ d) {N : Int} (N1 : N ≤ 1000) : ∀ (m : Nat) (k : Int) (s : tS) (h : zH), N = k + m → 0 ≤ k → tInv s → cR s h → frB cPr h0 h →
    z_Y D M_X5_read d 32 [(0, 2, 4), (1, 2, 3), (2, 0, N), (3, 0, k)] [] G h (rdQ G h0 (tRun (fun k => zb8 (h0 3 k)) m k s)) := by
  intro m
  induction m with
  | zero =>
    intro k s h e k0 i cr f hl
    obtain ⟨⟨k1, k2, k3⟩, k46, k7⟩ := id cr
    have i1 := i.1
    have in5 : z_in (h 4 5) := by
      rw [k3]
      split
      · exact ⟨by omega, by omega⟩
      · have := i1.2.2.2.2 (by omega); exact ⟨by omega, by omega⟩
    have sho : (1 < h 4 3 ∧ h 4 4 < h 4 5) ↔ (0 < s.1 ∧ s.2.1 + 1 < s.2.2.1) := by
      rw [k1, k2, k3]
      by_cases z : s.1 = 0
      · rw [if_pos z]; omega
      · rw [if_neg z]; omega
    refine b_X5_read_32 ⟨by omega, by omega⟩ ⟨by omega, by omega⟩ (fun c => by omega) (fun c => by omega) (fun c => by omega) (fun c => by omega) (fun _ => ?_) (fun c => by omega) (fun c => by omega) hl
    refine b_X5_read_77 (by omega) (by rw [k1]; exact ⟨by omega, by omega⟩) (by rw [k2]; exact ⟨by omega, by omega⟩) in5 (fun c => ?_) (fun c => ?_)
    · have er : tRun (fun k => zb8 (h0 3 k)) 0 k s = (3, k, s) := by unfold tRun; rw [if_pos (sho.1 c)]
      rw [er, show N = k by omega]
      refine b_X5_read_90 ⟨by omega, by omega⟩ (fun _ => b_X5_read_106 (by rw [w_s]; exact ⟨by omega, by omega⟩) (fun _ => ⟨rfl, rfl, (f.w (Or.inl rfl)).w (Or.inl rfl), by rw [w_nj (by omega), w_s], by rw [w_s], fun w => absurd (show (3 : Int) = 0 from w) (by decide)⟩) (fun c => absurd (by rw [w_s]; decide) c)) (fun c => absurd (by decide : ¬ (3 : Int) = 0) c)
    · have nc : ¬ (0 < s.1 ∧ s.2.1 + 1 < s.2.2.1) := fun w => c (sho.2 w)
      have er : tRun (fun k => zb8 (h0 3 k)) 0 k s = (0, -1, s) := by unfold tRun; rw [if_neg nc]
      rw [er]
      refine b_X5_read_90 ⟨by omega, by omega⟩ (fun c => absurd rfl c) (fun _ => b_X5_read_106 (by rw [w_s]; exact ⟨by omega, by omega⟩) (fun c => absurd (by rw [w_s]) c) (fun _ => ?_))
      refine z_Kv.of (d2 := d - 1) (by omega) (c_endCell i (cR_w (cR_w cr (Or.inl rfl)) (Or.inr rfl))) ?_
      rintro out G' h2 hl2 ⟨r1, rfl, f2, ce⟩
      obtain ⟨⟨q1, q2, q3⟩, q46, q7⟩ := ce
      refine ⟨r1, b_X5_read_120 (by omega) (by rw [q1]; exact ⟨by omega, by omega⟩) (by rw [q2]; exact ⟨by omega, by omega⟩) (fun _ => ⟨rfl, rfl, (((f.w (Or.inl rfl)).w (Or.inl rfl)).tr (f2.imp fun a j w => cP_r w) |>.w (Or.inr (Or.inl rfl))).w (Or.inr (Or.inl rfl)), ?_, ?_, fun _ => ?_⟩) (fun c => absurd ⟨by omega, by omega⟩ c)⟩
      · rw [w_na (by omega), w_na (by omega), f2 4 1 (by unfold cP; omega), w_nj (by omega), w_s]
      · rw [w_na (by omega), w_na (by omega), f2 4 2 (by unfold cP; omega), w_s]
      · have eC : (tTab s).2.1 = s.2.1 + 1 := by
          show (if s.1 = 0 then s.2.1 + 1 else s.2.2.1) = _
          split
          · rfl
          · have := i1.2.2.2.2 (by omega); omega
        refine ⟨by rw [w_nj (by omega), w_s]; exact q1, by rw [w_s, eC]; exact q2, fun r c b1 b2 b3 b4 => ?_⟩
        rw [w_na (by omega), w_na (by omega)]
        have b2 : r < s.1 + 1 := b2
        rw [eC] at b4
        have e2 : tIx s r c = r * (tTab s).2.1 + c := by
          rw [eC]
          unfold tIx
          by_cases z : s.1 = 0
          · rw [if_pos z, show r = 0 by omega]; omega
          · have := i1.2.2.2.2 (by omega)
            rw [if_neg z, show s.2.2.1 = s.2.1 + 1 by omega]
        rw [← e2]
        refine q7 r c ?_
        by_cases z : r = s.1 ∧ c = s.2.1
        · exact Or.inr z
        · refine Or.inl ?_
          unfold tDo
          by_cases z2 : r = s.1
          · exact Or.inr ⟨z2, b3, by omega⟩
          · have := i1.2.2.2.2 (by omega)
            exact Or.inl ⟨b1, by omega, b3, by omega⟩
  | succ m ih =>
    intro k s h e k0 i cr f hl
    have l3 := hl.n 3 (by decide) rfl
    refine b_X5_read_32 ⟨by omega, by omega⟩ ⟨by omega, by omega⟩ (fun _ => hl.i 3 (by decide) rfl) (fun _ => by rw [l3]; exact ⟨by omega, by omega⟩) (fun _ _ => k0) (fun _ c => by rw [l3]; omega) (fun c => by omega) (fun _ c => by rw [l3] at c; omega) (fun _ _ => ?_) hl
    have eb : z_iand (w8 (h 3 k)) 255 = zb8 (h0 3 k) := by rw [f 3 k (by unfold cPr; omega)]; rfl
    rw [eb]
    have rg := zb8_rg (h0 3 k)
    refine z_Ki.of (d2 := d - 1) (by omega) (c_takeByte (by omega) i cr rg.1 rg.2) ?_
    rintro out G' h2 hl2 ⟨r1, rfl, f2, c2⟩
    have kr : tKind (zb8 (h0 3 k)) s = 0 ∨ tKind (zb8 (h0 3 k)) s = 1 ∨ tKind (zb8 (h0 3 k)) s = 2 ∨ tKind (zb8 (h0 3 k)) s = 3 ∨ tKind (zb8 (h0 3 k)) s = 4 := tKind_rg
    refine ⟨_, r1, b_X5_read_55 ⟨by omega, by omega⟩ (fun c => ?_) (fun c => ?_)⟩
    · have er : tRun (fun k => zb8 (h0 3 k)) (m + 1) k s = tRun (fun k => zb8 (h0 3 k)) m (k + 1) (tNext (zb8 (h0 3 k)) s) := by conv => lhs; unfold tRun; rw [if_pos c]
      rw [er]
      exact ih (k + 1) _ _ (by omega) (by omega) (tNext_inv i rg.1 rg.2 c) (cR_w (c2 c) (Or.inl rfl)) ((f.tr (f2.imp fun a j w => cP_r w)).w (Or.inl rfl))
    · have er : tRun (fun k => zb8 (h0 3 k)) (m + 1) k s = (tKind (zb8 (h0 3 k)) s, k, s) := by unfold tRun; rw [if_neg c]
      rw [er]
      exact ⟨rfl, rfl, ((f.tr (f2.imp fun a j w => cP_r w)).w (Or.inl rfl)).w (Or.inl rfl), by rw [w_nj (by omega), w_s], by rw [w_s], fun w => absurd w c⟩
theorem c_read (hd : 5 ≤ d) {N : Int} (N0 : 0 ≤ N) (N1 : N ≤ 1000) : z_CY D M_X5_read d [(2, 4), (2, 3), (0, N)] G h (rdQ G h (tRun (fun k => zb8 (h 3 k)) N.toNat 0 t0)) := by
  refine z_begin mo_X5_read rfl (nle rfl) (b_X5_read_0 (l_read32 hd N1 N.toNat 0 t0 _ (by omega) (by omega) t0_inv ?_ ((((((frB.rf.w (Or.inl rfl)).w (Or.inl rfl)).w (Or.inl rfl)).w (Or.inl rfl)).w (Or.inl rfl)).w (Or.inl rfl))))
  refine ⟨⟨?_, ?_, ?_⟩, ⟨?_, ?_, ?_⟩, fun r c w => ?_⟩
  · rw [w_nj (by omega), w_nj (by omega), w_nj (by omega), w_nj (by omega), w_nj (by omega), w_s]; rfl
  · rw [w_nj (by omega), w_nj (by omega), w_nj (by omega), w_nj (by omega), w_s]; rfl
  · rw [w_nj (by omega), w_nj (by omega), w_nj (by omega), w_s]; rfl
  · rw [w_nj (by omega), w_nj (by omega), w_s]; rfl
  · rw [w_nj (by omega), w_s]; rfl
  · rw [w_s]; rfl
  · unfold tDo at w
    have e1 : t0.1 = 0 := rfl
    have e2 : t0.2.1 = 0 := rfl
    omega
/-! the model's readTable -/
def mRd (a j : Int) : Prop := mW a j ∨ (a = 88 ∧ (j = 20 ∨ j = 21))
def mtQ (G : zG) (h : zH) (r : Int × Int × tS) : zO → zG → zH → Prop := fun out G' h' => G' = G ∧ frB mRd h h' ∧ ((r.1 = 0 ∧ out = .inl none ∧ isM h' 10 (tTab r.2.2) ∧ h' 88 20 = h 88 20 ∧ h' 88 21 = h 88 21) ∨ (¬ r.1 = 0 ∧ out = .inr 99 ∧ h' 88 20 = r.1 ∧ h' 88 21 = r.2.1))
def mR (s : tS) (h : zH) : Prop := ∀ r c : Int, 0 ≤ r → r < 12 → 0 ≤ c → c < 6 → h 91 (72 * 10 + 6 * r + c) = s.2.2.2.2.2 r c
/-- what stays while the model reads: only the table in hand has changed -/
def mRe (h0 h : zH) : Prop := frB mW h0 h
theorem rt_wrong {pc q : Nat} {kd k : Int} {s : tS} (hd : 1 ≤ d) (f : frB mW h0 h) (hk : ¬ kd = 0)
    (K : ∀ {G : zG} {h : zH}, (mtQ G h0 (kd, k, s)) (.inr 99) G h → z_Y D M_X13_readTable d q [] [(2, 99)] G h (mtQ G h0 (kd, k, s))) : z_Ka D M_X13_wrong d [(2, 88), (0, kd), (0, k)] G h (fun r G' h' => z_Y D M_X13_readTable d q [] [(2, r)] G' h' (mtQ G h0 (kd, k, s))) := by
  refine z_Ka.of (d2 := d - 1) (Q2 := fun out G' h' => out = .inl (some (2, 99)) ∧ G' = G ∧ h' = z_wr (z_wr h 88 20 kd) 88 21 k) (by omega) (z_begin mo_X13_wrong rfl (nle rfl) (b_X13_wrong_0 ⟨rfl, rfl, rfl⟩)) ?_
  rintro out G' h' hl' ⟨r1, rfl, rfl⟩
  refine ⟨99, r1, K ⟨rfl, ((f.imp fun a j w => Or.inl w).w (Or.inr ⟨rfl, Or.inl rfl⟩)).w (Or.inr ⟨rfl, Or.inr rfl⟩), Or.inr ⟨hk, rfl, ?_, ?_⟩⟩⟩
  · rw [w_nj (by omega), w_s]
  · rw [w_s]
end Tread3
