section Tread4
variable {D : zD} {d : Nat} {G : zG} {h h0 h1 : zH} {Q : zO → zG → zH → Prop}
theorem mR_put {s : tS} {v : Int} (i : tInv s) (k : mR s h) (hv : v = s.2.2.2.1) (r c : Int) (a1 : 0 ≤ r) (a2 : r < 12) (a3 : 0 ≤ c) (a4 : c < 6) : z_wr h 91 (72 * 10 + 6 * s.1 + s.2.1) v 91 (72 * 10 + 6 * r + c) = tPut s r c := by
  have i1 := i.1
  unfold tPut
  by_cases e : r = s.1 ∧ c = s.2.1
  · rw [if_pos e, e.1, e.2, w_s, hv]
  · rw [if_neg e, w_nj (by omega)]; exact k r c a1 a2 a3 a4
theorem mW_15 : ¬ mW 88 15 := by unfold mW; omega
theorem l_rt23 (hd : 4 ≤ d) {N : Int} (N1 : N ≤ 1000) (eN0 : h0 88 15 = N) : ∀ (m : Nat) (k : Int) (s : tS) (h : zH), N = k + m → 0 ≤ k → tInv s → mR s h → frB mW h0 h →
    z_Y D M_X13_readTable d 23 [(0, 2, 88), (1, 0, s.1), (2, 0, s.2.1), (3, 0, if s.1 = 0 then 0 else s.2.2.1), (4, 1, s.2.2.2.1), (6, 0, s.2.2.2.2.1), (7, 0, k)] [] G h (mtQ G h0 (tRun (fun k => zb8 (h0 100 k)) m k s)) := by
  intro m
  induction m with
  | zero =>
    intro k s h e k0 i mr f
    have i1 := i.1
    have vv := tInv_v i
    have eN : h 88 15 = N := (f 88 15 mW_15).trans eN0
    have inW : z_in (if s.1 = 0 then 0 else s.2.2.1) := by
      split
      · exact ⟨by omega, by omega⟩
      · have := i1.2.2.2.2 (by omega); exact ⟨by omega, by omega⟩
    refine b_X13_readTable_23 (by omega) ⟨by omega, by omega⟩ (by rw [eN]; exact ⟨by omega, by omega⟩) (fun _ => k0) (fun _ => by omega) (fun c => by omega) (fun c c2 => by omega) (fun _ _ => ?_)
    refine b_X13_readTable_54 ⟨by omega, by omega⟩ (fun c => absurd (by decide : ¬ (1 : Int) = 0) c) (fun _ => ?_) (fun c => absurd (by decide : ¬ (1 : Int) = 0) c) (fun c => absurd (by decide : ¬ (1 : Int) = 0) c) (fun c => absurd (by decide : ¬ (1 : Int) = 0) c) (fun c => absurd (by decide : ¬ (1 : Int) = 0) c)
    refine b_X13_readTable_195 ⟨by omega, by omega⟩ (fun c => absurd (by decide : ¬ (1 : Int) = 0) c) (fun c => absurd (by decide : ¬ (1 : Int) = 0) c) (fun c => absurd (by decide : ¬ (1 : Int) = 0) c) (fun c => absurd (by decide : ¬ (1 : Int) = 0) c) (fun _ => ?_) (fun c => absurd (by decide : ¬ (1 : Int) = 0) c) (fun c => absurd (by decide : ¬ (1 : Int) = 0) c) (fun c => absurd (by decide : ¬ (1 : Int) = 0) c) (fun c => absurd (by decide : ¬ (1 : Int) = 0) c)
    have g226 : ∀ x8 : Int, ¬ (0 < s.1 ∧ s.2.1 + 1 < s.2.2.1) → z_Y D M_X13_readTable d 226 [(0, 2, 88), (1, 0, s.1), (2, 0, s.2.1), (3, 0, if s.1 = 0 then 0 else s.2.2.1), (4, 1, s.2.2.2.1), (7, 0, k), (8, 0, x8), (9, 0, 1)] [] G h (mtQ G h0 (tRun (fun k => zb8 (h0 100 k)) 0 k s)) := by
      intro x8 nc
      have er : tRun (fun k => zb8 (h0 100 k)) 0 k s = (0, -1, s) := by unfold tRun; rw [if_neg nc]
      rw [er]
      have fH : frB mW h0 (z_wr h 91 (72 * 10 + 6 * s.1 + s.2.1) s.2.2.2.1) := f.w (Or.inr (Or.inr (Or.inl ⟨rfl, by omega⟩)))
      have last : ∀ x3 : Int, x3 = (tTab s).2.1 → z_Y D M_X13_readTable d 316 [(0, 2, 88), (1, 0, s.1), (3, 0, x3), (4, 1, 0), (6, 0, 0), (7, 0, k)] [] G (z_wr h 91 (72 * 10 + 6 * s.1 + s.2.1) s.2.2.2.1) (mtQ G h0 (0, -1, s)) := by
        intro x3 e3
        have eH : z_wr h 91 (72 * 10 + 6 * s.1 + s.2.1) s.2.2.2.1 88 15 = N := by rw [w_na (by omega)]; exact eN
        refine b_X13_readTable_316 (b_X13_readTable_23 (by omega) ⟨by omega, by omega⟩ (by rw [eH]; exact ⟨by omega, by omega⟩) (fun c => by omega) (fun c => by omega) (fun _ => ⟨rfl, (((fH.w (Or.inr (Or.inl ⟨Or.inl rfl, by omega⟩))).w (Or.inr (Or.inl ⟨Or.inr rfl, by omega⟩))).imp fun a j w => Or.inl w), Or.inl ⟨rfl, rfl, ⟨by rw [w_na (by omega), w_s]; rfl, by rw [w_s, e3], fun r c a1 a2 a3 a4 => ?_⟩, ?_, ?_⟩⟩) (fun c => by omega) (fun c => by omega))
        · rw [w_na (by omega), w_na (by omega), mR_put i mr rfl r c a1 a2 a3 a4, nrm]
          by_cases z : r < (tTab s).1 ∧ c < (tTab s).2.1
          · rw [if_pos z]; rfl
          · rw [if_neg z]
            refine Classical.byContradiction fun w => z ?_
            have q := tPut_nz i w
            have t1 : (tTab s).1 = s.1 + 1 := rfl
            have t2 : (tTab s).2.1 = (if s.1 = 0 then s.2.1 + 1 else s.2.2.1) := rfl
            rw [t1, t2]
            by_cases y : s.1 = 0
            · rw [if_pos y]; omega
            · have := i1.2.2.2.2 (by omega)
              rw [if_neg y]; omega
        · rw [w_na (by omega), w_na (by omega), w_na (by omega)]; exact f 88 20 (by unfold mW; omega)
        · rw [w_na (by omega), w_na (by omega), w_na (by omega)]; exact f 88 21 (by unfold mW; omega)
      refine b_X13_readTable_226 ⟨by omega, by omega⟩ (fun c => absurd (by decide : ¬ (1 : Int) = 0) c) (fun _ => ?_) (fun c => absurd (by decide : ¬ (1 : Int) = 0) c) (fun c => absurd (by decide : ¬ (1 : Int) = 0) c)
      refine b_X13_readTable_282 (by omega) (by omega) (by omega) ⟨by omega, by omega⟩ (fun c => absurd (by decide : ¬ (1 : Int) = 0) c) (fun _ => ?_) (fun c => absurd (by decide : ¬ (1 : Int) = 0) c) (fun c => absurd (by decide : ¬ (1 : Int) = 0) c)
      refine b_X13_readTable_308 ⟨by omega, by omega⟩ (fun c => last _ ?_) (fun c => last _ ?_)
      · show _ = (if s.1 = 0 then s.2.1 + 1 else s.2.2.1)
        rw [if_neg c, if_neg c]
      · show _ = (if s.1 = 0 then s.2.1 + 1 else s.2.2.1)
        rw [if_pos (Classical.not_not.mp c)]
    refine b_X13_readTable_207 ⟨by omega, by omega⟩ (fun _ => ⟨by omega, by omega⟩) (fun _ => inW) (fun c => g226 _ (by omega)) (fun c c2 => g226 _ ?_) (fun c c2 => ?_)
    · rw [if_neg (by omega)] at c2; omega
    · rw [if_neg (by omega)] at c2
      have er : tRun (fun k => zb8 (h0 100 k)) 0 k s = (3, k, s) := by unfold tRun; rw [if_pos (by omega)]
      rw [er]
      exact rt_wrong (pc := 0) (by omega) f (by decide) (fun q => b_X13_readTable_225 (by decide) q)
  | succ m ih =>
    intro k s h e k0 i mr f
    have i1 := i.1
    have vv := tInv_v i
    have eN : h 88 15 = N := (f 88 15 mW_15).trans eN0
    have inW : z_in (if s.1 = 0 then 0 else s.2.2.1) := by
      split
      · exact ⟨by omega, by omega⟩
      · have := i1.2.2.2.2 (by omega); exact ⟨by omega, by omega⟩
    obtain ⟨x, ex⟩ : ∃ x, x = zb8 (h0 100 k) := ⟨_, rfl⟩
    have rg := zb8_rg (h0 100 k)
    rw [← ex] at rg
    have eb : zby h (h 88 15) k = x := by
      unfold zby
      rw [if_neg (by omega), f 100 k (by unfold mW; omega), ex]
    have fH : frB mW h0 (z_wr h 91 (72 * 10 + 6 * s.1 + s.2.1) s.2.2.2.1) := f.w (Or.inr (Or.inr (Or.inl ⟨rfl, by omega⟩)))
    have bad : ∀ {kd : Int}, tKind x s = kd → ¬ kd = 0 → tRun (fun k => zb8 (h0 100 k)) (m + 1) k s = (kd, k, s) := by
      intro kd e1 e2
      unfold tRun
      rw [← ex, if_neg (by rw [e1]; exact e2), e1]
    have nxt : tKind x s = 0 → ∀ h' : zH, mR (tNext x s) h' → frB mW h0 h' → z_Y D M_X13_readTable d 23 [(0, 2, 88), (1, 0, (tNext x s).1), (2, 0, (tNext x s).2.1), (3, 0, if (tNext x s).1 = 0 then 0 else (tNext x s).2.2.1), (4, 1, (tNext x s).2.2.2.1), (6, 0, (tNext x s).2.2.2.2.1), (7, 0, k + 1)] [] G h' (mtQ G h0 (tRun (fun k => zb8 (h0 100 k)) (m + 1) k s)) := by
      intro kz h' mr' f'
      have er : tRun (fun k => zb8 (h0 100 k)) (m + 1) k s = tRun (fun k => zb8 (h0 100 k)) m (k + 1) (tNext x s) := by
        conv => lhs; unfold tRun
        rw [← ex, if_pos kz]
      rw [er]
      exact ih (k + 1) _ h' (by omega) (by omega) (tNext_inv i rg.1 rg.2 kz) mr' f'
    refine b_X13_readTable_23 (by omega) ⟨by omega, by omega⟩ (by rw [eN]; exact ⟨by omega, by omega⟩) (fun _ => k0) (fun _ => by omega) (fun c => by omega) (fun _ _ => ?_) (fun c c2 => by omega)
    rw [eb]
    -- a comma or a semicolon
    have g207 : x = 59 → z_Y D M_X13_readTable d 207 [(0, 2, 88), (1, 0, s.1), (2, 0, s.2.1), (3, 0, if s.1 = 0 then 0 else s.2.2.1), (4, 1, s.2.2.2.1), (7, 0, k), (8, 0, x), (9, 0, 0)] [] G h (mtQ G h0 (tRun (fun k => zb8 (h0 100 k)) (m + 1) k s)) := by
      intro c2
      have ek : tKind x s = (if 0 < s.1 ∧ s.2.1 + 1 < s.2.2.1 then 3 else if s.1 + 1 = 12 then 4 else 0) := by unfold tKind; rw [if_neg (by omega), if_pos c2]
      have en : tNext x s = (s.1 + 1, 0, if s.1 = 0 then s.2.1 + 1 else s.2.2.1, 0, 0, tPut s) := by unfold tNext; rw [if_neg (by omega), if_pos c2]
      have g226 : ¬ (0 < s.1 ∧ s.2.1 + 1 < s.2.2.1) → z_Y D M_X13_readTable d 226 [(0, 2, 88), (1, 0, s.1), (2, 0, s.2.1), (3, 0, if s.1 = 0 then 0 else s.2.2.1), (4, 1, s.2.2.2.1), (7, 0, k), (8, 0, x), (9, 0, 0)] [] G h (mtQ G h0 (tRun (fun k => zb8 (h0 100 k)) (m + 1) k s)) := by
        intro nc
        rw [if_neg nc] at ek
        refine b_X13_readTable_226 ⟨by omega, by omega⟩ (fun _ => ⟨by omega, by omega⟩) (fun c => absurd rfl c) (fun _ c => ?_) (fun _ c => ?_)
        · rw [if_neg c] at ek
          have go := nxt ek (z_wr h 91 (72 * 10 + 6 * s.1 + s.2.1) s.2.2.2.1) (by rw [en]; exact fun r c a1 a2 a3 a4 => mR_put i mr rfl r c a1 a2 a3 a4) fH
          rw [en] at go
          dsimp only at go
          rw [if_neg (show ¬ s.1 + 1 = 0 by omega)] at go
          refine b_X13_readTable_282 (by omega) (by omega) (by omega) ⟨by omega, by omega⟩ (fun _ => ⟨by omega, by omega⟩) (fun c => absurd rfl c) (fun _ c => absurd c2 c) (fun _ _ => ?_)
          refine b_X13_readTable_308 ⟨by omega, by omega⟩ (fun c => b_X13_readTable_316 ?_) (fun c => b_X13_readTable_316 ?_)
          · rw [if_neg c]; rw [if_neg c] at go; exact go
          · rw [if_pos (Classical.not_not.mp c)] at go; exact go
        · rw [if_pos (Classical.not_not.mp c)] at ek
          rw [bad ek (by decide)]
          exact rt_wrong (pc := 0) (by omega) f (by decide) (fun q => b_X13_readTable_246 (by decide) q)
      refine b_X13_readTable_207 ⟨by omega, by omega⟩ (fun _ => ⟨by omega, by omega⟩) (fun _ => inW) (fun c => g226 (by omega)) (fun c c3 => g226 ?_) (fun c c3 => ?_)
      · rw [if_neg (by omega)] at c3; omega
      · rw [if_neg (show ¬ s.1 = 0 by omega)] at c3
        rw [if_pos (by omega)] at ek
        rw [bad ek (by decide)]
        exact rt_wrong (pc := 0) (by omega) f (by decide) (fun q => b_X13_readTable_225 (by decide) q)
    have g195 : x = 44 ∨ x = 59 → z_Y D M_X13_readTable d 195 [(0, 2, 88), (1, 0, s.1), (2, 0, s.2.1), (3, 0, if s.1 = 0 then 0 else s.2.2.1), (4, 1, s.2.2.2.1), (7, 0, k), (8, 0, x), (9, 0, 0)] [] G h (mtQ G h0 (tRun (fun k => zb8 (h0 100 k)) (m + 1) k s)) := by
      intro cx
      have g266 : x = 44 → ¬ (0 < s.1 ∧ s.2.1 + 1 = s.2.2.1) → z_Y D M_X13_readTable d 266 [(0, 2, 88), (1, 0, s.1), (2, 0, s.2.1), (3, 0, if s.1 = 0 then 0 else s.2.2.1), (4, 1, s.2.2.2.1), (7, 0, k), (8, 0, x), (9, 0, 0)] [] G h (mtQ G h0 (tRun (fun k => zb8 (h0 100 k)) (m + 1) k s)) := by
        intro c1 nc
        have ek : tKind x s = (if 0 < s.1 ∧ s.2.1 + 1 = s.2.2.1 then 3 else if s.2.1 + 1 = 6 then 4 else 0) := by unfold tKind; rw [if_pos c1]
        have en : tNext x s = (s.1, s.2.1 + 1, s.2.2.1, 0, 0, tPut s) := by unfold tNext; rw [if_pos c1]
        rw [if_neg nc] at ek
        refine b_X13_readTable_266 ⟨by omega, by omega⟩ (fun c => ?_) (fun c => ?_)
        · rw [if_neg c] at ek
          have go := nxt ek (z_wr h 91 (72 * 10 + 6 * s.1 + s.2.1) s.2.2.2.1) (by rw [en]; exact fun r c a1 a2 a3 a4 => mR_put i mr rfl r c a1 a2 a3 a4) fH
          rw [en] at go
          exact b_X13_readTable_282 (by omega) (by omega) (by omega) ⟨by omega, by omega⟩ (fun _ => ⟨by omega, by omega⟩) (fun c => absurd rfl c) (fun _ _ => go) (fun _ c => absurd (by omega) c)
        · rw [if_pos (Classical.not_not.mp c)] at ek
          rw [bad ek (by decide)]
          exact rt_wrong (pc := 0) (by omega) f (by decide) (fun q => b_X13_readTable_281 (by decide) q)
      refine b_X13_readTable_195 ⟨by omega, by omega⟩ (fun _ => ⟨by omega, by omega⟩) (fun _ _ => ⟨by omega, by omega⟩) (fun _ _ _ => ⟨by omega, by omega⟩) (fun _ _ _ => inW) (fun c => absurd rfl c) (fun _ c c1 => g266 (by omega) (by omega)) (fun _ c c1 c2 => g266 (by omega) ?_) (fun _ c c1 c2 => ?_) (fun _ c => g207 (Classical.not_not.mp c))
      · rw [if_neg (show ¬ s.1 = 0 by omega)] at c2; omega
      · rw [if_neg (show ¬ s.1 = 0 by omega)] at c2
        have ek : tKind x s = 3 := by unfold tKind; rw [if_pos (by omega), if_pos (by omega)]
        rw [bad ek (by decide)]
        exact rt_wrong (pc := 0) (by omega) f (by decide) (fun q => b_X13_readTable_265 (by decide) q)
    -- a byte of a cell
    have g87 : ∀ y : Int, (y = 0 ∧ ¬ x = 63 ∨ y = 1 ∧ x = 63) → ¬ x = 44 → ¬ x = 59 → z_Y D M_X13_readTable d 87 [(0, 2, 88), (1, 0, s.1), (2, 0, s.2.1), (3, 0, if s.1 = 0 then 0 else s.2.2.1), (4, 1, s.2.2.2.1), (6, 0, s.2.2.2.2.1), (7, 0, k), (8, 0, x)] [(0, y)] G h (mtQ G h0 (tRun (fun k => zb8 (h0 100 k)) (m + 1) k s)) := by
      intro y hy c1 c2
      have ek : tKind x s = zif (s.2.2.2.1 = -1 ∨ ¬ tGood x s.2.2.2.2.1) 1 (if s.2.2.2.2.1 = 7 then 2 else 0) := by unfold tKind; rw [if_neg c1, if_neg c2]
      have en : tNext x s = (s.1, s.2.1, s.2.2.1, if x = 63 then -1 else s.2.2.2.1 * 256 + x, s.2.2.2.2.1 + 1, s.2.2.2.2.2) := by unfold tNext; rw [if_neg c1, if_neg c2]
      have nin : z_in s.2.2.2.2.1 := by rcases i.2.1 with q | q <;> exact ⟨by omega, by omega⟩
      have b136 : (s.2.2.2.1 = -1 ∨ ¬ tGood x s.2.2.2.2.1) → z_Y D M_X13_readTable d 136 [(0, 2, 88), (1, 0, s.1), (2, 0, s.2.1), (3, 0, if s.1 = 0 then 0 else s.2.2.1), (4, 1, s.2.2.2.1), (6, 0, s.2.2.2.2.1), (7, 0, k), (8, 0, x), (10, 0, y)] [] G h (mtQ G h0 (tRun (fun k => zb8 (h0 100 k)) (m + 1) k s)) := by
        intro w
        rw [zif1 w] at ek
        rw [bad ek (by decide)]
        exact b_X13_readTable_136 (b_X13_readTable_137 ⟨by omega, by omega⟩ (fun c => absurd rfl c) (fun c => absurd rfl c) (fun c => absurd rfl c) (fun c => absurd rfl c) (fun c => absurd rfl c) (fun c => absurd rfl c) (fun _ => rt_wrong (pc := 0) (by omega) f (by decide) (fun q => b_X13_readTable_151 (by decide) q)))
      have b132 : ¬ s.2.2.2.1 = -1 → tGood x s.2.2.2.2.1 → z_Y D M_X13_readTable d 132 [(0, 2, 88), (1, 0, s.1), (2, 0, s.2.1), (3, 0, if s.1 = 0 then 0 else s.2.2.1), (4, 1, s.2.2.2.1), (6, 0, s.2.2.2.2.1), (7, 0, k), (8, 0, x), (10, 0, y)] [] G h (mtQ G h0 (tRun (fun k => zb8 (h0 100 k)) (m + 1) k s)) := by
        intro va g
        obtain ⟨v0, n0, n7, v1⟩ := vv.2.2 va
        rw [zif0 (fun w => w.elim va (fun w => w g))] at ek
        refine b_X13_readTable_132 (b_X13_readTable_137 ⟨by omega, by omega⟩ (fun _ => nin) (fun _ _ => ⟨by omega, by omega⟩) (fun _ _ _ => ⟨by omega, by omega⟩) (fun _ c c3 => b_X13_readTable_187 ?_) (fun _ c c3 => b_X13_readTable_187 ?_) (fun _ c => ?_) (fun c => absurd (by decide : ¬ (1 : Int) = 0) c))
        · rw [if_neg c] at ek
          rw [(lsb8 n0 (by omega) v0 v1 rg.1 rg.2).1]
          have go := nxt ek h (by rw [en]; exact mr) f
          rw [en, if_neg (show ¬ x = 63 by omega)] at go
          exact go
        · rw [if_neg c] at ek
          have go := nxt ek h (by rw [en]; exact mr) f
          rw [en, if_pos (show x = 63 by omega)] at go
          exact go
        · rw [if_pos (Classical.not_not.mp c)] at ek
          rw [bad ek (by decide)]
          exact rt_wrong (pc := 0) (by omega) f (by decide) (fun q => b_X13_readTable_166 (by decide) q)
      refine b_X13_readTable_87 (by omega) ⟨by omega, by omega⟩ (fun _ => ⟨by omega, by omega⟩) (fun _ _ _ _ => ⟨by omega, by omega⟩) (fun _ _ _ _ _ => nin) (fun c => b136 (Or.inl c)) (fun c c3 => b132 c (Or.inl c3)) (fun c _ c3 => b132 c (Or.inr (Or.inl c3))) (fun c _ _ c3 => b132 c (Or.inr (Or.inr (Or.inl c3)))) (fun c c3 c4 c5 c6 => b136 (Or.inr fun g => ?_)) (fun c c3 c4 c5 c6 c7 => b136 (Or.inr fun g => ?_)) (fun c _ _ _ c6 c7 => b132 c (Or.inr (Or.inr (Or.inr ⟨by omega, Classical.not_not.mp c7⟩))))
      · rcases g with g | g | g | g
        · exact c3 g
        · exact c4 g
        · exact c5 g
        · omega
      · rcases g with g | g | g | g
        · exact c3 g
        · exact c4 g
        · exact c5 g
        · exact c7 g.2
    exact b_X13_readTable_54 ⟨by omega, by omega⟩ (fun _ => ⟨by omega, by omega⟩) (fun c => absurd rfl c) (fun _ c => g195 (Or.inl c)) (fun _ _ c => g195 (Or.inr c)) (fun _ c1 c2 c => g87 0 (Or.inl ⟨rfl, c⟩) c1 c2) (fun _ c1 c2 c => g87 1 (Or.inr ⟨rfl, Classical.not_not.mp c⟩) c1 c2)
theorem m_readTable (hd : 4 ≤ d) {N : Int} (N0 : 0 ≤ N) (N1 : N ≤ 1000) (eN0 : h 88 15 = N) : z_CY D M_X13_readTable d [(2, 88)] G h (mtQ G h (tRun (fun k => zb8 (h 100 k)) N.toNat 0 t0)) := by
  refine z_begin mo_X13_readTable rfl (nle rfl) (b_X13_readTable_0 ?_)
  refine z_Kv.of (d2 := d - 1) (by omega) (a_X13_shape 10 1 1 (by omega) (by omega)) ?_
  rintro out G' h1 hl1 ⟨r1, rfl, rfl⟩
  refine ⟨r1, b_X13_readTable_14 (l_rt23 hd N1 eN0 N.toNat 0 t0 _ (by omega) (by omega) t0_inv (fun r c a1 a2 a3 a4 => ?_) ?_)⟩
  · unfold zfr
    rw [if_pos ⟨rfl, by omega, by omega⟩]
    rfl
  · exact fun a j n => frN_new a j (fun q => n (Or.inr (Or.inl ⟨q.1, by omega⟩))) (fun q => n (Or.inr (Or.inr (Or.inl ⟨q.1, by omega⟩)))) (fun q => n (Or.inr (Or.inr (Or.inr q))))
theorem tRun_c {b b' : Int → Int} : ∀ (m : Nat) (k : Int) (s : tS), (∀ j : Int, k ≤ j → j < k + m → b j = b' j) → tRun b m k s = tRun b' m k s := by
  intro m
  induction m with
  | zero => intro k s _; rfl
  | succ m ih =>
    intro k s e
    unfold tRun
    rw [e k (by omega) (by omega)]
    split
    · exact ih (k + 1) _ fun j a b => e j (by omega) (by omega)
    · rfl
end Tread4
