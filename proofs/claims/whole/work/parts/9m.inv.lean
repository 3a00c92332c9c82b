theorem b_X11_emptyTape_0 {D : zD} {d : Nat} {G : zG} {h : zH} {Q : zO → zG → zH → Prop}
    (u1 : Q (.inl (some (0, (h 0 3)))) G (z_wr h 0 3 0)) :
    z_Y D M_X11_emptyTape d 0 [(0, 2, 0)] [] G h Q := by
  intro hl0
  refine z_aload_n (q := 1) 0 dX11_emptyTape_0 rfl rfl ?_
  refine z_gf (q := 4) (ki := 3) (v := (0, (h 0 3))) fX11_25 rfl rfl (hl0.i 0 (by decide) rfl) dX11_emptyTape_1 rfl ?_
  refine z_istore_n (q := 5) (L' := [(0, 2, 0), (1, 0, (h 0 3))]) dX11_emptyTape_4 rfl (by decide) rfl ?_
  refine z_aload_n (q := 6) 0 dX11_emptyTape_5 rfl rfl ?_
  refine z_iconst (q := 7) dX11_emptyTape_6 rfl ?_
  refine z_pf (q := 10) (ki := 3) fX11_25 rfl (z_sv0 rfl) (hl0.i 0 (by decide) rfl) dX11_emptyTape_7 rfl ?_
  have hl1 := hl0.wr (v := 0) (hl0.i 0 (by decide) rfl) (i := 3) (by decide)
  refine z_iload_n (q := 11) 1 dX11_emptyTape_10 rfl rfl ?_
  exact z_iret rfl dX11_emptyTape_11 ⟨hl1, u1⟩
/-! the state of the two objects, as it is told: tables, ways, tape, fault, what a search left -/
abbrev zA : Type := (Int → zTb) × (Int → zWy) × ((Int → Int) × Int) × (Int × Int) × (Int × Int × Int × Int × List (List Int))
def zBl : zTb := (1, 1, fun _ _ => 0)
def cAb (G : zG) (h : zH) (S : zA) : Prop := ((∀ t : Int, 0 ≤ t → t < 8 → isC h (56 + 4 * t) (S.1 t)) ∧ ∀ w : Int, 0 ≤ w → w < 8 → isW h (58 + 4 * w) (S.2.1 w)) ∧ ((∀ j : Int, w8 (h 3 j) = S.2.2.1.1 j) ∧ h 0 3 = S.2.2.1.2) ∧ (h 0 4 = S.2.2.2.1.1 ∧ h 0 5 = S.2.2.2.1.2) ∧ (PI G h ∧ fnQ h S.2.2.2.2) ∧ (wkI h 19 ∧ wkI h 24) ∧ isC h 46 zBl
def mAb (h : zH) (S : zA) : Prop := ((∀ t : Int, 0 ≤ t → t < 8 → isM h t (S.1 t)) ∧ ∀ w : Int, 0 ≤ w → w < 8 → isV h w (S.2.1 w)) ∧ ((∀ j : Int, w8 (h 100 j) = S.2.2.1.1 j) ∧ h 88 14 = S.2.2.1.2) ∧ (h 88 20 = S.2.2.2.1.1 ∧ h 88 21 = S.2.2.2.1.2) ∧ fnM h S.2.2.2.2
def aok (S : zA) : Prop := ((∀ t : Int, 0 ≤ t → t < 8 → okT (S.1 t)) ∧ ∀ w : Int, 0 ≤ w → w < 8 → okW (S.2.1 w)) ∧ ((∀ j : Int, -128 ≤ S.2.2.1.1 j ∧ S.2.2.1.1 j ≤ 127) ∧ 0 ≤ S.2.2.1.2 ∧ S.2.2.1.2 ≤ 1000) ∧ okF S.2.2.2.2 ∧ S.2.2.2.2.1 ≤ 3
def puT (S : zA) (t : Int) (U : zTb) : zA := (fun i => if i = t then U else S.1 i, S.2)
def puW (S : zA) (w : Int) (V : zWy) : zA := (S.1, (fun i => if i = w then V else S.2.1 i), S.2.2)
def puG (S : zA) (g : Int → Int) (n : Int) : zA := (S.1, S.2.1, (g, n), S.2.2.2)
def puF (S : zA) (k p : Int) : zA := (S.1, S.2.1, S.2.2.1, (k, p), S.2.2.2.2)
def puR (S : zA) (r : Int × Int × Int × Int × List (List Int)) : zA := (S.1, S.2.1, S.2.2.1, S.2.2.2.1, r)
/-- the class's call: what it answers, what stands then; the model's cells as they were -/
def cCl (v : zV) (S : zA) (G : zG) (h : zH) : zO → zG → zH → Prop := fun out G' h' => out = .inl (some v) ∧ (∀ b j : Int, 88 ≤ b → b < 114 → h' b j = h b j) ∧ cAb G' h' S
def mCl (v : zV) (S : zA) (G : zG) (h : zH) : zO → zG → zH → Prop := fun out G' h' => out = .inl (some v) ∧ G' = G ∧ (∀ b j : Int, ¬ (88 ≤ b ∧ b < 114) → h' b j = h b j) ∧ mAb h' S
section Inv
variable {G : zG} {h h' : zH} {S : zA}
theorem zBl_ok : okT zBl := ⟨⟨by decide, by decide, by decide, by decide⟩, fun r c _ _ _ _ => ⟨by show (-1 : Int) ≤ 0; omega, by show (0 : Int) < 72057594037927936; omega⟩⟩
theorem zBl_no : noA zBl := fun r c _ _ _ _ => Int.le_refl 0
theorem PI_kp (p : PI G h) (e : ∀ b j : Int, b = 33 ∨ b = 48 ∨ b = 51 ∨ 114 ≤ b → h' b j = h b j) : PI G h' := by
  obtain ⟨⟨n, p1, p2, p3, p4⟩, r, g, t⟩ := p
  have e48 : ∀ i, h' 48 i = h 48 i := fun i => e 48 i (by omega)
  have e33 : h' 33 11 = h 33 11 := e 33 11 (by omega)
  have e0 : ∀ i : Int, 0 ≤ i → i < n → h' (h 48 i) 0 = h (h 48 i) 0 := fun i a b => e _ 0 (Or.inr (Or.inr (Or.inr (p2 i a b).2.1)))
  refine ⟨⟨n, p1, fun i a b => ?_, fun i j a b c => ?_, fun i a b => by rw [e48]; exact p4 i a b⟩, ?_, ?_, ?_⟩
  · have q := p2 i a b
    unfold stS at q ⊢
    rw [e48, e0 i a b]; exact q
  · rw [e48, e48, e0 i a (by omega), e0 j (by omega) c]; exact p3 i j a b c
  · unfold rmS at r ⊢
    have ep : sI (ptS G h') 1500 = sI (ptS G h) 1500 := sI_c 1500 fun i a b => by
      unfold ptS
      rw [e48]
      by_cases z : h 48 i = -1
      · rw [if_pos z, if_pos z]
      · rw [if_neg z, if_neg z, e0 i a (by
          refine Classical.byContradiction fun w => z (p4 i (by omega) (by omega)))]
    rw [ep, e33]; exact r
  · unfold edg at g ⊢; rw [e33]; exact g
  · unfold tdI at t ⊢
    rw [e 51 2 (by omega), e 51 3 (by omega), e 51 4 (by omega), e 51 5 (by omega)]; exact t
theorem fnQ_kp {r : Int × Int × Int × Int × List (List Int)} (t : tdI h) (p : fnQ h r) (e : ∀ b j : Int, b = 33 ∨ (51 ≤ b ∧ b ≤ 55) → h' b j = h b j) : fnQ h' r := by
  obtain ⟨a1, a2, a3, a4, a5, a6⟩ := p
  refine ⟨by rw [e 33 14 (by omega)]; exact a1, by rw [e 33 15 (by omega)]; exact a2, by rw [e 33 16 (by omega)]; exact a3, by rw [e 51 0 (by omega)]; exact a4, fun z => by rw [e 51 1 (by omega)]; exact a5 z, fun k q w => ?_⟩
  rw [e 51 2 (by omega), e (h 51 2) k (by have := t.1; omega)]
  exact a6 k q w
/-- a table of the class, the working cells, tape and faults -/
theorem cAb_T (c : cAb G h S) {t : Int} (ht : 0 ≤ t ∧ t ≤ 7) {U : zTb} (f : frB (fun a _ => a = 56 + 4 * t ∨ a = 57 + 4 * t ∨ (4 ≤ a ∧ a ≤ 32)) h h') (k9 : wkI h' 19) (k4 : wkI h' 24) (k : isC h' (56 + 4 * t) U) : cAb G h' (puT S t U) := by
  obtain ⟨⟨a1, a2⟩, ⟨b1, b2⟩, ⟨c1, c2⟩, ⟨d1, d2⟩, e, g⟩ := c
  refine ⟨⟨fun i i0 i8 => ?_, fun w w0 w8 => isW_B (a2 w w0 w8) f (fun j => by omega) (fun j => by omega)⟩, ⟨fun j => by rw [f 3 j (by omega)]; exact b1 j, by rw [f 0 3 (by omega)]; exact b2⟩, ⟨by rw [f 0 4 (by omega)]; exact c1, by rw [f 0 5 (by omega)]; exact c2⟩, ⟨PI_kp d1 fun b j q => f b j (by omega), fnQ_kp d1.2.2.2 d2 fun b j q => f b j (by omega)⟩, ⟨k9, k4⟩, isC_B g f (fun j => by omega) (fun j => by omega)⟩
  show isC h' (56 + 4 * i) (if i = t then U else S.1 i)
  by_cases z : i = t
  · rw [if_pos z, z]; exact k
  · rw [if_neg z]; exact isC_B (a1 i i0 i8) f (fun j => by omega) (fun j => by omega)
theorem cAb_W (c : cAb G h S) {t : Int} (ht : 0 ≤ t ∧ t ≤ 7) {U : zWy} (f : frB (fun a _ => a = 58 + 4 * t ∨ a = 59 + 4 * t ∨ (4 ≤ a ∧ a ≤ 32)) h h') (k9 : wkI h' 19) (k4 : wkI h' 24) (k : isW h' (58 + 4 * t) U) : cAb G h' (puW S t U) := by
  obtain ⟨⟨a1, a2⟩, ⟨b1, b2⟩, ⟨c1, c2⟩, ⟨d1, d2⟩, e, g⟩ := c
  refine ⟨⟨fun i i0 i8 => isC_B (a1 i i0 i8) f (fun j => by omega) (fun j => by omega), fun w w0 w8 => ?_⟩, ⟨fun j => by rw [f 3 j (by omega)]; exact b1 j, by rw [f 0 3 (by omega)]; exact b2⟩, ⟨by rw [f 0 4 (by omega)]; exact c1, by rw [f 0 5 (by omega)]; exact c2⟩, ⟨PI_kp d1 fun b j q => f b j (by omega), fnQ_kp d1.2.2.2 d2 fun b j q => f b j (by omega)⟩, ⟨k9, k4⟩, isC_B g f (fun j => by omega) (fun j => by omega)⟩
  show isW h' (58 + 4 * w) (if w = t then U else S.2.1 w)
  by_cases z : w = t
  · rw [if_pos z, z]; exact k
  · rw [if_neg z]; exact isW_B (a2 w w0 w8) f (fun j => by omega) (fun j => by omega)
theorem cAb_G (c : cAb G h S) {g : Int → Int} {n k p : Int} (f : frB (fun a j => a = 3 ∨ (a = 0 ∧ 3 ≤ j ∧ j ≤ 5) ∨ (4 ≤ a ∧ a ≤ 32)) h h') (k9 : wkI h' 19) (k4 : wkI h' 24) (e3 : ∀ j, w8 (h' 3 j) = g j) (e0 : h' 0 3 = n) (e4 : h' 0 4 = k) (e5 : h' 0 5 = p) : cAb G h' (puF (puG S g n) k p) := by
  obtain ⟨⟨a1, a2⟩, ⟨b1, b2⟩, ⟨c1, c2⟩, ⟨d1, d2⟩, e, g⟩ := c
  exact ⟨⟨fun i i0 i8 => isC_B (a1 i i0 i8) f (fun j => by omega) (fun j => by omega), fun w w0 w8 => isW_B (a2 w w0 w8) f (fun j => by omega) (fun j => by omega)⟩, ⟨e3, e0⟩, ⟨e4, e5⟩, ⟨PI_kp d1 fun b j q => f b j (by omega), fnQ_kp d1.2.2.2 d2 fun b j q => f b j (by omega)⟩, ⟨k9, k4⟩, isC_B g f (fun j => by omega) (fun j => by omega)⟩
theorem cAb_0 (c : cAb G h S) (f : frB (fun a _ => 4 ≤ a ∧ a ≤ 32) h h') (k9 : wkI h' 19) (k4 : wkI h' 24) : cAb G h' S := by
  have q := cAb_G c (f.imp fun a j w => Or.inr (Or.inr w)) k9 k4 (g := S.2.2.1.1) (n := S.2.2.1.2) (k := S.2.2.2.1.1) (p := S.2.2.2.1.2) (fun j => by rw [f 3 j (by omega)]; exact c.2.1.1 j) (by rw [f 0 3 (by omega)]; exact c.2.1.2) (by rw [f 0 4 (by omega)]; exact c.2.2.1.1) (by rw [f 0 5 (by omega)]; exact c.2.2.1.2)
  exact q
theorem cAb_m (c : cAb G h S) (f : ∀ b j : Int, ¬ (88 ≤ b ∧ b < 114) → h' b j = h b j) : cAb G h' S := by
  obtain ⟨⟨a1, a2⟩, ⟨b1, b2⟩, ⟨c1, c2⟩, ⟨d1, d2⟩, ⟨e1, e2⟩, g⟩ := c
  have f : frB (fun b _ => 88 ≤ b ∧ b < 114) h h' := f
  exact ⟨⟨fun i i0 i8 => isC_B (a1 i i0 i8) f (fun j => by omega) (fun j => by omega), fun w w0 w8 => isW_B (a2 w w0 w8) f (fun j => by omega) (fun j => by omega)⟩, ⟨fun j => by rw [f 3 j (by omega)]; exact b1 j, by rw [f 0 3 (by omega)]; exact b2⟩, ⟨by rw [f 0 4 (by omega)]; exact c1, by rw [f 0 5 (by omega)]; exact c2⟩, ⟨PI_kp d1 fun b j q => f b j (by omega), fnQ_kp d1.2.2.2 d2 fun b j q => f b j (by omega)⟩, ⟨by unfold wkI at e1 ⊢; rw [f 19 1 (by omega), f 19 2 (by omega)]; exact e1, by unfold wkI at e2 ⊢; rw [f 24 1 (by omega), f 24 2 (by omega)]; exact e2⟩, isC_B g f (fun j => by omega) (fun j => by omega)⟩
/-- the model's working cells -/
def mSc (a j : Int) : Prop := (a = 88 ∧ (j = 3 ∨ j = 4 ∨ (15 ≤ j ∧ j ≤ 19))) ∨ ((a = 89 ∨ a = 90) ∧ 8 ≤ j) ∨ (a = 91 ∧ 576 ≤ j) ∨ (92 ≤ a ∧ a ≤ 94) ∨ (a = 95 ∧ j = 8) ∨ (96 ≤ a ∧ a ≤ 98 ∧ 96 ≤ j)
theorem isV_C {P : Int → Int → Prop} {w : Int} {W : zWy} (k : isV h w W) (oW : okW W) (f : frB P h h') (n1 : ¬ P 95 w) (n2 : ∀ a j : Int, 96 ≤ a → a ≤ 98 → 12 * w ≤ j → j < 12 * w + 12 → ¬ P a j) : isV h' w W := ⟨by rw [f 95 w n1]; exact k.1, fun i a b => by have := oW.2.1; rw [f 96 _ (n2 _ _ (by omega) (by omega) (by omega) (by omega)), f 97 _ (n2 _ _ (by omega) (by omega) (by omega) (by omega)), f 98 _ (n2 _ _ (by omega) (by omega) (by omega) (by omega))]; exact k.2 i a b⟩
theorem fnM_kp {r : Int × Int × Int × Int × List (List Int)} (p : fnM h r) (e : ∀ b j : Int, (b = 88 ∧ 29 ≤ j) ∨ (111 ≤ b ∧ b ≤ 113) → h' b j = h b j) : fnM h' r := by
  obtain ⟨a1, a2, a3, b1, b2, b3, b4⟩ := p
  refine ⟨by rw [e 88 29 (by omega)]; exact a1, by rw [e 88 30 (by omega)]; exact a2, by rw [e 88 31 (by omega)]; exact a3, b1, by rw [e 88 41 (by omega)]; exact b2, fun z => by rw [e 88 42 (by omega)]; exact b3 z, fun i q w => ⟨(b4 i q w).1, fun k c kc => ?_⟩⟩
  rw [e 111 _ (by omega), e 112 _ (by omega), e 113 _ (by omega)]
  exact (b4 i q w).2 k c kc
theorem mAb_T (o : aok S) (c : mAb h S) {t : Int} (ht : 0 ≤ t ∧ t ≤ 7) {U : zTb} (f : frB (fun a j => mT t a j ∨ mSc a j) h h') (k : isM h' t U) : mAb h' (puT S t U) := by
  obtain ⟨⟨a1, a2⟩, ⟨b1, b2⟩, ⟨c1, c2⟩, d⟩ := c
  refine ⟨⟨fun i i0 i8 => ?_, fun w w0 w8 => isV_C (a2 w w0 w8) (o.1.2 w w0 w8) f (by unfold mT mSc; omega) (fun a j _ _ _ _ => by unfold mT mSc; omega)⟩, ⟨fun j => by rw [f 100 j (by unfold mT mSc; omega)]; exact b1 j, by rw [f 88 14 (by unfold mT mSc; omega)]; exact b2⟩, ⟨by rw [f 88 20 (by unfold mT mSc; omega)]; exact c1, by rw [f 88 21 (by unfold mT mSc; omega)]; exact c2⟩, fnM_kp d fun b j q => f b j (by unfold mT mSc; omega)⟩
  show isM h' i (if i = t then U else S.1 i)
  by_cases z : i = t
  · rw [if_pos z, z]; exact k
  · rw [if_neg z]; exact isM_B (a1 i i0 i8) f (by unfold mT mSc; omega) (by unfold mT mSc; omega) (fun j _ _ => by unfold mT mSc; omega)
theorem mAb_W (o : aok S) (c : mAb h S) {t : Int} (ht : 0 ≤ t ∧ t ≤ 7) {U : zWy} (f : frB (fun a j => mTk t a j ∨ mSc a j) h h') (k : isV h' t U) : mAb h' (puW S t U) := by
  obtain ⟨⟨a1, a2⟩, ⟨b1, b2⟩, ⟨c1, c2⟩, d⟩ := c
  refine ⟨⟨fun i i0 i8 => isM_B (a1 i i0 i8) f (by unfold mTk mSc; omega) (by unfold mTk mSc; omega) (fun j _ _ => by unfold mTk mSc; omega), fun w w0 w8 => ?_⟩, ⟨fun j => by rw [f 100 j (by unfold mTk mSc; omega)]; exact b1 j, by rw [f 88 14 (by unfold mTk mSc; omega)]; exact b2⟩, ⟨by rw [f 88 20 (by unfold mTk mSc; omega)]; exact c1, by rw [f 88 21 (by unfold mTk mSc; omega)]; exact c2⟩, fnM_kp d fun b j q => f b j (by unfold mTk mSc; omega)⟩
  show isV h' w (if w = t then U else S.2.1 w)
  by_cases z : w = t
  · rw [if_pos z, z]; exact k
  · rw [if_neg z]; exact isV_C (a2 w w0 w8) (o.1.2 w w0 w8) f (by unfold mTk mSc; omega) (fun a j _ _ _ _ => by unfold mTk mSc; omega)
theorem mAb_G (o : aok S) (c : mAb h S) {g : Int → Int} {n k p : Int} (f : frB (fun a j => a = 100 ∨ (a = 88 ∧ (j = 14 ∨ j = 20 ∨ j = 21)) ∨ mSc a j) h h') (e3 : ∀ j, w8 (h' 100 j) = g j) (e0 : h' 88 14 = n) (e4 : h' 88 20 = k) (e5 : h' 88 21 = p) : mAb h' (puF (puG S g n) k p) := by
  obtain ⟨⟨a1, a2⟩, ⟨b1, b2⟩, ⟨c1, c2⟩, d⟩ := c
  exact ⟨⟨fun i i0 i8 => isM_B (a1 i i0 i8) f (by unfold mSc; omega) (by unfold mSc; omega) (fun j _ _ => by unfold mSc; omega), fun w w0 w8 => isV_C (a2 w w0 w8) (o.1.2 w w0 w8) f (by unfold mSc; omega) (fun a j _ _ _ _ => by unfold mSc; omega)⟩, ⟨e3, e0⟩, ⟨e4, e5⟩, fnM_kp d fun b j q => f b j (by unfold mSc; omega)⟩
theorem mAb_0 (o : aok S) (c : mAb h S) (f : frB mSc h h') : mAb h' S :=
  mAb_G o c (f.imp fun a j w => Or.inr (Or.inr w)) (g := S.2.2.1.1) (n := S.2.2.1.2) (k := S.2.2.2.1.1) (p := S.2.2.2.1.2) (fun j => by rw [f 100 j (by unfold mSc; omega)]; exact c.2.1.1 j) (by rw [f 88 14 (by unfold mSc; omega)]; exact c.2.1.2) (by rw [f 88 20 (by unfold mSc; omega)]; exact c.2.2.1.1) (by rw [f 88 21 (by unfold mSc; omega)]; exact c.2.2.1.2)
theorem mAb_c (o : aok S) (c : mAb h S) (f : ∀ b j : Int, 88 ≤ b → b < 114 → h' b j = h b j) : mAb h' S := by
  have f : frB (fun b _ => ¬ (88 ≤ b ∧ b < 114)) h h' := fun b j q => f b j (by omega) (by omega)
  obtain ⟨⟨a1, a2⟩, ⟨b1, b2⟩, ⟨c1, c2⟩, d⟩ := c
  exact ⟨⟨fun i i0 i8 => isM_B (a1 i i0 i8) f (by omega) (by omega) (fun j _ _ => by omega), fun w w0 w8 => isV_C (a2 w w0 w8) (o.1.2 w w0 w8) f (by omega) (fun a j _ _ _ _ => by omega)⟩, ⟨fun j => by rw [f 100 j (by omega)]; exact b1 j, by rw [f 88 14 (by omega)]; exact b2⟩, ⟨by rw [f 88 20 (by omega)]; exact c1, by rw [f 88 21 (by omega)]; exact c2⟩, fnM_kp d fun b j q => f b j (by omega)⟩
/-- what a become writes -/
theorem bcC {t u R C : Int} {T : zTb} (k : isC h u T) (oT : okT T) (n1 : ¬ u + 1 = t) (eR : R = T.1) (eC : C = T.2.1) : frB (fun a _ => a = t ∨ a = t + 1) h (z_cp (z_wr (z_wr h t 1 R) t 2 C) (u + 1) 0 (t + 1) 0 (R * C)) ∧ isC (z_cp (z_wr (z_wr h t 1 R) t 2 C) (u + 1) 0 (t + 1) 0 (R * C)) t T := by
  subst eR eC
  obtain ⟨a1, a2, a3, a4⟩ := oT.1
  have rc := rc_le a1 a2 a3 a4
  have p0 : 0 ≤ T.1 * T.2.1 := Int.mul_nonneg (by omega) (by omega)
  refine ⟨((frB.rf.w (Or.inl rfl)).w (Or.inl rfl)).c (fun j _ _ => Or.inr rfl), ?_⟩
  have n0 : ¬ t = t + 1 := by omega
  refine ⟨by rw [c_na n0, w_nj (by omega), w_s], by rw [c_na n0, w_s], fun r c b1 b2 b3 b4 => ?_⟩
  have ix := ix_lt b1 b2 b3 b4
  unfold z_cp
  rw [if_pos ⟨rfl, by omega, by omega⟩, w_na n1, w_na n1, show (0 : Int) + (r * T.2.1 + c - 0) = r * T.2.1 + c by omega]
  exact k.2.2 r c b1 b2 b3 b4
end Inv
