section Rows
variable {D : zD} {M : zM} {d pc q t idx k : Nat} {L : List (Nat × zV)} {st : List zV} {G : zG} {h : zH} {Q : zO → zG → zH → Prop}
theorem z_tyat {t : Nat} (h1 : 50 ≤ t) (h2 : t < 57) : (z_tys D)[t - 50]? = some (D.2.2.2.1 t, z_ety t) := by
  have : t = 50 ∨ t = 51 ∨ t = 52 ∨ t = 53 ∨ t = 54 ∨ t = 55 ∨ t = 56 := by omega
  rcases this with rfl | rfl | rfl | rfl | rfl | rfl | rfl <;> rfl
theorem z_arr {t : Nat} {n : Int} {f : Int → Int} {cell : Cell} (h1 : 50 ≤ t) (hc : z_cell D t n f cell) : 0 ≤ n ∧ n < 2147483648 ∧ cell = arrV (D.2.2.2.1 t) n.toNat (fun j => z_v D (z_kd (z_ety t)) (f j)) := by
  unfold z_cell at hc
  rwa [if_neg (by omega)] at hc
/-- a row of a kind, with what it holds: a new one or a constant -/
def z_at (D : zD) (G : zG) (h : zH) (a : Int) (t : Nat) (n : Int) (f : Int → Int) : Prop := (z_is G a t ∧ G.2.2.2 a = n ∧ h a = f) ∨ (∃ c : Nat, 2 ≤ c ∧ c < 7 ∧ a = -(c : Int) ∧ z_con D c = (t, n, f)) ∨ ∃ i : Nat, i < 16 ∧ a = -(30 + (i : Int)) ∧ t = 52 ∧ n = (z_sl.getD i 0 : Nat) ∧ f = z_sby i
theorem z_slk : ∀ i : Nat, i < 16 → z_sl.getD i 0 < 100 := by decide
theorem z_sbk : ∀ i : Nat, i < 16 → ∀ j : Nat, j < 100 → Int32.ofInt (w8 (z_sby i j)) = (z_sb.getD i []).getD j 0 := by decide +kernel
theorem z_at.get {H : Heap} {U : State} {a n : Int} {f : Int → Int} (h50 : 50 ≤ t) (h57 : t < 57) (hr : z_rep D G h H) (hw : z_wd D U) (ha : z_at D G h a t n f) : ¬ a = -1 ∧ 0 ≤ n ∧ n < 2147483648 ∧ ∃ cell : Cell, H[z_ad D a]? = some cell ∧ U.isArrayOf cell (z_ety t) ∧ cell.vm ≠ .unknown ∧ n.toNat ≤ cell.slots.size ∧ cell.slots.size.toInt32 = Int32.ofInt n ∧ ∀ j : Nat, j < n.toNat → cell.slots[j]? = some (z_v D (z_kd (z_ety t)) (f j)) := by
  have ofI : ∀ {n : Int}, 0 ≤ n → n < 2147483648 → n.toNat.toInt32 = Int32.ofInt n := fun {n} n1 n2 => by
    apply Int32.toInt_inj.mp
    rw [show n.toNat.toInt32 = nI n.toNat from rfl, nI_toInt (by omega), w32_of, w32_id ⟨by omega, n2⟩]
    omega
  rcases ha with ⟨h1, rfl, rfl⟩ | ⟨c, h1, h2, rfl, h3⟩ | ⟨i, h1, rfl, rfl, rfl, rfl⟩
  · obtain ⟨cell, q1, q2⟩ := hr.at h1
    obtain ⟨n1, n2, rfl⟩ := z_arr h50 q2
    exact ⟨by have := h1.1; omega, n1, n2, _, q1, (hw.1.2 _ _ (z_tyat h50 h57)).1 _ _, (fun h => by cases h), (by rw [arrV_size]; exact Nat.le_refl _), (by rw [arrV_size]; exact ofI n1 n2), fun j hj => arrV_read _ _ hj⟩
  · obtain ⟨n1, n2, cell, q2, q3, q4, q5, q6, q7, q8⟩ := hw.2.2.1 c h1 h2
    rw [h3] at n1 n2 q3 q5 q6 q7
    have e : z_ad D (-(c : Int)) = D.2.2.2.2.1 c := by
      unfold z_ad
      rw [if_neg (by omega)]
      simp
    exact ⟨by omega, n1, n2, cell, by rw [e, hr.2.1 _ (Nat.not_le.mp q8)]; exact q2, q3, q4, q5, q6.trans (ofI n1 n2), q7⟩
  · obtain ⟨cell, q2, q3, q4, q5, q6, q7, q8⟩ := (hw.2.2.2.1.1 i h1).2.2.2
    have lk := z_slk i h1
    have e : z_ad D (-(30 + (i : Int))) = D.2.2.2.2.1 (30 + i) := by
      unfold z_ad
      rw [if_neg (by omega), show (-(-(30 + (i : Int)))).toNat = 30 + i by omega]
    have n2 : ((z_sl.getD i 0 : Nat) : Int) < 2147483648 := by omega
    have en : ((z_sl.getD i 0 : Nat) : Int).toNat = z_sl.getD i 0 := by omega
    refine ⟨by omega, by omega, n2, cell, by rw [e, hr.2.1 _ (Nat.not_le.mp q8)]; exact q2, q3, q4, by rw [en]; exact q5, ?_, fun j hj => ?_⟩
    · have := ofI (n := ((z_sl.getD i 0 : Nat) : Int)) (by omega) n2
      rw [en] at this
      exact q6.trans this
    · rw [en] at hj
      rw [q7 j hj]
      show some (Value.int ((z_sb.getD i []).getD j 0)) = some (Value.int (Int32.ofInt (w8 (z_sby i j))))
      rw [z_sbk i h1 j (by omega)]
theorem z_idc {i n : Int} {cell : Cell} (h0 : 0 ≤ i) (h1 : i < n) (h2 : n < 2147483648) (hz : n.toNat ≤ cell.slots.size) : ¬ (Int32.ofInt i < 0 ∨ cell.slots.size ≤ (Int32.ofInt i).toNatClampNeg) := by
  rw [i_clamp h0 (by omega)]
  intro h
  rcases h with h | h
  · exact i_nneg h0 (by omega) h
  · omega
theorem z_rdc {i n : Int} {cell : Cell} {k : Nat} {f : Int → Int} (h0 : 0 ≤ i) (h1 : i < n) (h2 : n < 2147483648) (hs : ∀ j : Nat, j < n.toNat → cell.slots[j]? = some (z_v D k (f j))) : cell.slots[(Int32.ofInt i).toNatClampNeg]? = some (z_v D k (f i)) := by
  rw [i_clamp h0 (by omega), hs _ (by omega), Int.toNat_of_nonneg h0]
theorem z_idx {i n : Int} (h0 : 0 ≤ i) (h1 : i < n) (h2 : n < 2147483648) (c : ClassId) (z : Nat → Value) : ¬ (Int32.ofInt i < 0 ∨ (arrV c n.toNat z).slots.size ≤ (Int32.ofInt i).toNatClampNeg) := by
  rw [arrV_size, i_clamp h0 (by omega)]
  intro h
  rcases h with h | h
  · exact i_nneg h0 (by omega) h
  · omega
theorem z_alen {a n : Int} {f : Int → Int} (t : Nat) (h50 : 50 ≤ t) (h57 : t < 57) (ha : z_at D G h a t n f) (hd : decode M.2.1 pc = .ok (.arraylength, 1)) (hq : pc + 1 = q) (kk : z_F D M d q L ((0, n) :: st) G h Q) : z_F D M d pc L ((2, a) :: st) G h Q := by
  subst hq
  refine z_pure (fun cx hr hl kk => ?_) kk
  obtain ⟨hne, n1, n2, cell, q1, q2, q3, q4, q5, q6⟩ := ha.get h50 h57 hr cx.wd
  rw [z_sc_ref hne]
  exact W.alen cx.1 cx.2.1 q1 q2 q5 rfl rfl hd (kk _ hl)
theorem z_iald {a i n : Int} {f : Int → Int} (ha : z_at D G h a 50 n f) (h0 : 0 ≤ i) (h1 : i < n) (hd : decode M.2.1 pc = .ok (.iaload, 1)) (hq : pc + 1 = q) (kk : z_F D M d q L ((0, f i) :: st) G h Q) : z_F D M d pc L ((0, i) :: (2, a) :: st) G h Q := by
  subst hq
  refine z_pure (fun cx hr hl kk => ?_) kk
  obtain ⟨hne, n1, n2, cell, q1, q2, q3, q4, q5, q6⟩ := ha.get (by decide) (by decide) hr cx.wd
  show W _ _ _ _ _ _ _ _ _ _ _ _ _ _ _ (F0 _ _ _ (.int (Int32.ofInt i) :: z_sc D ((2, a) :: st)))
  rw [z_sc_ref hne]
  exact W.iald cx.1 cx.2.1 q1 q2 q3 (z_idc h0 h1 n2 q4) (z_rdc h0 h1 n2 q6) rfl rfl hd (kk _ hl)
theorem z_lald {a i n : Int} {f : Int → Int} (ha : z_at D G h a 51 n f) (h0 : 0 ≤ i) (h1 : i < n) (hd : decode M.2.1 pc = .ok (.laload, 1)) (hq : pc + 1 = q) (kk : z_F D M d q L ((1, f i) :: st) G h Q) : z_F D M d pc L ((0, i) :: (2, a) :: st) G h Q := by
  subst hq
  refine z_pure (fun cx hr hl kk => ?_) kk
  obtain ⟨hne, n1, n2, cell, q1, q2, q3, q4, q5, q6⟩ := ha.get (by decide) (by decide) hr cx.wd
  show W _ _ _ _ _ _ _ _ _ _ _ _ _ _ _ (F0 _ _ _ (.int (Int32.ofInt i) :: z_sc D ((2, a) :: st)))
  rw [z_sc_ref hne]
  exact W.lald cx.1 cx.2.1 q1 q2 q3 (z_idc h0 h1 n2 q4) (z_rdc h0 h1 n2 q6) rfl rfl hd (kk _ hl)
theorem z_bald {a i n : Int} {f : Int → Int} (ha : z_at D G h a 52 n f) (h0 : 0 ≤ i) (h1 : i < n) (hd : decode M.2.1 pc = .ok (.baload, 1)) (hq : pc + 1 = q) (kk : z_F D M d q L ((0, w8 (f i)) :: st) G h Q) : z_F D M d pc L ((0, i) :: (2, a) :: st) G h Q := by
  subst hq
  refine z_pure (fun cx hr hl kk => ?_) kk
  obtain ⟨hne, n1, n2, cell, q1, q2, q3, q4, q5, q6⟩ := ha.get (by decide) (by decide) hr cx.wd
  show W _ _ _ _ _ _ _ _ _ _ _ _ _ _ _ (F0 _ _ _ (.int (Int32.ofInt i) :: z_sc D ((2, a) :: st)))
  rw [z_sc_ref hne]
  exact W.bald cx.1 cx.2.1 q1 q2 q3 (z_idc h0 h1 n2 q4) (z_rdc h0 h1 n2 q6) rfl rfl hd (kk _ hl)
theorem z_zald {a i n : Int} {f : Int → Int} (ha : z_at D G h a 53 n f) (h0 : 0 ≤ i) (h1 : i < n) (hd : decode M.2.1 pc = .ok (.baload, 1)) (hq : pc + 1 = q) (kk : z_F D M d q L ((0, f i % 2) :: st) G h Q) : z_F D M d pc L ((0, i) :: (2, a) :: st) G h Q := by
  subst hq
  refine z_pure (fun cx hr hl kk => ?_) kk
  obtain ⟨hne, n1, n2, cell, q1, q2, q3, q4, q5, q6⟩ := ha.get (by decide) (by decide) hr cx.wd
  show W _ _ _ _ _ _ _ _ _ _ _ _ _ _ _ (F0 _ _ _ (.int (Int32.ofInt i) :: z_sc D ((2, a) :: st)))
  rw [z_sc_ref hne]
  exact W.zald cx.1 cx.2.1 q1 q2 q3 (z_idc h0 h1 n2 q4) (z_rdc h0 h1 n2 q6) rfl rfl hd (kk _ hl)
theorem z_ety_ref {t : Nat} (h1 : 54 ≤ t) (h2 : t < 57) : ∃ C, z_ety t = .object C := by
  have : t = 54 ∨ t = 55 ∨ t = 56 := by omega
  rcases this with rfl | rfl | rfl <;> exact ⟨_, rfl⟩
theorem z_aald {a i n : Int} {f : Int → Int} (t : Nat) (h54 : 54 ≤ t) (h57 : t < 57) (ha : z_at D G h a t n f) (h0 : 0 ≤ i) (h1 : i < n) (hd : decode M.2.1 pc = .ok (.aaload, 1)) (hq : pc + 1 = q) (kk : z_F D M d q L ((2, f i) :: st) G h Q) : z_F D M d pc L ((0, i) :: (2, a) :: st) G h Q := by
  subst hq
  refine z_pure (fun cx hr hl kk => ?_) kk
  obtain ⟨hne, n1, n2, cell, q1, q2, q3, q4, q5, q6⟩ := ha.get (by omega) h57 hr cx.wd
  show W _ _ _ _ _ _ _ _ _ _ _ _ _ _ _ (F0 _ _ _ (.int (Int32.ofInt i) :: z_sc D ((2, a) :: st)))
  rw [z_sc_ref hne]
  obtain ⟨C, hC⟩ := z_ety_ref h54 h57
  refine W.aald cx.1 cx.2.1 q1 q2 (by rw [hC]; rfl) q3 (z_idc h0 h1 n2 q4) (z_rdc h0 h1 n2 q6) rfl rfl hd ?_
  rw [hC]
  exact kk _ hl
/-- behind a store into a row -/
theorem z_rep.ast {H H' : Heap} {t : Nat} {kk : Nat} {a i x : Int} (hr : z_rep D G h H) (h50 : 50 ≤ t) (ha : z_is G a t) (h0 : 0 ≤ i) (h1 : i < G.2.2.2 a) (hv : z_v D (z_kd (z_ety t)) x = z_v D kk x) (hsz : H'.size = H.size) (ho : ∀ q, q ≠ z_ad D a → H'[q]? = H[q]?) {cell : Cell} (hc : H[z_ad D a]? = some cell) (h2 : H'[z_ad D a]? = some (cell.setSlot (Int32.ofInt i).toNatClampNeg (z_v D kk x))) : z_rep D G (z_wr h a i x) H' := by
  rw [z_wr_eq]
  obtain ⟨cell', q1, q2⟩ := hr.at ha
  cases hc.symm.trans q1
  obtain ⟨n1, n2, rfl⟩ := z_arr h50 q2
  refine hr.upd ha hsz ho h2 ?_
  unfold z_cell
  rw [if_neg (by omega)]
  refine ⟨n1, n2, ?_⟩
  rw [i_clamp h0 (by omega), arrV_store]
  congr 1
  funext j
  unfold updV
  by_cases e : j = i.toNat
  · subst e
    rw [if_pos rfl]
    simp only [Int.toNat_of_nonneg h0, if_true]
    exact hv.symm
  · rw [if_neg e]
    have e' : ¬ (j : Int) = i := by omega
    simp only [e', if_false]
theorem z_locs {a : Int} {j : Nat} {locs : List Loc} (ha : 0 ≤ a) (hlo : ∀ q ∈ locs, D.1.size ≤ q.base) : ∀ q ∈ locs ++ [(⟨z_ad D a, j⟩ : Loc)], D.1.size ≤ q.base := by
  intro q hq
  rcases List.mem_append.mp hq with h1 | h1
  · exact hlo q h1
  · simp only [List.mem_singleton] at h1
    subst h1
    show D.1.size ≤ z_ad D a
    rw [z_ad_pos ha]
    omega
theorem z_iast {a i x : Int} (ha : z_is G a 50) (h0 : 0 ≤ i) (h1 : i < G.2.2.2 a) (hd : decode M.2.1 pc = .ok (.iastore, 1)) (hq : pc + 1 = q) (kn : z_F D M d q L st G (z_wr h a i x) Q) : z_F D M d pc L ((0, x) :: (0, i) :: (2, a) :: st) G h Q := by
  subst hq
  refine z_step (fun cx hr hl hlo kn => ?_) kn
  obtain ⟨cell, q1, q2⟩ := hr.at ha
  have q3 := q1
  obtain ⟨n1, n2, rfl⟩ := z_arr (by decide) q2
  show W _ _ _ _ _ _ _ _ _ _ _ _ _ _ _ (F0 _ _ _ (.int (Int32.ofInt x) :: .int (Int32.ofInt i) :: z_sc D ((2, a) :: st)))
  rw [z_ad_ref ha.1]
  exact W.iast cx.1 cx.2.1 q1 ((cx.K.2 _ _ (z_tyat (by decide) (by decide))).1 _ _) (fun h => by cases h) (z_idx h0 h1 n2 _ _) rfl rfl hd fun H' e1 e2 e3 => kn H' _ (hr.ast (kk := 0) (by decide) ha h0 h1 rfl e2 e3 q3 e1) (z_locs ha.1 hlo)
theorem z_last {a i x : Int} (ha : z_is G a 51) (h0 : 0 ≤ i) (h1 : i < G.2.2.2 a) (hd : decode M.2.1 pc = .ok (.lastore, 1)) (hq : pc + 1 = q) (kn : z_F D M d q L st G (z_wr h a i x) Q) : z_F D M d pc L ((1, x) :: (0, i) :: (2, a) :: st) G h Q := by
  subst hq
  refine z_step (fun cx hr hl hlo kn => ?_) kn
  obtain ⟨cell, q1, q2⟩ := hr.at ha
  have q3 := q1
  obtain ⟨n1, n2, rfl⟩ := z_arr (by decide) q2
  show W _ _ _ _ _ _ _ _ _ _ _ _ _ _ _ (F0 _ _ _ (.long (Int64.ofInt x) :: .int (Int32.ofInt i) :: z_sc D ((2, a) :: st)))
  rw [z_ad_ref ha.1]
  exact W.last cx.1 cx.2.1 q1 ((cx.K.2 _ _ (z_tyat (by decide) (by decide))).1 _ _) (fun h => by cases h) (z_idx h0 h1 n2 _ _) rfl rfl hd fun H' e1 e2 e3 => kn H' _ (hr.ast (kk := 1) (by decide) ha h0 h1 rfl e2 e3 q3 e1) (z_locs ha.1 hlo)
theorem z_bast {a i x : Int} (ha : z_is G a 52) (h0 : 0 ≤ i) (h1 : i < G.2.2.2 a) (hd : decode M.2.1 pc = .ok (.bastore, 1)) (hq : pc + 1 = q) (kn : z_F D M d q L st G (z_wr h a i x) Q) : z_F D M d pc L ((0, x) :: (0, i) :: (2, a) :: st) G h Q := by
  subst hq
  refine z_step (fun cx hr hl hlo kn => ?_) kn
  obtain ⟨cell, q1, q2⟩ := hr.at ha
  have q3 := q1
  obtain ⟨n1, n2, rfl⟩ := z_arr (by decide) q2
  show W _ _ _ _ _ _ _ _ _ _ _ _ _ _ _ (F0 _ _ _ (.int (Int32.ofInt x) :: .int (Int32.ofInt i) :: z_sc D ((2, a) :: st)))
  rw [z_ad_ref ha.1]
  exact W.bast cx.1 cx.2.1 q1 ((cx.K.2 _ _ (z_tyat (by decide) (by decide))).1 _ _) (fun h => by cases h) (z_idx h0 h1 n2 _ _) rfl rfl hd fun H' e1 e2 e3 => kn H' _ (hr.ast (kk := 3) (by decide) ha h0 h1 rfl e2 e3 q3 (by rw [e1]; congr 2; show Value.int _ = Value.int _; rw [w_i2b])) (z_locs ha.1 hlo)
theorem z_zast {a i x : Int} (hx : x = 0 ∨ x = 1) (ha : z_is G a 53) (h0 : 0 ≤ i) (h1 : i < G.2.2.2 a) (hd : decode M.2.1 pc = .ok (.bastore, 1)) (hq : pc + 1 = q) (kn : z_F D M d q L st G (z_wr h a i x) Q) : z_F D M d pc L ((0, x) :: (0, i) :: (2, a) :: st) G h Q := by
  subst hq
  refine z_step (fun cx hr hl hlo kn => ?_) kn
  obtain ⟨cell, q1, q2⟩ := hr.at ha
  have q3 := q1
  obtain ⟨n1, n2, rfl⟩ := z_arr (by decide) q2
  show W _ _ _ _ _ _ _ _ _ _ _ _ _ _ _ (F0 _ _ _ (.int (Int32.ofInt x) :: .int (Int32.ofInt i) :: z_sc D ((2, a) :: st)))
  rw [z_ad_ref ha.1]
  exact W.zast cx.1 cx.2.1 q1 ((cx.K.2 _ _ (z_tyat (by decide) (by decide))).1 _ _) (fun h => by cases h) (z_idx h0 h1 n2 _ _) rfl rfl hd fun H' e1 e2 e3 => kn H' _ (hr.ast (kk := 0) (by decide) ha h0 h1 (by rcases hx with rfl | rfl <;> rfl) e2 e3 q3 (by rw [e1]; congr 2; exact w_bool x hx)) (z_locs ha.1 hlo)
/-- the class of what a row of references takes -/
def z_ecl (t : Nat) : Nat := match t with
  | 54 => 3 | 55 => 7 | _ => 1
theorem z_ecl_ok {t : Nat} (h1 : 54 ≤ t) (h2 : t < 57) : ∃ r : vw_C, zcl[z_ecl t]? = some r ∧ z_ety t = .object r.1 := by
  have : t = 54 ∨ t = 55 ∨ t = 56 := by omega
  rcases this with rfl | rfl | rfl <;> exact ⟨_, rfl, rfl⟩
theorem z_aast {a i x : Int} (t : Nat) (h54 : 54 ≤ t) (h57 : t < 57) (ha : z_is G a t) (hx : z_is G x (z_ecl t)) (h0 : 0 ≤ i) (h1 : i < G.2.2.2 a) (hd : decode M.2.1 pc = .ok (.aastore, 1)) (hq : pc + 1 = q) (kn : z_F D M d q L st G (z_wr h a i x) Q) : z_F D M d pc L ((2, x) :: (0, i) :: (2, a) :: st) G h Q := by
  subst hq
  refine z_step (fun cx hr hl hlo kn => ?_) kn
  obtain ⟨cell, q1, q2⟩ := hr.at ha
  have q3 := q1
  obtain ⟨n1, n2, rfl⟩ := z_arr (by omega) q2
  obtain ⟨cx1, p1, p2⟩ := hr.at hx
  obtain ⟨r, e1, e2⟩ := z_ecl_ok h54 h57
  have ht : z_ecl t < 50 := by unfold z_ecl; split <;> omega
  unfold z_cell at p2
  rw [if_pos ht] at p2
  obtain ⟨r', r1, r2, r3, r4⟩ := p2
  have hcls := (cx.K.1 (z_ecl t) r e1).2
  have htt := cx.K.2 _ _ (z_tyat (D := D) (by omega) h57)
  rw [e2] at htt
  obtain ⟨kA, comp, k1, k2, k3, -⟩ := htt.2
  have hcomp : comp = D.2.1 (z_ecl t) := Option.some.inj (k3.symm.trans hcls.1)
  subst hcomp
  obtain ⟨kC, hkC, -⟩ := hcls.2
  rw [z_ad_ref hx.1]
  show W _ _ _ _ _ _ _ _ _ _ _ _ _ _ _ (F0 _ _ _ (.ref (z_ad D x) :: .int (Int32.ofInt i) :: z_sc D ((2, a) :: st)))
  rw [z_ad_ref ha.1]
  have hin := z_idx (i := i) (n := G.2.2.2 a) h0 h1 n2 (D.2.2.2.1 t) (fun j => z_v D (z_kd (z_ety t)) (h a j))
  refine W.aast cx.1 cx.2.1 q1 (fun q h => by cases h) (fun h => by cases h) k1 k2 rfl hkC ⟨fun h => hin (Or.inl h), Nat.not_le.mp fun h => hin (Or.inr h)⟩ p1 (fun q h => by rw [r3] at h; cases h) (by rw [r2]; exact hkC) (by rw [r2]; exact va_assign hcls) rfl rfl hd fun H' e1' e2' e3' => kn H' _ (hr.ast (kk := 2) (by omega) ha h0 h1 (by rw [e2]; rfl) e2' e3' q3 (by rw [e1', z_vref D (by have := hx.1; omega)])) (z_locs ha.1 hlo)
theorem z_gets {c : Nat} {C n ds : String} (hm : (C, n, ds, c) ∈ z_sts) (hc : 2 ≤ c) (hl : Cond.fieldLink M.1.cls idx C n ds ∈ zT) (hd : decode M.2.1 pc = .ok (.getstatic idx, 3)) (hq : pc + 3 = q) (kk : z_F D M d q L ((2, -(c : Int)) :: st) G h Q) : z_F D M d pc L st G h Q := by
  subst hq
  refine z_pure (fun cx hr hl' kk => ?_) kk
  obtain ⟨cf, kf, fi, f, a, cell, h1, h2, h3, h4, h5, h6, h7, h8⟩ := cx.wd.2.1 _ hm
  have hlt : a < D.1.size := Nat.not_le.mp h8
  refine W.gets cx.1 cx.2.1 cx.own (cx.hts _ hl) h1 h2 h3 h4 (by rw [hr.2.1 a hlt]; exact h5) (fun e => by rw [e] at h6; cases h6) h7 rfl hd ?_
  have := kk _ hl'
  rw [z_sc_ref (by omega)] at this
  have e : z_ad D (-(c : Int)) = D.2.2.2.2.1 c := by
    unfold z_ad
    rw [if_neg (by omega)]
    simp
  rw [e] at this
  exact this
end Rows
