theorem nle {a b : Nat} (h : Nat.ble a b = true) : a ≤ b := Nat.le_of_ble_eq_true h
section Help
variable {D : zD} {M M2 : zM} {d d2 pc q t idx k : Nat} {L : List (Nat × zV)} {st av rest : List zV} {G G1 : zG} {h h1 : zH} {o : zO} {Q Q2 : zO → zG → zH → Prop}
theorem lay.i (hl : lay G h) (a : Int) {t : Nat} {n : Int} (h0 : 0 ≤ a) (ha : lay_t[a.toNat]? = some (t, n)) : z_is G a t := by
  have := hl.is a.toNat ha
  rwa [Int.toNat_of_nonneg h0] at this
theorem lay.n (hl : lay G h) (a : Int) {t : Nat} {n : Int} (h0 : 0 ≤ a) (ha : lay_t[a.toNat]? = some (t, n)) : G.2.2.2 a = n := by
  have := hl.ln a.toNat ha
  rwa [Int.toNat_of_nonneg h0] at this
theorem lay.a (hl : lay G h) (a : Int) {t : Nat} {n : Int} (h0 : 0 ≤ a) (ha : lay_t[a.toNat]? = some (t, n)) : z_at D G h a t n (h a) := Or.inl ⟨hl.i a h0 ha, hl.n a h0 ha, rfl⟩
theorem lay.ti (hl : lay G h) {t : Int} (ht : z_is G t 3) : z_is G (t + 1) 51 := (hl.2.2.2.1 t ht).2.1
theorem lay.tn (hl : lay G h) {t : Int} (ht : z_is G t 3) : G.2.2.2 (t + 1) = 72 := (hl.2.2.2.1 t ht).2.2
theorem lay.wi (hl : lay G h) {t : Int} (ht : z_is G t 7) : z_is G (t + 1) 50 := (hl.2.2.2.2 t ht).2.1
theorem lay.wn (hl : lay G h) {t : Int} (ht : z_is G t 7) : G.2.2.2 (t + 1) = 12 := (hl.2.2.2.2 t ht).2.2
theorem z_ati {a : Int} (ha : z_is G a t) : z_at D G h a t (G.2.2.2 a) (h a) := Or.inl ⟨ha, rfl, rfl⟩
theorem i8 {P : Int → Prop} (h0 : P 0) (h1 : P 1) (h2 : P 2) (h3 : P 3) (h4 : P 4) (h5 : P 5) (h6 : P 6) (h7 : P 7) {i : Int} (l : 0 ≤ i) (u : i < 8) : P i := by
  have : i = 0 ∨ i = 1 ∨ i = 2 ∨ i = 3 ∨ i = 4 ∨ i = 5 ∨ i = 6 ∨ i = 7 := by omega
  rcases this with rfl | rfl | rfl | rfl | rfl | rfl | rfl | rfl <;> assumption
theorem lay.m (hl : lay G h) {q : Int × Int × Int} (hq : q ∈ lay_r) : h q.1 q.2.1 = q.2.2 := hl.2.2.1 q hq
theorem lay.tb (hl : lay G h) {i : Int} (l : 0 ≤ i) (u : i < 8) : h 1 i = 56 + 4 * i := by
  refine i8 (P := fun i => h 1 i = 56 + 4 * i) ?_ ?_ ?_ ?_ ?_ ?_ ?_ ?_ l u
  · exact hl.m (q := (1, 0, 56)) (by decide)
  · exact hl.m (q := (1, 1, 60)) (by decide)
  · exact hl.m (q := (1, 2, 64)) (by decide)
  · exact hl.m (q := (1, 3, 68)) (by decide)
  · exact hl.m (q := (1, 4, 72)) (by decide)
  · exact hl.m (q := (1, 5, 76)) (by decide)
  · exact hl.m (q := (1, 6, 80)) (by decide)
  · exact hl.m (q := (1, 7, 84)) (by decide)
theorem lay.wy (hl : lay G h) {i : Int} (l : 0 ≤ i) (u : i < 8) : h 2 i = 58 + 4 * i := by
  refine i8 (P := fun i => h 2 i = 58 + 4 * i) ?_ ?_ ?_ ?_ ?_ ?_ ?_ ?_ l u
  · exact hl.m (q := (2, 0, 58)) (by decide)
  · exact hl.m (q := (2, 1, 62)) (by decide)
  · exact hl.m (q := (2, 2, 66)) (by decide)
  · exact hl.m (q := (2, 3, 70)) (by decide)
  · exact hl.m (q := (2, 4, 74)) (by decide)
  · exact hl.m (q := (2, 5, 78)) (by decide)
  · exact hl.m (q := (2, 6, 82)) (by decide)
  · exact hl.m (q := (2, 7, 86)) (by decide)
theorem lay.tbi (hl : lay G h) {i : Int} (l : 0 ≤ i) (u : i < 8) : z_is G (56 + 4 * i) 3 := by
  refine i8 (P := fun i => z_is G (56 + 4 * i) 3) ?_ ?_ ?_ ?_ ?_ ?_ ?_ ?_ l u
  · exact hl.i 56 (by decide) rfl
  · exact hl.i 60 (by decide) rfl
  · exact hl.i 64 (by decide) rfl
  · exact hl.i 68 (by decide) rfl
  · exact hl.i 72 (by decide) rfl
  · exact hl.i 76 (by decide) rfl
  · exact hl.i 80 (by decide) rfl
  · exact hl.i 84 (by decide) rfl
theorem lay.wyi (hl : lay G h) {i : Int} (l : 0 ≤ i) (u : i < 8) : z_is G (58 + 4 * i) 7 := by
  refine i8 (P := fun i => z_is G (58 + 4 * i) 7) ?_ ?_ ?_ ?_ ?_ ?_ ?_ ?_ l u
  · exact hl.i 58 (by decide) rfl
  · exact hl.i 62 (by decide) rfl
  · exact hl.i 66 (by decide) rfl
  · exact hl.i 70 (by decide) rfl
  · exact hl.i 74 (by decide) rfl
  · exact hl.i 78 (by decide) rfl
  · exact hl.i 82 (by decide) rfl
  · exact hl.i 86 (by decide) rfl
theorem z_c2 : z_at D G h (-2) 50 4 (z_list [45, 58, 47, 46]) := Or.inr (Or.inl ⟨2, by decide, by decide, rfl, rfl⟩)
theorem z_c3 : z_at D G h (-3) 50 15 (z_list [0, 0, 1, 2, 1, 2, 1, 0, 1, 0, 1, 3, 1, 0, 1]) := Or.inr (Or.inl ⟨3, by decide, by decide, rfl, rfl⟩)
theorem z_c4 : z_at D G h (-4) 51 6 (z_list [0, 97, 98, 6368610, 49, 50]) := Or.inr (Or.inl ⟨4, by decide, by decide, rfl, rfl⟩)
theorem z_c5 : z_at D G h (-5) 51 6 (z_list [0, 97, 98, 6368610, 49, 50]) := Or.inr (Or.inl ⟨5, by decide, by decide, rfl, rfl⟩)
theorem z_aale {a i n v : Int} {f : Int → Int} (t : Nat) (h54 : 54 ≤ t) (h57 : t < 57) (ha : z_at D G h a t n f) (h0 : 0 ≤ i) (h1 : i < n) (hv : f i = v) (hd : decode M.2.1 pc = .ok (.aaload, 1)) (hq : pc + 1 = q) (kk : z_F D M d q L ((2, v) :: st) G h Q) : z_F D M d pc L ((0, i) :: (2, a) :: st) G h Q := by
  subst hv
  exact z_aald t h54 h57 ha h0 h1 hd hq kk
theorem z_isn {a i x n : Int} (ha : z_is G a 50) (hn : G.2.2.2 a = n) (h0 : 0 ≤ i) (h1 : i < n) (hd : decode M.2.1 pc = .ok (.iastore, 1)) (hq : pc + 1 = q) (kn : z_F D M d q L st G (z_wr h a i x) Q) : z_F D M d pc L ((0, x) :: (0, i) :: (2, a) :: st) G h Q := z_iast ha h0 (by rw [hn]; exact h1) hd hq kn
theorem z_lsn {a i x n : Int} (ha : z_is G a 51) (hn : G.2.2.2 a = n) (h0 : 0 ≤ i) (h1 : i < n) (hd : decode M.2.1 pc = .ok (.lastore, 1)) (hq : pc + 1 = q) (kn : z_F D M d q L st G (z_wr h a i x) Q) : z_F D M d pc L ((1, x) :: (0, i) :: (2, a) :: st) G h Q := z_last ha h0 (by rw [hn]; exact h1) hd hq kn
theorem z_bsn {a i x n : Int} (ha : z_is G a 52) (hn : G.2.2.2 a = n) (h0 : 0 ≤ i) (h1 : i < n) (hd : decode M.2.1 pc = .ok (.bastore, 1)) (hq : pc + 1 = q) (kn : z_F D M d q L st G (z_wr h a i x) Q) : z_F D M d pc L ((0, x) :: (0, i) :: (2, a) :: st) G h Q := z_bast ha h0 (by rw [hn]; exact h1) hd hq kn
theorem z_zsn {a i x n : Int} (hx : x = 0 ∨ x = 1) (ha : z_is G a 53) (hn : G.2.2.2 a = n) (h0 : 0 ≤ i) (h1 : i < n) (hd : decode M.2.1 pc = .ok (.bastore, 1)) (hq : pc + 1 = q) (kn : z_F D M d q L st G (z_wr h a i x) Q) : z_F D M d pc L ((0, x) :: (0, i) :: (2, a) :: st) G h Q := z_zast hx ha h0 (by rw [hn]; exact h1) hd hq kn
theorem z_asn {a i x n : Int} (t : Nat) (h54 : 54 ≤ t) (h57 : t < 57) (ha : z_is G a t) (hx : z_is G x (z_ecl t)) (hn : G.2.2.2 a = n) (h0 : 0 ≤ i) (h1 : i < n) (hd : decode M.2.1 pc = .ok (.aastore, 1)) (hq : pc + 1 = q) (kn : z_F D M d q L st G (z_wr h a i x) Q) : z_F D M d pc L ((2, x) :: (0, i) :: (2, a) :: st) G h Q := z_aast t h54 h57 ha hx h0 (by rw [hn]; exact h1) hd hq kn
theorem z_Y.out {a : Int} {Q : zO → zG → zH → Prop} (hout : M.2.2.2.2.all (fun q => !(decide (q.1 ≤ pc) && decide (pc < q.2.1))) = true) (hQ : Q (.inr a) G h) : z_YT D M d pc L st G h a Q := fun hl => z_T.out hout ⟨hl, hQ⟩
theorem z_Y.catch {a : Int} {s0 e0 hp ct : Nat} {C : String} {T : u_T} {N : Nat} {Q : zO → zG → zH → Prop} (hM : M.2.2.2.2 = [(s0, e0, hp, ct)]) (h1 : s0 ≤ pc) (h2 : pc < e0) (h0 : ct ≠ 0) (hcb : z_cb t C T N) (ha : z_is G a t) (hl : Cond.classLink M.1.cls ct C ∈ zT) (k : z_Y D M d hp L [(2, a)] G h Q) : z_YT D M d pc L st G h a Q := fun hy => z_T.catch hM h1 h2 h0 hcb.1 hcb.2.1 ha hl (k hy)
theorem z_sv0 {ty : FieldType} {x : Int} (h : z_kd ty = 0) : z_sv 0 ty x := Or.inl ⟨h.symm, Or.inl rfl⟩
theorem z_sv1 {ty : FieldType} {x : Int} (h : z_kd ty = 1) : z_sv 1 ty x := Or.inl ⟨h.symm, Or.inr (Or.inl rfl)⟩
theorem z_sv2 {ty : FieldType} {x : Int} (h : z_kd ty = 2) : z_sv 2 ty x := Or.inl ⟨h.symm, Or.inr (Or.inr rfl)⟩
theorem z_sv4 {ty : FieldType} {x : Int} (h : z_kd ty = 4) (hx : x = 0 ∨ x = 1) : z_sv 0 ty x := Or.inr ⟨rfl, h, hx⟩
theorem z_gf {a ki : Int} {b : Bool} {v : zV} (hf : z_fl M.1.cls idx t k b) (hk : ((k : Nat) : Int) = ki) (hv : z_ld (z_kd (z_ty t k)) (h a ki) = v) (ha : z_is G a t) (hd : decode M.2.1 pc = .ok (.getfield idx, 3)) (hq : pc + 3 = q) (kk : z_F D M d q L (v :: st) G h Q) : z_F D M d pc L ((2, a) :: st) G h Q := by
  subst hk
  exact z_getf hf hv ha hd hq kk
theorem z_pf {a x ki : Int} {kk : Nat} (hf : z_fl M.1.cls idx t k false) (hk : ((k : Nat) : Int) = ki) (hs : z_sv kk (z_ty t k) x) (ha : z_is G a t) (hd : decode M.2.1 pc = .ok (.putfield idx, 3)) (hq : pc + 3 = q) (kn : z_F D M d q L st G (z_wr h a ki x) Q) : z_F D M d pc L ((kk, x) :: (2, a) :: st) G h Q := by
  subst hk
  exact z_putf hf hs ha hd hq kn
theorem z_ldi {t : Nat} {x v : Int} (ht : z_kd (z_ty t k) = 0) (hx : x = v) : z_ld (z_kd (z_ty t k)) x = (0, v) := by rw [ht, hx]; rfl
theorem z_ldl {t : Nat} {x v : Int} (ht : z_kd (z_ty t k) = 1) (hx : x = v) : z_ld (z_kd (z_ty t k)) x = (1, v) := by rw [ht, hx]; rfl
theorem z_ldz {t : Nat} {x v : Int} (ht : z_kd (z_ty t k) = 4) (hx : x = v) : z_ld (z_kd (z_ty t k)) x = (0, v % 2) := by rw [ht, hx]; rfl
theorem z_isne {a b : Int} {t u : Nat} (ha : z_is G a t) (hb : z_is G b u) (htu : t ≠ u) : ¬ a = b := by
  intro e
  subst e
  exact htu (ha.2.2.symm.trans hb.2.2)
theorem w_nj {a i v b j : Int} (hj : ¬ j = i) : z_wr h a i v b j = h b j := by
  unfold z_wr; rw [if_neg (fun q => hj q.2)]
theorem w_na {a i v b j : Int} (hb : ¬ b = a) : z_wr h a i v b j = h b j := by
  unfold z_wr; rw [if_neg (fun q => hb q.1)]
theorem w_s {a i v : Int} : z_wr h a i v a i = v := by
  unfold z_wr; rw [if_pos ⟨rfl, rfl⟩]
theorem c_na {a sp b dp n x j : Int} (hb : ¬ x = b) : z_cp h a sp b dp n x j = h x j := by
  unfold z_cp; rw [if_neg (fun q => hb q.1)]
theorem z_iale {a i n v : Int} {f : Int → Int} (ha : z_at D G h a 50 n f) (h0 : 0 ≤ i) (h1 : i < n) (hv : f i = v) (hd : decode M.2.1 pc = .ok (.iaload, 1)) (hq : pc + 1 = q) (kk : z_F D M d q L ((0, v) :: st) G h Q) : z_F D M d pc L ((0, i) :: (2, a) :: st) G h Q := by
  subst hv; exact z_iald ha h0 h1 hd hq kk
theorem z_lale {a i n v : Int} {f : Int → Int} (ha : z_at D G h a 51 n f) (h0 : 0 ≤ i) (h1 : i < n) (hv : f i = v) (hd : decode M.2.1 pc = .ok (.laload, 1)) (hq : pc + 1 = q) (kk : z_F D M d q L ((1, v) :: st) G h Q) : z_F D M d pc L ((0, i) :: (2, a) :: st) G h Q := by
  subst hv; exact z_lald ha h0 h1 hd hq kk
theorem z_bale {a i n v : Int} {f : Int → Int} (ha : z_at D G h a 52 n f) (h0 : 0 ≤ i) (h1 : i < n) (hv : f i = v) (hd : decode M.2.1 pc = .ok (.baload, 1)) (hq : pc + 1 = q) (kk : z_F D M d q L ((0, w8 v) :: st) G h Q) : z_F D M d pc L ((0, i) :: (2, a) :: st) G h Q := by
  subst hv; exact z_bald ha h0 h1 hd hq kk
theorem z_zale {a i n v : Int} {f : Int → Int} (ha : z_at D G h a 53 n f) (h0 : 0 ≤ i) (h1 : i < n) (hv : f i = v) (hd : decode M.2.1 pc = .ok (.baload, 1)) (hq : pc + 1 = q) (kk : z_F D M d q L ((0, v % 2) :: st) G h Q) : z_F D M d pc L ((0, i) :: (2, a) :: st) G h Q := by
  subst hv; exact z_zald ha h0 h1 hd hq kk
theorem ne1 {a b : Int} (h : ¬ a = b) : ¬ a + 1 = b + 1 := by omega
theorem nesy {a b : Int} (h : ¬ a = b) : ¬ b = a := fun e => h e.symm
end Help
