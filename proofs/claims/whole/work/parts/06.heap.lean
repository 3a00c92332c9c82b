section Heaps
variable {D : zD} {M : zM} {d pc q t idx k : Nat} {L : List (Nat × zV)} {st : List zV} {G : zG} {h : zH} {Q : zO → zG → zH → Prop}
def z_is (G : zG) (a : Int) (t : Nat) : Prop := 0 ≤ a ∧ a < (G.1 : Int) ∧ G.2.2.1 a = t
theorem z_ad_pos {a : Int} (h : 0 ≤ a) : z_ad D a = D.1.size + a.toNat := by simp [z_ad, h]
theorem z_rep.at {H : Heap} (hr : z_rep D G h H) {a : Int} (ha : z_is G a t) : ∃ cell, H[z_ad D a]? = some cell ∧ z_cell D t (G.2.2.2 a) (h a) cell := by
  obtain ⟨h0, h1, h2⟩ := ha
  obtain ⟨cell, h3, h4⟩ := hr.2.2 a.toNat (by omega)
  rw [Int.toNat_of_nonneg h0, h2] at h4
  exact ⟨cell, by rw [z_ad_pos h0]; exact h3, h4⟩
theorem z_rep.upd {H H' : Heap} (hr : z_rep D G h H) {a : Int} (ha : z_is G a t) (hsz : H'.size = H.size) (ho : ∀ q, q ≠ z_ad D a → H'[q]? = H[q]?) {f : Int → Int} {cell : Cell} (h1 : H'[z_ad D a]? = some cell) (h2 : z_cell D t (G.2.2.2 a) f cell) : z_rep D G (fun b => if b = a then f else h b) H' := by
  obtain ⟨q0, q1, q2⟩ := ha
  rw [z_ad_pos q0] at h1 ho
  refine ⟨hsz.trans hr.1, fun q hq => (ho q (by omega)).trans (hr.2.1 q hq), fun b hb => ?_⟩
  by_cases hba : (b : Int) = a
  · subst hba
    simp only [Int.toNat_natCast] at h1
    refine ⟨cell, h1, ?_⟩
    simp only [if_true, q2]
    exact h2
  · simp only [hba, if_false]
    obtain ⟨c', e1, e2⟩ := hr.2.2 b hb
    exact ⟨c', (ho _ (by omega)).trans e1, e2⟩
theorem z_wr_eq (h : zH) (a i v : Int) : z_wr h a i v = fun b => if b = a then (fun j => if j = i then v else h a j) else h b := by
  funext b j
  unfold z_wr
  by_cases h1 : b = a
  · subst h1; simp
  · simp [h1]
def z_ld (k : Nat) (x : Int) : zV := match k with
  | 3 => (0, w8 x)
  | 4 => (0, x % 2)
  | k => (k, x)
theorem z_ld_v (k : Nat) (hk : k < 5) (x : Int) : z_v D (z_ld k x).1 (z_ld k x).2 = z_v D k x := by
  match k, hk with
  | 0, _ => rfl
  | 1, _ => rfl
  | 2, _ => rfl
  | 3, _ => rfl
  | 4, _ => rfl
theorem z_kd_lt (t : FieldType) : z_kd t < 5 := by unfold z_kd; split <;> omega
def z_okt (t : FieldType) : Bool := match t with
  | .int => true | .long => true | .byte => true | .boolean => true | .object _ => true | .array _ => true | _ => false
/-- what the tables say of a class's fields -/
def z_cb (t : Nat) (C : String) (T : u_T) (N : Nat) : Prop := zcl[t]? = some (C, T, N) ∧ t < 50 ∧ (∀ w ∈ u_ws C T N, w ∈ zT) ∧ (∀ a, a < N → ∀ b, b < N → a ≠ b → (T a).2.1 ≠ (T b).2.1) ∧ (∀ k, k < N → parseFieldDescriptor (T k).2.2.1 = some (z_ty t k)) ∧ ∀ k, k < N → z_okt (z_ty t k) = true
def z_fl (own : String) (idx t k : Nat) (b : Bool) : Prop := ∃ C T N, z_cb t C T N ∧ k < N ∧ Cond.fieldLink own idx (T k).1 (T k).2.1 (T k).2.2.1 ∈ zT ∧ (T k).2.2.2 = b ∧ (b = true → (T k).1 = C)
/-- a step that changes the heap and makes nothing -/
theorem z_step {h1 : zH} {st' : List zV} (hs : ∀ {p l e R s m args below meth c H locs cells slots ls Qw}, z_cx D M d p l e R s m args below meth c → z_rep D G h H → lv_has ls M.2.2.1 (z_lc D L) → (∀ q ∈ locs, D.1.size ≤ q.base) →
      (∀ H' locs', z_rep D G h1 H' → (∀ q ∈ locs', D.1.size ≤ q.base) → W p l e R s m args below meth c H' locs' cells slots Qw (F0 m q ls (z_sc D st'))) → W p l e R s m args below meth c H locs cells slots Qw (F0 m pc ls (z_sc D st)))
    (k : z_F D M d q L st' G h1 Q) : z_F D M d pc L st G h Q := by
  obtain ⟨o, G', h', hq, e1, e2, hk⟩ := k
  refine ⟨o, G', h', hq, e1, e2, ?_⟩
  intro p l e R s m args below meth c H locs cells slots ls cx hc hsl hlo hr hl
  exact hs cx hr hl hlo fun H' locs' hr' hlo' => hk p l e R s m args below meth c H' locs' cells slots ls cx hc hsl hlo' hr' hl
theorem z_ad_ref {a : Int} (h : 0 ≤ a) : z_sc D ((2, a) :: st) = .ref (z_ad D a) :: z_sc D st := z_sc_ref (by omega)
theorem z_cx.K {p : Program} {l : Launch} {e : Env} {R : Room} {s : State} {m : MethodId} {args : Array Value} {below : List Frame} {meth : Method} {c : Code} (cx : z_cx D M d p l e R s m args below meth c) : va_K (D.2.1, D.2.2.1) zcl (z_tys D) s := cx.2.2.2.2.2.2.2.2.2.1.1
theorem z_cx.hts {p : Program} {l : Launch} {e : Env} {R : Room} {s : State} {m : MethodId} {args : Array Value} {below : List Frame} {meth : Method} {c : Code} (cx : z_cx D M d p l e R s m args below meth c) : ∀ w ∈ zT, w.before args s = true := cx.2.2.2.2.2.2.2.2.1
theorem z_cx.own {p : Program} {l : Launch} {e : Env} {R : Room} {s : State} {m : MethodId} {args : Array Value} {below : List Frame} {meth : Method} {c : Code} (cx : z_cx D M d p l e R s m args below meth c) : s.vm.findClass M.1.cls = some m.cls := cx.2.2.2.2.2.2.1
theorem z_cx.wd {p : Program} {l : Launch} {e : Env} {R : Room} {s : State} {m : MethodId} {args : Array Value} {below : List Frame} {meth : Method} {c : Code} (cx : z_cx D M d p l e R s m args below meth c) : z_wd D s := cx.2.2.2.2.2.2.2.2.2.1
theorem z_getf {a : Int} {b : Bool} {v : zV} (hf : z_fl M.1.cls idx t k b) (hv : z_ld (z_kd (z_ty t k)) (h a k) = v) (ha : z_is G a t) (hd : decode M.2.1 pc = .ok (.getfield idx, 3)) (hq : pc + 3 = q) (kk : z_F D M d q L (v :: st) G h Q) : z_F D M d pc L ((2, a) :: st) G h Q := by
  subst hq; subst hv
  refine z_pure (fun cx hr hl kk => ?_) kk
  obtain ⟨C, T, N, ⟨hc, ht, hin, hnm, hty, hok⟩, hk, hm, -⟩ := hf
  obtain ⟨cell, q1, q2⟩ := hr.at ha
  unfold z_cell at q2
  rw [if_pos ht] at q2
  obtain ⟨r, r1, r2, r3, r4⟩ := q2
  cases hc.symm.trans r1
  rw [z_ad_ref ha.1]
  obtain ⟨hS, hfc, kC, hkC, hkind⟩ := cx.K.1 t _ hc
  obtain ⟨cf, kf, fi, f, hi, hsl⟩ := hS k hk
  refine W.getf cx.1 cx.2.1 cx.own (cx.hts _ hm) hi (u_facts hfc hkC (u_lays cx.hts hin hk) hi).1 q1 (by rw [r3]; exact fun h => by cases h) (v := z_v D (z_kd (z_ty t k)) (h a k)) ?_ rfl rfl hd ?_
  · rw [hsl]; exact r4 k hk
  · have := kk _ hl
    simp only [z_sc, List.map_cons, z_ld_v _ (z_kd_lt _)] at this
    exact this
/-- the value that a store leaves -/
def z_sv (k : Nat) (ty : FieldType) (x : Int) : Prop := (k = z_kd ty ∧ (k = 0 ∨ k = 1 ∨ k = 2)) ∨ (k = 0 ∧ z_kd ty = 4 ∧ (x = 0 ∨ x = 1))
theorem z_sv_ok {kk : Nat} {ty : FieldType} {x : Int} (hs : z_sv kk ty x) (hok : z_okt ty = true) : narrow ty (z_v D kk x) = z_v D kk x ∧ fits ty (z_v D kk x) = true ∧ z_v D (z_kd ty) x = z_v D kk x := by
  rcases hs with ⟨rfl, h1⟩ | ⟨rfl, h1, h2⟩
  · refine ⟨?_, ?_, rfl⟩
    · cases ty <;> simp [z_okt, z_kd] at hok h1 ⊢ <;> first | rfl | (simp only [z_v]; split <;> rfl)
    · cases ty <;> simp [z_okt, z_kd] at hok h1 ⊢ <;> first | rfl | (simp only [z_v]; split <;> rfl)
  · have : ty = .boolean := by cases ty <;> simp [z_okt, z_kd] at hok h1 ⊢
    subst this
    refine ⟨w_bool x h2, w_boolf x h2, ?_⟩
    rcases h2 with rfl | rfl <;> rfl
theorem z_cell_set {a x : Int} {kk : Nat} {C : String} {T : u_T} {N : Nat} {cell : Cell} {s : State} {args : Array Value} {n : Int} {f : Int → Int} (hts : ∀ w ∈ zT, w.before args s = true) (hK : va_K (D.2.1, D.2.2.1) zcl (z_tys D) s) (hcb : z_cb t C T N) (hk : k < N) (h2 : z_cell D t n f cell) (hv : z_v D (z_kd (z_ty t k)) x = z_v D kk x) :
    z_cell D t n (fun j => if j = (k : Int) then x else f j) (cell.setSlot (D.2.2.1 t k) (z_v D kk x)) := by
  obtain ⟨hc, ht, hin, hnm, hty, hok⟩ := hcb
  unfold z_cell at h2 ⊢
  rw [if_pos ht] at h2 ⊢
  obtain ⟨r, r1, r2, r3, r4⟩ := h2
  cases hc.symm.trans r1
  refine ⟨_, r1, r2, r3, fun j hj => ?_⟩
  have hap := va_apart (own := C) hts hin (z_ty t) hty hnm hK hc
  have h3 := t_set r4 hap hk (z_v D kk x) j hj
  rw [h3]
  unfold updV
  by_cases e : j = k
  · subst e; simp [hv]
  · have e' : ¬ (j : Int) = (k : Int) := by omega
    simp [e, e']
theorem z_putf {a x : Int} {kk : Nat} (hf : z_fl M.1.cls idx t k false) (hs : z_sv kk (z_ty t k) x) (ha : z_is G a t) (hd : decode M.2.1 pc = .ok (.putfield idx, 3)) (hq : pc + 3 = q) (kn : z_F D M d q L st G (z_wr h a k x) Q) : z_F D M d pc L ((kk, x) :: (2, a) :: st) G h Q := by
  subst hq
  refine z_step (fun cx hr hl hlo kn => ?_) kn
  obtain ⟨C, T, N, hcb, hk, hm, hfin, -⟩ := hf
  obtain ⟨hc, ht, hin, hnm, hty, hok⟩ := id hcb
  obtain ⟨n1, n2, n3⟩ := z_sv_ok (D := D) hs (hok k hk)
  obtain ⟨cell, q1, q2⟩ := hr.at ha
  have q2' := q2
  unfold z_cell at q2
  rw [if_pos ht] at q2
  obtain ⟨r, r1, r2, r3, r4⟩ := q2
  cases hc.symm.trans r1
  show W _ _ _ _ _ _ _ _ _ _ _ _ _ _ _ (F0 _ _ _ (z_v D kk x :: z_sc D ((2, a) :: st)))
  rw [z_ad_ref ha.1]
  obtain ⟨hS, hfc, kC, hkC, hkind⟩ := cx.K.1 t _ hc
  obtain ⟨cf, kf, fi, f, hi, hsl⟩ := hS k hk
  have hlay := cx.hts _ (hin _ (u_in_lay hk))
  unfold u_lay at hlay
  rw [if_neg (by rw [hfin]; decide)] at hlay
  have hst := (u_facts hfc hkC (u_lays cx.hts hin hk) hi).1
  have h6 := u_store hfc hkC hkind hlay hi (hty k hk) n1 n2
  refine W.putK cx.1 cx.2.1 (f := f) ⟨cx.own, cx.hts _ hm, ⟨_, _, _, hi⟩, hst⟩ (by rw [r2]; exact h6) q1 r3 (by rw [hsl]; exact k2_hasslot (r4 k hk)) rfl rfl hd fun H' e1 e2 e3 => ?_
  rw [hsl] at e1
  refine kn H' _ ?_ (fun q hq => ?_)
  · rw [z_wr_eq]
    exact hr.upd ha e2 e3 e1 (z_cell_set (a := a) cx.hts cx.K hcb hk q2' n3)
  · rcases List.mem_append.mp hq with h1 | h1
    · exact hlo q h1
    · simp only [List.mem_singleton] at h1
      subst h1
      show D.1.size ≤ z_ad D a
      rw [z_ad_pos ha.1]
      omega
theorem z_putF {a x : Int} {kk : Nat} (hf : z_fl M.1.cls idx t k true) (hcls : ∀ C T N, z_cb t C T N → C = M.1.cls) (hnm : M.1.name = "<init>") (hs : z_sv kk (z_ty t k) x) (ha : z_is G a t) (hd : decode M.2.1 pc = .ok (.putfield idx, 3)) (hq : pc + 3 = q) (kn : z_F D M d q L st G (z_wr h a k x) Q) : z_F D M d pc L ((kk, x) :: (2, a) :: st) G h Q := by
  subst hq
  refine z_step (fun {p l e R s m args below meth c H locs cells slots ls Qw} cx hr hl hlo kn => ?_) kn
  obtain ⟨C, T, N, hcb, hk, hm, hfin, hdecl⟩ := hf
  have hdecl := hdecl rfl
  have hCo := hcls C T N hcb
  obtain ⟨hc, ht, hin, hnm', hty, hok⟩ := id hcb
  obtain ⟨n1, n2, n3⟩ := z_sv_ok (D := D) hs (hok k hk)
  obtain ⟨cell, q1, q2⟩ := hr.at ha
  have q2' := q2
  unfold z_cell at q2
  rw [if_pos ht] at q2
  obtain ⟨r, r1, r2, r3, r4⟩ := q2
  cases hc.symm.trans r1
  show W _ _ _ _ _ _ _ _ _ _ _ _ _ _ _ (F0 _ _ _ (z_v D kk x :: z_sc D ((2, a) :: st)))
  rw [z_ad_ref ha.1]
  obtain ⟨hS, hfc, kC, hkC, hkind⟩ := cx.K.1 t _ hc
  obtain ⟨cf, kf, fi, f, hi, hsl⟩ := hS k hk
  have hlay := cx.hts _ (hin _ (u_in_lay hk))
  unfold u_lay at hlay
  rw [if_pos hfin] at hlay
  have hst := (u_facts hfc hkC (u_lays cx.hts hin hk) hi).1
  have hcf : m.cls = cf := by
    obtain ⟨_, _, c', _, _, _, -, -, hf', -, -, -, hown2, -⟩ := Cond.laysFinal_spec hlay
    have e1 : c' = cf := by have := hi.symm.trans hf'; simp at this; exact this.1.symm
    rw [hdecl, hCo] at hown2
    rw [← e1]; exact Option.some.inj (cx.own.symm.trans hown2)
  have h6 := u_fits hfc hkC hkind (Or.inr hlay) hi (hty k hk) n1 n2
  refine W.putFinK cx.1 cx.2.1 cx.own (cx.hts _ hm) hi hst hcf (cx.2.2.2.2.2.2.2.1.trans hnm) (by rw [r2]; exact h6) q1 r3 (by rw [hsl]; exact k2_hasslot (r4 k hk)) rfl rfl hd fun H' e1 e2 e3 => ?_
  rw [hsl] at e1
  refine kn H' _ ?_ (fun q hq => ?_)
  · rw [z_wr_eq]
    exact hr.upd ha e2 e3 e1 (z_cell_set (a := a) cx.hts cx.K hcb hk q2' n3)
  · rcases List.mem_append.mp hq with h1 | h1
    · exact hlo q h1
    · simp only [List.mem_singleton] at h1
      subst h1
      show D.1.size ≤ z_ad D a
      rw [z_ad_pos ha.1]
      omega
end Heaps
