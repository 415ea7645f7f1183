section XH
variable {G : GL} {d rc rs : Nat} {M : MD} {pc : Nat} {ls st : List AV} {hp : HP} {sz : Nat} {Q : Option AV → HP → Nat → Prop}
theorem KK.arr {s : State} (h : KK G s) {k : Nat} {ty : FieldType} (hk : akinds[k]? = some ty) (n : Nat) (z : Nat → Value) : s.isArrayOf (arrV (G.2.2.1 k) n z) ty := (h.2.1 k ty hk).1 n z
theorem Cx.kk {p : Program} {s : State} {m : MethodId} {args : Array Value} {meth : Method} {c : Code} {R : Room} (C : Cx G d M p s m args meth c R) : KK G s := C.2.2.2.2.2.2.2.2.1
theorem Cx.own {p : Program} {s : State} {m : MethodId} {args : Array Value} {meth : Method} {c : Code} {R : Room} (C : Cx G d M p s m args meth c R) : s.vm.findClass M.1.cls = some m.cls := C.2.2.2.2.2.1
theorem Cx.word {p : Program} {s : State} {m : MethodId} {args : Array Value} {meth : Method} {c : Code} {R : Room} (C : Cx G d M p s m args meth c R) {w : Cond} (h : w ∈ lw_g) : w.before args s = true := C.2.2.2.2.2.2.2.1 w h
theorem ar_at {a k n : Nat} {f : Nat → Int} {H : Heap} (h : Rl G hp sz H) (hc : hp a = ar k n f) (ha : a < sz) : n < 2147483648 ∧ k < 4 ∧ H[ad G a]? = some (arrV (G.2.2.1 k) n (fun j => el k (f j))) := by
  have := h.at ha
  rw [hc] at this
  exact this
theorem rr_at {a k n : Nat} {f : Nat → Option Nat} {H : Heap} (h : Rl G hp sz H) (hc : hp a = rr k n f) (ha : a < sz) : n < 2147483648 ∧ 4 ≤ k ∧ k < 8 ∧ H[ad G a]? = some (arrV (G.2.2.1 k) n (fun j => va_rf ((f j).map (ad G)))) := by
  have := h.at ha
  rw [hc] at this
  exact this
theorem ad_ge {a : Nat} (h : a < sz) (hs : sz ≤ 700000) : (gH G).size ≤ ad G a := by rw [ad_lt h hs]; omega
theorem lo_add {locs : List Loc} {x i B : Nat} (h : ∀ q ∈ locs, B ≤ q.base) (hx : B ≤ x) : ∀ q ∈ locs ++ [⟨x, i⟩], B ≤ q.base := by
  intro q hq
  rcases List.mem_append.mp hq with h1 | h1
  · exact h q h1
  · rw [List.mem_singleton.mp h1]
    exact hx
theorem lo_app {locs L : List Loc} {B : Nat} (h : ∀ q ∈ locs, B ≤ q.base) (hx : ∀ q ∈ L, B ≤ q.base) : ∀ q ∈ locs ++ L, B ≤ q.base := by
  intro q hq
  rcases List.mem_append.mp hq with h1 | h1
  · exact h q h1
  · exact hx q h1
theorem x_iald {a n : Nat} {f : Nat → Int} {i : Int} (hd : decode M.2.1 pc = .ok (.iaload, 1)) (hc : hp a = ar 0 n f) (ha : a < sz) (i0 : 0 ≤ i) (i1 : i < n) (k : Ex G d rc rs M (pc + 1) ls (vi (f i.toNat) :: st) hp sz Q) : Ex G d rc rs M pc ls (vi i :: vr a :: st) hp sz Q := by
  intro p l e R s m args below meth c H locs cells slots lsR C h1 h2 h3 h4 h5
  obtain ⟨g1, -, g2⟩ := ar_at h3 hc ha
  exact W.iald (v := .int (Int32.ofInt (f i.toNat))) C.1 C.2.1 g2 (C.kk.arr rfl _ _) (fun q => by cases q) (by rw [arrV_size]; exact oi_in i0 i1 g1) (by rw [oi_cl i0 i1 g1, arrV_read _ _ (by omega)]; rfl) rfl rfl hd (k p l e R s m args below meth c H locs cells slots lsR C h1 h2 h3 h4 h5)
theorem x_lald {a n : Nat} {f : Nat → Int} {i : Int} (hd : decode M.2.1 pc = .ok (.laload, 1)) (hc : hp a = ar 1 n f) (ha : a < sz) (i0 : 0 ≤ i) (i1 : i < n) (k : Ex G d rc rs M (pc + 1) ls (vl (f i.toNat) :: st) hp sz Q) : Ex G d rc rs M pc ls (vi i :: vr a :: st) hp sz Q := by
  intro p l e R s m args below meth c H locs cells slots lsR C h1 h2 h3 h4 h5
  obtain ⟨g1, -, g2⟩ := ar_at h3 hc ha
  exact W.lald (v := .long (Int64.ofInt (f i.toNat))) C.1 C.2.1 g2 (C.kk.arr rfl _ _) (fun q => by cases q) (by rw [arrV_size]; exact oi_in i0 i1 g1) (by rw [oi_cl i0 i1 g1, arrV_read _ _ (by omega)]; rfl) rfl rfl hd (k p l e R s m args below meth c H locs cells slots lsR C h1 h2 h3 h4 h5)
theorem x_bald {a n : Nat} {f : Nat → Int} {i : Int} (hd : decode M.2.1 pc = .ok (.baload, 1)) (hc : hp a = ar 2 n f) (ha : a < sz) (i0 : 0 ≤ i) (i1 : i < n) (k : Ex G d rc rs M (pc + 1) ls (vi (f i.toNat) :: st) hp sz Q) : Ex G d rc rs M pc ls (vi i :: vr a :: st) hp sz Q := by
  intro p l e R s m args below meth c H locs cells slots lsR C h1 h2 h3 h4 h5
  obtain ⟨g1, -, g2⟩ := ar_at h3 hc ha
  exact W.bald (v := .int (Int32.ofInt (f i.toNat))) C.1 C.2.1 g2 (C.kk.arr rfl _ _) (fun q => by cases q) (by rw [arrV_size]; exact oi_in i0 i1 g1) (by rw [oi_cl i0 i1 g1, arrV_read _ _ (by omega)]; rfl) rfl rfl hd (k p l e R s m args below meth c H locs cells slots lsR C h1 h2 h3 h4 h5)
theorem x_zald {a n : Nat} {f : Nat → Int} {i : Int} (hd : decode M.2.1 pc = .ok (.baload, 1)) (hc : hp a = ar 3 n f) (ha : a < sz) (i0 : 0 ≤ i) (i1 : i < n) (k : Ex G d rc rs M (pc + 1) ls (vi (f i.toNat) :: st) hp sz Q) : Ex G d rc rs M pc ls (vi i :: vr a :: st) hp sz Q := by
  intro p l e R s m args below meth c H locs cells slots lsR C h1 h2 h3 h4 h5
  obtain ⟨g1, -, g2⟩ := ar_at h3 hc ha
  exact W.zald (v := .int (Int32.ofInt (f i.toNat))) C.1 C.2.1 g2 (C.kk.arr rfl _ _) (fun q => by cases q) (by rw [arrV_size]; exact oi_in i0 i1 g1) (by rw [oi_cl i0 i1 g1, arrV_read _ _ (by omega)]; rfl) rfl rfl hd (k p l e R s m args below meth c H locs cells slots lsR C h1 h2 h3 h4 h5)
theorem x_aald {a kk n b : Nat} {f : Nat → Option Nat} {i : Int} (hd : decode M.2.1 pc = .ok (.aaload, 1)) (hc : hp a = rr kk n f) (ha : a < sz) (i0 : 0 ≤ i) (i1 : i < n) (hb : f i.toNat = some b) (k : Ex G d rc rs M (pc + 1) ls (vr b :: st) hp sz Q) : Ex G d rc rs M pc ls (vi i :: vr a :: st) hp sz Q := by
  intro p l e R s m args below meth c H locs cells slots lsR C h1 h2 h3 h4 h5
  obtain ⟨g1, g4, g8, g2⟩ := rr_at h3 hc ha
  obtain ⟨ty, ht, hr⟩ : ∃ ty, akinds[kk]? = some ty ∧ ty.isReference = true := by
    rcases (show kk = 4 ∨ kk = 5 ∨ kk = 6 ∨ kk = 7 by omega) with rfl | rfl | rfl | rfl <;> exact ⟨_, rfl, rfl⟩
  exact W.aald (v := .ref (ad G b)) C.1 C.2.1 g2 (C.kk.arr ht _ _) hr (fun q => by cases q) (by rw [arrV_size]; exact oi_in i0 i1 g1) (by rw [oi_cl i0 i1 g1, arrV_read _ _ (by omega), hb]; rfl) rfl rfl hd (k p l e R s m args below meth c H locs cells slots lsR C h1 h2 h3 h4 h5)
theorem upd_el {n kk j : Nat} {f : Nat → Int} {x : Int} {cI : ClassId} : (arrV cI n (fun j => el kk (f j))).setSlot j (el kk x) = arrV cI n (fun q => el kk (up f j x q)) := by
  rw [arrV_store]
  congr 1
  funext q
  by_cases hq : q = j
  · subst hq
    simp [updV, up]
  · simp [updV, up, hq]
theorem x_iast {a n : Nat} {f : Nat → Int} {i x : Int} (hd : decode M.2.1 pc = .ok (.iastore, 1)) (hc : hp a = ar 0 n f) (ha : a < sz) (i0 : 0 ≤ i) (i1 : i < n) (k : Ex G d rc rs M (pc + 1) ls st (up hp a (ar 0 n (up f i.toNat x))) sz Q) : Ex G d rc rs M pc ls (vi x :: vi i :: vr a :: st) hp sz Q := by
  intro p l e R s m args below meth c H locs cells slots lsR C h1 h2 h3 h4 h5
  obtain ⟨g1, -, g2⟩ := ar_at h3 hc ha
  refine W.iast C.1 C.2.1 g2 (C.kk.arr rfl _ _) (fun q => by cases q) (by rw [arrV_size]; exact oi_in i0 i1 g1) rfl rfl hd (fun H' e1 z oq => ?_)
  refine k p l e R s m args below meth c H' _ cells slots lsR C h1 h2 (h3.set ha ⟨g1, (by dsimp only; decide), ?_⟩ z oq) (lo_add h4 (ad_ge ha h3.2.1)) h5
  rw [e1, oi_cl i0 i1 g1]
  exact congrArg some upd_el
theorem x_last {a n : Nat} {f : Nat → Int} {i x : Int} (hd : decode M.2.1 pc = .ok (.lastore, 1)) (hc : hp a = ar 1 n f) (ha : a < sz) (i0 : 0 ≤ i) (i1 : i < n) (k : Ex G d rc rs M (pc + 1) ls st (up hp a (ar 1 n (up f i.toNat x))) sz Q) : Ex G d rc rs M pc ls (vl x :: vi i :: vr a :: st) hp sz Q := by
  intro p l e R s m args below meth c H locs cells slots lsR C h1 h2 h3 h4 h5
  obtain ⟨g1, -, g2⟩ := ar_at h3 hc ha
  refine W.last C.1 C.2.1 g2 (C.kk.arr rfl _ _) (fun q => by cases q) (by rw [arrV_size]; exact oi_in i0 i1 g1) rfl rfl hd (fun H' e1 z oq => ?_)
  refine k p l e R s m args below meth c H' _ cells slots lsR C h1 h2 (h3.set ha ⟨g1, (by dsimp only; decide), ?_⟩ z oq) (lo_add h4 (ad_ge ha h3.2.1)) h5
  rw [e1, oi_cl i0 i1 g1]
  exact congrArg some upd_el
theorem x_bast {a n : Nat} {f : Nat → Int} {i x : Int} (hd : decode M.2.1 pc = .ok (.bastore, 1)) (hc : hp a = ar 2 n f) (ha : a < sz) (i0 : 0 ≤ i) (i1 : i < n) (hx : -128 ≤ x ∧ x < 128) (k : Ex G d rc rs M (pc + 1) ls st (up hp a (ar 2 n (up f i.toNat x))) sz Q) : Ex G d rc rs M pc ls (vi x :: vi i :: vr a :: st) hp sz Q := by
  intro p l e R s m args below meth c H locs cells slots lsR C h1 h2 h3 h4 h5
  obtain ⟨g1, -, g2⟩ := ar_at h3 hc ha
  refine W.bast C.1 C.2.1 g2 (C.kk.arr rfl _ _) (fun q => by cases q) (by rw [arrV_size]; exact oi_in i0 i1 g1) rfl rfl hd (fun H' e1 z oq => ?_)
  refine k p l e R s m args below meth c H' _ cells slots lsR C h1 h2 (h3.set ha ⟨g1, (by dsimp only; decide), ?_⟩ z oq) (lo_add h4 (ad_ge ha h3.2.1)) h5
  rw [e1, oi_cl i0 i1 g1, show narrow .byte (.int (Int32.ofInt x)) = el 2 x by rw [← oi_b hx, pk_nb, oi_b hx]; rfl]
  exact congrArg some upd_el
theorem x_zast {a n : Nat} {f : Nat → Int} {i x : Int} (hd : decode M.2.1 pc = .ok (.bastore, 1)) (hc : hp a = ar 3 n f) (ha : a < sz) (i0 : 0 ≤ i) (i1 : i < n) (hx : x = 0 ∨ x = 1) (k : Ex G d rc rs M (pc + 1) ls st (up hp a (ar 3 n (up f i.toNat x))) sz Q) : Ex G d rc rs M pc ls (vi x :: vi i :: vr a :: st) hp sz Q := by
  intro p l e R s m args below meth c H locs cells slots lsR C h1 h2 h3 h4 h5
  obtain ⟨g1, -, g2⟩ := ar_at h3 hc ha
  refine W.zast C.1 C.2.1 g2 (C.kk.arr rfl _ _) (fun q => by cases q) (by rw [arrV_size]; exact oi_in i0 i1 g1) rfl rfl hd (fun H' e1 z oq => ?_)
  refine k p l e R s m args below meth c H' _ cells slots lsR C h1 h2 (h3.set ha ⟨g1, (by dsimp only; decide), ?_⟩ z oq) (lo_add h4 (ad_ge ha h3.2.1)) h5
  rw [e1, oi_cl i0 i1 g1, show narrow .boolean (.int (Int32.ofInt x)) = el 3 x by rcases hx with rfl | rfl <;> decide +kernel]
  exact congrArg some upd_el
/-- a cell that an array of references of kind kk may hold -/
def asg (kk : Nat) (c : AC) : Prop := match c with
  | .inl o => kk = 4 ∧ o.1 = 0
  | .inr (.inl x) => kk = 5 + x.1
  | .inr (.inr _) => False
theorem assign_arr {s : State} {cA : ClassId} {k : Class} {comp : ClassId} {ty : FieldType} (hk : s.vm.classes[cA]? = some k) (hkind : k.kind = .array comp ty) : s.vm.assignable cA cA = true := by
  show Vm.assignableAux s.vm (255 + 1) cA cA = true
  rw [Vm.assignableAux]
  simp only [beq_self_eq_true, Bool.true_or]
theorem x_aast {a kk n b : Nat} {f : Nat → Option Nat} {i : Int} (hd : decode M.2.1 pc = .ok (.aastore, 1)) (hc : hp a = rr kk n f) (ha : a < sz) (i0 : 0 ≤ i) (i1 : i < n) (hb : b < sz) (hk : asg kk (hp b)) (k : Ex G d rc rs M (pc + 1) ls st (up hp a (rr kk n (up f i.toNat (some b)))) sz Q) : Ex G d rc rs M pc ls (vr b :: vi i :: vr a :: st) hp sz Q := by
  intro p l e R s m args below meth c H locs cells slots lsR C h1 h2 h3 h4 h5
  obtain ⟨g1, g4, g8, g2⟩ := rr_at h3 hc ha
  obtain ⟨ty, ht, hr⟩ : ∃ ty, akinds[kk]? = some ty ∧ ty.isReference = true := by
    rcases (show kk = 4 ∨ kk = 5 ∨ kk = 6 ∨ kk = 7 by omega) with rfl | rfl | rfl | rfl <;> exact ⟨_, rfl, rfl⟩
  obtain ⟨kA, a1, a2⟩ := C.kk.2.2.1 kk ty g4 ht
  have hbb := h3.at hb
  obtain ⟨cell, kC, b1, b2, b3, b4⟩ : ∃ (cell : Cell) (kC : Class), H[ad G b]? = some cell ∧ cell.vm = .none ∧ s.vm.classes[cell.cls]? = some kC ∧ cell.cls = (if kk = 4 then G.1 0 else G.2.2.1 (kk - 5)) ∧ s.vm.assignable cell.cls cell.cls = true := by
    rcases hx : hp b with o | x | x
    · rw [hx] at hk hbb
      obtain ⟨r, r1, cell, q1, q2, q3, -⟩ := hbb
      have hkn := (C.kk.1 o.1 r r1).2
      obtain ⟨kC, z1, -⟩ := hkn.2
      refine ⟨cell, kC, q1, q3, by rw [q2]; exact z1, by rw [q2, if_pos hk.1, hk.2], by rw [q2]; exact va_assign hkn⟩
    · rw [hx] at hk hbb
      obtain ⟨q0, q9, q1⟩ := hbb
      have hkk : kk = 5 + x.1 := hk
      obtain ⟨ty2, ht2⟩ : ∃ ty, akinds[x.1]? = some ty := by
        rcases (show x.1 = 0 ∨ x.1 = 1 ∨ x.1 = 2 ∨ x.1 = 3 by omega) with h | h | h | h <;> rw [h] <;> exact ⟨_, rfl⟩
      obtain ⟨-, kC, z1, cm, z2⟩ := C.kk.arr ht2 0 (fun _ => .null)
      have z1 : s.vm.classes[G.2.2.1 x.1]? = some kC := z1
      exact ⟨_, kC, q1, rfl, z1, by rw [if_neg (by omega), show kk - 5 = x.1 by omega]; rfl, assign_arr z1 z2⟩
    · rw [hx] at hk
      exact hk.elim
  refine W.aast C.1 C.2.1 g2 (fun q h => by cases h) (fun h => by cases h) a1 a2 hr (by rw [← b4.1]; exact b3) ⟨fun q => oi_in i0 i1 g1 (Or.inl q), by rw [arrV_size, oi_cl i0 i1 g1]; omega⟩ b1 (fun q h => by rw [b2] at h; cases h) b3 (by rw [← b4.1]; exact b4.2) rfl rfl hd (fun H' e1 z oq => ?_)
  refine k p l e R s m args below meth c H' _ cells slots lsR C h1 h2 (h3.set ha ⟨g1, g4, g8, ?_⟩ z oq) (lo_add h4 (ad_ge ha h3.2.1)) h5
  rw [e1, oi_cl i0 i1 g1, arrV_store]
  refine congrArg some (congrArg _ ?_)
  funext q
  by_cases hq : q = i.toNat
  · subst hq
    simp [updV, up, va_rf]
  · simp [updV, up, hq]
theorem x_alen {a kk n : Nat} {f : Nat → Int} (hd : decode M.2.1 pc = .ok (.arraylength, 1)) (hc : hp a = ar kk n f) (ha : a < sz) (k : Ex G d rc rs M (pc + 1) ls (vi n :: st) hp sz Q) : Ex G d rc rs M pc ls (vr a :: st) hp sz Q := by
  intro p l e R s m args below meth c H locs cells slots lsR C h1 h2 h3 h4 h5
  obtain ⟨g1, g4, g2⟩ := ar_at h3 hc ha
  obtain ⟨ty2, ht2⟩ : ∃ ty, akinds[kk]? = some ty := by
    rcases (show kk = 0 ∨ kk = 1 ∨ kk = 2 ∨ kk = 3 by omega) with rfl | rfl | rfl | rfl <;> exact ⟨_, rfl⟩
  exact W.alen (n := Int32.ofInt n) C.1 C.2.1 g2 (C.kk.arr ht2 _ _) (by rw [arrV_size, ← oi_nat] <;> rfl) rfl rfl hd (k p l e R s m args below meth c H locs cells slots lsR C h1 h2 h3 h4 h5)
/-- the outer arrays: the script (0) and the two rows of primes (1, 2) -/
theorem ad_ext {i : Nat} : ad G (1000000 + i) = G.2.2.2.2.1 i := by
  unfold ad
  rw [if_neg (by omega), Nat.add_sub_cancel_left]
theorem x_ialdX {j n : Nat} {f : Nat → Int} {i : Int} (hd : decode M.2.1 pc = .ok (.iaload, 1)) (hj : j < 3) (hc : hp (1000000 + j) = ar 0 n f) (i0 : 0 ≤ i) (i1 : i < n) (k : Ex G d rc rs M (pc + 1) ls (vi (f i.toNat) :: st) hp sz Q) : Ex G d rc rs M pc ls (vi i :: vr (1000000 + j) :: st) hp sz Q := by
  intro p l e R s m args below meth c H locs cells slots lsR C h1 h2 h3 h4 h5
  have he := h3.2.2.2.2 j hj
  rw [hc] at he
  obtain ⟨⟨scr, z1, z2, z3, z4, z5⟩, z6, z7⟩ := C.kk.2.2.2.1 j hj
  obtain ⟨e1, e2⟩ : n = (G.2.2.2.2.2 j).1 ∧ f = (G.2.2.2.2.2 j).2 := by
    have := Sum.inl.inj (Sum.inr.inj he)
    exact ⟨congrArg (fun q => q.2.1) this, congrArg (fun q => q.2.2) this⟩
  rw [← e1] at z4 z5 z7
  rw [← e2] at z5
  refine W.iald (v := .int (Int32.ofInt (f i.toNat))) C.1 C.2.1 (a := G.2.2.2.2.1 j) (by rw [h3.2.2.2.1 _ z6]; exact z1) z2 z3 (fun q => oi_in i0 i1 z7 (q.imp id (fun h => Nat.le_trans z4.1 h))) (by rw [oi_cl i0 i1 z7]; exact z5 _ (by omega)) rfl (by show Value.int _ :: Value.ref (ad G (1000000 + j)) :: _ = _; rw [ad_ext]) hd ?_
  exact k p l e R s m args below meth c H locs cells slots lsR C h1 h2 h3 h4 h5
theorem x_alenX {j n : Nat} {f : Nat → Int} (hd : decode M.2.1 pc = .ok (.arraylength, 1)) (hj : j < 3) (hc : hp (1000000 + j) = ar 0 n f) (k : Ex G d rc rs M (pc + 1) ls (vi n :: st) hp sz Q) : Ex G d rc rs M pc ls (vr (1000000 + j) :: st) hp sz Q := by
  intro p l e R s m args below meth c H locs cells slots lsR C h1 h2 h3 h4 h5
  have he := h3.2.2.2.2 j hj
  rw [hc] at he
  obtain ⟨⟨scr, z1, z2, z3, z4, z5⟩, z6, z7⟩ := C.kk.2.2.2.1 j hj
  have e1 : n = (G.2.2.2.2.2 j).1 := congrArg (fun q => q.2.1) (Sum.inl.inj (Sum.inr.inj he))
  rw [← e1] at z4
  refine W.alen (n := Int32.ofInt n) C.1 C.2.1 (a := G.2.2.2.2.1 j) (by rw [h3.2.2.2.1 _ z6]; exact z1) z2 (z4.2.trans (oi_nat n)) rfl (by show Value.ref (ad G (1000000 + j)) :: _ = _; rw [ad_ext]) hd ?_
  exact k p l e R s m args below meth c H locs cells slots lsR C h1 h2 h3 h4 h5
end XH
