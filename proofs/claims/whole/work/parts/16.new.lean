theorem AOv.use {ty : FieldType} {A : Array Value} {U : State} (h : AOv ty U) : (Cond.arrayOver ty).before A U = true := h
def dfv : FieldType → AV
  | .object _ => vz
  | .array _ => vz
  | .long => vl 0
  | _ => vi 0
def okty : FieldType → Bool
  | .object _ => true
  | .array _ => true
  | .int => true
  | _ => false
theorem dfv_ok {G : GL} {ty : FieldType} (h : okty ty = true) : defaultValue ty = cv G (dfv ty) := by
  cases ty <;> first | (simp [okty] at h; done) | rfl
theorem cls_ok : ∀ (c : Nat) (q : vw_C), classesX[c]? = some q → ∀ k, k < q.2.2 → okty (tyOf c k) = true := by
  intro c q h
  match c, h with
  | 0, h => cases h; decide +kernel
  | 1, h => cases h; decide +kernel
  | 2, h => cases h; decide +kernel
  | 3, h => cases h; decide +kernel
  | 4, h => cases h; decide +kernel
  | 5, h => cases h; decide +kernel
  | 6, h => cases h; decide +kernel
  | 7, h => cases h; decide +kernel
  | c + 8, h => simp [classesX] at h
def NW (own : String) (idx c n : Nat) : Prop := ∃ q : vw_C, classesX[c]? = some q ∧ q.2.2 = n ∧ Cond.classLink own idx q.1 ∈ lw_g ∧ Cond.instantiable q.1 n ∈ lw_g ∧ Cond.initialized q.1 ∈ lw_g
section XN
variable {G : GL} {d rc rs : Nat} {M : MD} {pc : Nat} {ls st : List AV} {hp : HP} {sz : Nat} {Q : Option AV → HP → Nat → Prop}
theorem ad_new {H : Heap} (h : Rl G hp sz H) : ad G sz = H.size := by
  unfold ad
  rw [if_pos (by have := h.2.1; omega), h.1]
theorem x_new {c idx n : Nat} (hd : decode M.2.1 pc = .ok (.new idx, 3)) (hw : NW M.1.cls idx c n) (hs : sz < 700000) (k : Ex G d rc rs M (pc + 3) ls (vr sz :: st) (up hp sz (ob c (fun j => dfv (tyOf c j)))) (sz + 1) Q) : Ex G d (1 + rc) (n + rs) M pc ls st hp sz Q := by
  intro p l e R s m args below meth c' H locs cells slots lsR C h1 h2 h3 h4 h5
  obtain ⟨q, w1, w2, w3, w4, w5⟩ := hw
  have hKn := C.kk.1 _ _ w1
  refine W.newcK C.1 C.2.1 C.own (C.word w3) (C.word w4) (C.word w5) rfl hd (by omega) (by omega) hKn.2.1 rfl fun H' kC hkC e1 z o => ?_
  have hk := k p l e R s m args below meth c' H' locs (cells + 1) (slots + n) lsR C (by omega) (by omega) (h3.push hs ⟨q, w1, (u_born (tyOf c) (fun w hw => C.word hw) (in_cls _ _ w1) hKn hkC e1 (cls_ty _ _ w1)).to (fun j hj => dfv_ok (cls_ok _ _ w1 j hj))⟩ z o) h4 h5
  rw [Nat.add_assoc, Nat.add_assoc] at hk
  rw [← ad_new h3]
  exact hk
theorem x_newarr {at0 : ArrayType} {kk : Nat} {n : Int} (hd : decode M.2.1 pc = .ok (.newarray at0, 2)) (hk : akinds[kk]? = some (newarray.typeOf at0)) (h4' : kk < 4) (hdf : defaultValue (newarray.typeOf at0) = el kk 0) (hcb : componentBytes (newarray.typeOf at0) ≤ 8) (hw : Cond.arrayClass (newarray.typeOf at0) ∈ lw_g) (hn : 0 ≤ n ∧ n ≤ 10000) (hs : sz < 700000) (k : Ex G d rc rs M (pc + 2) ls (vr sz :: st) (up hp sz (ar kk n.toNat (fun _ => 0))) (sz + 1) Q) : Ex G d (1 + rc) (n.toNat + rs) M pc ls (vi n :: st) hp sz Q := by
  intro p l e R s m args below meth c' H locs cells slots lsR C h1 h2 h3 h4 h5
  have hcl : (Int32.ofInt n).toNatClampNeg = n.toNat := oi_cl (n := 10001) hn.1 (by omega) (by omega)
  have hle : n.toNat * componentBytes (newarray.typeOf at0) ≤ 10000 * 8 := Nat.mul_le_mul (by omega) hcb
  refine va_newaK C.1 C.2.1 (C.word hw) rfl hd rfl (by rw [← oi_0, oi_lt (by omega) (by omega)]; omega) hcl (by omega) (by omega) (by omega) rfl fun H' cA e1 z o hAr hf => ?_
  have e9 : cA = G.2.2.1 kk := Option.some.inj (hf.symm.trans (C.kk.2.1 kk _ hk).2)
  have hk2 := k p l e R s m args below meth c' H' locs (cells + 1) (slots + n.toNat) lsR C (by omega) (by omega) (h3.push hs ⟨by dsimp only; omega, h4', by rw [e1, e9, hdf]⟩ z o) h4 h5
  rw [Nat.add_assoc, Nat.add_assoc] at hk2
  rw [← ad_new h3]
  exact hk2
theorem x_anew {idx : Nat} {n : Int} (hd : decode M.2.1 pc = .ok (.anewarray idx, 3)) (hw : Cond.classLink M.1.cls idx "SpanLoom$Laying" ∈ lw_g) (hn : 0 ≤ n ∧ n ≤ 10000) (hs : sz < 700000) (k : Ex G d rc rs M (pc + 3) ls (vr sz :: st) (up hp sz (rr 4 n.toNat (fun _ => none))) (sz + 1) Q) : Ex G d (1 + rc) (n.toNat + rs) M pc ls (vi n :: st) hp sz Q := by
  intro p l e R s m args below meth c' H locs cells slots lsR C h1 h2 h3 h4 h5
  have hcl : (Int32.ofInt n).toNatClampNeg = n.toNat := oi_cl (n := 10001) hn.1 (by omega) (by omega)
  refine W.anew C.1 C.2.1 C.own (C.word hw) (AOv.use (C.kk.2.2.2.2.2.2.2 (.object "SpanLoom$Laying") (by simp [AOs]))) rfl hd rfl (by rw [← oi_0, oi_lt (by omega) (by omega)]; omega) (by rw [hcl]; omega) (by omega) (by rw [hcl]; omega) fun cA kA comp hf _ _ _ => ?_
  rw [hcl]
  have e9 : cA = G.2.2.1 4 := Option.some.inj (hf.symm.trans (C.kk.2.1 4 _ rfl).2)
  have hk2 := k p l e R s m args below meth c' (H.push { cls := cA, slots := Array.replicate n.toNat .null, vm := .none }) locs (cells + 1) (slots + n.toNat) lsR C (by omega) (by omega) (h3.push hs ⟨by dsimp only; omega, Nat.le_refl 4, (by dsimp only; decide), by rw [arrV_new, e9]; simp; rfl⟩ (by simp) (fun q hq => by rw [Array.getElem?_push, if_neg (Nat.ne_of_lt hq)])) h4 h5
  rw [Nat.add_assoc, Nat.add_assoc] at hk2
  rw [← ad_new h3]
  exact hk2
theorem x_ldc2 {idx : Nat} {v : Int} (hd : decode M.2.1 pc = .ok (.ldc2_w idx, 3)) (hw : Cond.constantLong M.1.cls idx (Int64.ofInt v) ∈ lw_g) (k : Ex G d rc rs M (pc + 3) ls (vl v :: st) hp sz Q) : Ex G d rc rs M pc ls st hp sz Q := by
  intro p l e R s m args below meth c H locs cells slots lsR C h1 h2 h3 h4 h5
  exact W.ldc2 C.1 C.2.1 C.own (C.word hw) rfl hd (k p l e R s m args below meth c H locs cells slots lsR C h1 h2 h3 h4 h5)
theorem x_gets {idx j : Nat} {cn : String} (hd : decode M.2.1 pc = .ok (.getstatic idx, 3)) (hc : (cn = "SpanLoom" ∧ j = 1) ∨ (cn = "SpanLoomModel" ∧ j = 2)) (hw : Cond.fieldLink M.1.cls idx cn "PRIMES" "[I" ∈ lw_g) (k : Ex G d rc rs M (pc + 3) ls (vr (1000000 + j) :: st) hp sz Q) : Ex G d rc rs M pc ls st hp sz Q := by
  intro p l e R s m args below meth c H locs cells slots lsR C h1 h2 h3 h4 h5
  have hZ : va_Z cn "PRIMES" "[I" (.ref (G.2.2.2.2.1 j)) (fun a => (gH G).size ≤ a) s (gH G) := by
    rcases hc with ⟨rfl, rfl⟩ | ⟨rfl, rfl⟩
    · exact C.kk.2.2.2.2.1
    · exact C.kk.2.2.2.2.2.1
  obtain ⟨cf, kf, fi, f, a, cell, z1, z2, z3, z4, z5, z6, z7, z8⟩ := hZ
  have hk := k p l e R s m args below meth c H locs cells slots lsR C h1 h2 h3 h4 h5
  have hcv : (vr (1000000 + j) :: st).map (cv G) = Value.ref (G.2.2.2.2.1 j) :: st.map (cv G) := by
    show Value.ref (ad G (1000000 + j)) :: _ = _
    rw [ad_ext]
  rw [hcv] at hk
  exact W.gets C.1 C.2.1 C.own (C.word hw) z1 z2 z3 z4 (by rw [h3.2.2.2.1 a (Nat.not_le.mp z8)]; exact z5) (fun e => by rw [e] at z6; cases z6) z7 rfl hd hk
theorem x_objInit {idx a : Nat} (hd : decode M.2.1 pc = .ok (.invokespecial idx, 3)) (hw : Cond.methodLink M.1.cls idx Lib.objectInit ∈ lw_g) (hw2 : Cond.instanceMethod Lib.objectInit ∈ lw_g) (hw3 : Cond.code Lib.objectInit ⟨#[0xb1]⟩ 1 none ∈ lw_g) (hdd : 1 ≤ d) (hst : (st.map fun v => (cv G v).category).sum ≤ 8) (k : Ex G d rc rs M (pc + 3) ls st hp sz Q) : Ex G d rc rs M pc ls (vr a :: st) hp sz Q := by
  intro p l e R s m args below meth c H locs cells slots lsR C h1 h2 h3 h4 h5
  obtain ⟨c1, c2, c3, c4, c5, c6, c7, c8, c9, c10, c11⟩ := id C
  refine W.objInit c1 c2 c6 (C.word hw) (C.word hw2) (C.word hw3) rfl (h5.1.trans c5.symm) rfl hd (by omega) ?_ (k p l e R s m args below meth c H locs cells slots lsR C h1 h2 h3 h4 h5)
  have : ((st.map (cv G)).map fun v => v.category).sum ≤ 8 := by rw [List.map_map]; exact hst
  show 2 * 0 + ((st.map (cv G)).map fun v => v.category).sum + 12 ≤ _
  omega
/-- System.arraycopy of the first n places, between two different int arrays -/
theorem x_copy {idx a b n0 n1 : Nat} {f g : Nat → Int} {n : Int} (hd : decode M.2.1 pc = .ok (.invokestatic idx, 3)) (hw : Cond.methodLink M.1.cls idx arraycopyName ∈ lw_g) (hw2 : Cond.native arraycopyName ∈ lw_g) (hw3 : Cond.static arraycopyName ∈ lw_g) (hw4 : Cond.initialized "java/lang/System" ∈ lw_g) (hdd : 2 ≤ d) (hst : (st.map fun v => (cv G v).category).sum ≤ 8)
    (hab : a ≠ b) (ha : a < sz) (hb : b < sz) (ca : hp a = ar 0 n0 f) (cb : hp b = ar 0 n1 g) (hn : 0 ≤ n) (hn0 : n ≤ n0) (hn1 : n ≤ n1) (k : Ex G d rc rs M (pc + 3) ls st (up hp b (ar 0 n1 (fun j => if j < n.toNat then f j else g j))) sz Q) : Ex G d rc rs M pc ls (vi n :: vi 0 :: vr b :: vi 0 :: vr a :: st) hp sz Q := by
  intro p l e R s m args below meth c H locs cells slots lsR C h1 h2 h3 h4 h5
  obtain ⟨c1, c2, c3, c4, c5, c6, c7, c8, c9, c10, c11⟩ := id C
  obtain ⟨ga, -, ga2⟩ := ar_at h3 ca ha
  obtain ⟨gb, -, gb2⟩ := ar_at h3 cb hb
  have hsz := h3.2.1
  have hea := ad_lt (G := G) ha hsz
  have heb := ad_lt (G := G) hb hsz
  have hcl : (Int32.ofInt n).toNatClampNeg = n.toNat := by
    have h := oi (x := n) (by omega)
    show (Int32.ofInt n).toInt.toNat = n.toNat
    rw [h]
  have hc0 : (Int32.ofInt 0).toNatClampNeg = 0 := by decide +kernel
  have hnn : ¬ Int32.ofInt n < 0 := by rw [← oi_0, oi_lt (by omega) (by omega)]; omega
  have hn00 : ¬ Int32.ofInt 0 < 0 := by decide +kernel
  intro T hT X
  have hc0' : H[ad G a]? = some (arrV (G.2.2.1 0) n0 (fun j => .int (Int32.ofInt (f j)))) := ga2
  have hc1' : H[ad G b]? = some (arrV (G.2.2.1 0) n1 (fun j => .int (Int32.ofInt (g j)))) := gb2
  obtain ⟨-, k0, hk0, cm0, hkk0⟩ := c9.arr (k := 0) rfl n0 (fun j => .int (Int32.ofInt (f j)))
  obtain ⟨-, k1, hk1, cm1, hkk1⟩ := c9.arr (k := 0) rfl n1 (fun j => .int (Int32.ofInt (g j)))
  have ho0 : (Int32.ofInt 0).toInt = 0 := by decide +kernel
  have hoN : (Int32.ofInt n).toInt = n := oi (by omega)
  have h9 : nativeFrameWords "java/lang/System" "arraycopy" 5 + 11 ≤ 100 := by decide +kernel
  have hsum : ((st.map (cv G)).map fun v => v.category).sum ≤ 8 := by rw [List.map_map]; exact hst
  obtain ⟨vm', X', step⟩ := X.arraycopy c1 c6 (C.word hw) (C.word hw2) (C.word hw3) (C.word hw4) (src := ad G a) (dst := ad G b) (cs := arrV (G.2.2.1 0) n0 (fun j => .int (Int32.ofInt (f j)))) (cd := arrV (G.2.2.1 0) n1 (fun j => .int (Int32.ofInt (g j)))) (srcPos := Int32.ofInt 0) (destPos := Int32.ofInt 0) (n := Int32.ofInt n) (by rw [hT]; exact hc0') (by rw [hT]; exact hc1')
    (fun _ h => by cases h) (fun _ h => by cases h) (fun h => by cases h) (fun h => by cases h) hk0 hk1 hkk0 hkk1 (by simp [refKind]) hn00 hn00 hnn
    (by rw [ho0, hoN, arrV_size]; omega) (by rw [ho0, hoN, arrV_size]; omega)
    (fun vm₁ _ i hi => by
      have e : (arrV (G.2.2.1 0) n0 (fun j => .int (Int32.ofInt (f j)))).slots.getD ((Int32.ofInt 0).toNatClampNeg + i) .null = .int (Int32.ofInt (f i)) := by
        rw [hcl] at hi
        rw [hc0, Nat.zero_add, Array.getD_eq_getD_getElem?, arrV_read _ _ (by omega)]
        rfl
      refine ⟨?_, ?_⟩
      · rw [e]
        rfl
      · rw [e]
        exact trivial)
    (g := F0 m pc lsR ((vi n :: vi 0 :: vr b :: vi 0 :: vr a :: st).map (cv G))) rfl (h5.1.trans c5.symm) (rest := st.map (cv G)) rfl (by rw [c2]; exact hd) (by omega) (by show 2 * 0 + _ + _ ≤ _; omega)
  have e1 : copied (arrV (G.2.2.1 0) n0 (fun j => .int (Int32.ofInt (f j)))) (arrV (G.2.2.1 0) n1 (fun j => .int (Int32.ofInt (g j)))) (Int32.ofInt 0) (Int32.ofInt 0) (Int32.ofInt n) = arrV (G.2.2.1 0) n1 (fun j => el 0 (if j < n.toNat then f j else g j)) := by
    refine (va_copied (fun z => .int z) (G.2.2.1 0) (G.2.2.1 0) (fun j => Int32.ofInt (f j)) (fun j => Int32.ofInt (g j)) (n0 := n0) (n1 := n1) (sp := (Int32.ofInt 0).toNatClampNeg) (dp := (Int32.ofInt 0).toNatClampNeg) (n := (Int32.ofInt n).toNatClampNeg) (by rw [hc0, hcl]; omega)).trans ?_
    rw [hc0, hcl]
    refine congrArg _ ?_
    funext j
    simp only [va_cpy, Nat.zero_le, true_and, Nat.zero_add, Nat.sub_zero]
    by_cases hj : j < n.toNat
    · simp [hj, el]
    · simp [hj, el]
  rw [e1] at X' step
  have hl : ad G b < H.size := (Array.getElem?_eq_some_iff.mp hc1').1
  have hheap : ((T.setVm vm').setCell (ad G b) (arrV (G.2.2.1 0) n1 (fun j => el 0 (if j < n.toNat then f j else g j)))).heap = H.setIfInBounds (ad G b) (arrV (G.2.2.1 0) n1 (fun j => el 0 (if j < n.toNat then f j else g j))) := by rw [← hT]; rfl
  obtain ⟨t, a1, b1⟩ := k p l e R s m args below meth c _ _ cells slots lsR C h1 h2 (h3.set (H1 := H.setIfInBounds (ad G b) (arrV (G.2.2.1 0) n1 (fun j => el 0 (if j < n.toNat then f j else g j)))) hb ⟨gb, by dsimp only; decide, by simp [Array.getElem?_setIfInBounds, hl]⟩ (by simp) (fun q hq => by simp [Array.getElem?_setIfInBounds, Ne.symm hq])) (lo_app h4 (fun q hq => by
      obtain ⟨z, -, hz⟩ := List.mem_map.mp hq
      rw [← hz]
      show (gH G).size ≤ ad G b
      omega)) h5 _ hheap X'
  exact ⟨t, step t a1, b1⟩
end XN
