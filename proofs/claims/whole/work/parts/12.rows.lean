section XR
variable {G : GL} {d rc rs : Nat} {M : MD} {pc : Nat} {ls st : List AV} {hp : HP} {sz : Nat} {Q : Option AV → HP → Nat → Prop}
theorem x_iload {i : Nat} {x : Int} (hd : decode M.2.1 pc = .ok (.iload i, 2)) (hl : ls[i]? = some (vi x)) (k : Ex G d rc rs M (pc + 2) ls (vi x :: st) hp sz Q) : Ex G d rc rs M pc ls st hp sz Q := by
  intro p l e R s m args below meth c H locs cells slots lsR C h1 h2 h3 h4 h5
  exact lv_iload C.1 C.2.1 hd (h5.at hl rfl) (k p l e R s m args below meth c H locs cells slots lsR C h1 h2 h3 h4 h5)
theorem x_iload_n {n : Fin 4} {x : Int} (hd : decode M.2.1 pc = .ok (.iload_n n, 1)) (hl : ls[(n : Nat)]? = some (vi x)) (k : Ex G d rc rs M (pc + 1) ls (vi x :: st) hp sz Q) : Ex G d rc rs M pc ls st hp sz Q := by
  intro p l e R s m args below meth c H locs cells slots lsR C h1 h2 h3 h4 h5
  exact lv_iload_n C.1 C.2.1 hd rfl (h5.at hl rfl) (k p l e R s m args below meth c H locs cells slots lsR C h1 h2 h3 h4 h5)
theorem x_aload {i : Nat} {x : Nat} (hd : decode M.2.1 pc = .ok (.aload i, 2)) (hl : ls[i]? = some (vr x)) (k : Ex G d rc rs M (pc + 2) ls (vr x :: st) hp sz Q) : Ex G d rc rs M pc ls st hp sz Q := by
  intro p l e R s m args below meth c H locs cells slots lsR C h1 h2 h3 h4 h5
  exact lv_aload C.1 C.2.1 hd (h5.at hl rfl) (k p l e R s m args below meth c H locs cells slots lsR C h1 h2 h3 h4 h5)
theorem x_aload_n {n : Fin 4} {x : Nat} (hd : decode M.2.1 pc = .ok (.aload_n n, 1)) (hl : ls[(n : Nat)]? = some (vr x)) (k : Ex G d rc rs M (pc + 1) ls (vr x :: st) hp sz Q) : Ex G d rc rs M pc ls st hp sz Q := by
  intro p l e R s m args below meth c H locs cells slots lsR C h1 h2 h3 h4 h5
  exact lv_aload_n C.1 C.2.1 hd rfl (h5.at hl rfl) (k p l e R s m args below meth c H locs cells slots lsR C h1 h2 h3 h4 h5)
theorem x_lload {i : Nat} {x : Int} (hd : decode M.2.1 pc = .ok (.lload i, 2)) (hl : ls[i]? = some (vl x)) (k : Ex G d rc rs M (pc + 2) ls (vl x :: st) hp sz Q) : Ex G d rc rs M pc ls st hp sz Q := by
  intro p l e R s m args below meth c H locs cells slots lsR C h1 h2 h3 h4 h5
  exact lv_lload C.1 C.2.1 hd (h5.at hl rfl) (k p l e R s m args below meth c H locs cells slots lsR C h1 h2 h3 h4 h5)
theorem x_lload_n {n : Fin 4} {x : Int} (hd : decode M.2.1 pc = .ok (.lload_n n, 1)) (hl : ls[(n : Nat)]? = some (vl x)) (k : Ex G d rc rs M (pc + 1) ls (vl x :: st) hp sz Q) : Ex G d rc rs M pc ls st hp sz Q := by
  intro p l e R s m args below meth c H locs cells slots lsR C h1 h2 h3 h4 h5
  exact lv_lload_n C.1 C.2.1 hd rfl (h5.at hl rfl) (k p l e R s m args below meth c H locs cells slots lsR C h1 h2 h3 h4 h5)
theorem x_istore {i : Nat} {x : Int} (hd : decode M.2.1 pc = .ok (.istore i, 2)) (hn : i < M.2.2.1) (hno : noL ls i = true) (k : Ex G d rc rs M (pc + 2) (ls.set i (vi x)) st hp sz Q) : Ex G d rc rs M pc ls (vi x :: st) hp sz Q := by
  intro p l e R s m args below meth c H locs cells slots lsR C h1 h2 h3 h4 h5
  exact lv_istore C.1 C.2.1 hd h5 hn rfl (fun ls' h' => k p l e R s m args below meth c H locs cells slots ls' C h1 h2 h3 h4 (lh_set hno h'))
theorem x_istore_n {n : Fin 4} {x : Int} (hd : decode M.2.1 pc = .ok (.istore_n n, 1)) (hn : (n : Nat) < M.2.2.1) (hno : noL ls (n : Nat) = true) (k : Ex G d rc rs M (pc + 1) (ls.set (n : Nat) (vi x)) st hp sz Q) : Ex G d rc rs M pc ls (vi x :: st) hp sz Q := by
  intro p l e R s m args below meth c H locs cells slots lsR C h1 h2 h3 h4 h5
  exact lv_istore_n C.1 C.2.1 hd rfl h5 hn rfl (fun ls' h' => k p l e R s m args below meth c H locs cells slots ls' C h1 h2 h3 h4 (lh_set hno h'))
theorem x_astore {i : Nat} {x : Nat} (hd : decode M.2.1 pc = .ok (.astore i, 2)) (hn : i < M.2.2.1) (hno : noL ls i = true) (k : Ex G d rc rs M (pc + 2) (ls.set i (vr x)) st hp sz Q) : Ex G d rc rs M pc ls (vr x :: st) hp sz Q := by
  intro p l e R s m args below meth c H locs cells slots lsR C h1 h2 h3 h4 h5
  exact lv_astore C.1 C.2.1 hd h5 hn rfl (fun ls' h' => k p l e R s m args below meth c H locs cells slots ls' C h1 h2 h3 h4 (lh_set hno h'))
theorem x_astore_n {n : Fin 4} {x : Nat} (hd : decode M.2.1 pc = .ok (.astore_n n, 1)) (hn : (n : Nat) < M.2.2.1) (hno : noL ls (n : Nat) = true) (k : Ex G d rc rs M (pc + 1) (ls.set (n : Nat) (vr x)) st hp sz Q) : Ex G d rc rs M pc ls (vr x :: st) hp sz Q := by
  intro p l e R s m args below meth c H locs cells slots lsR C h1 h2 h3 h4 h5
  exact lv_astore_n C.1 C.2.1 hd rfl h5 hn rfl (fun ls' h' => k p l e R s m args below meth c H locs cells slots ls' C h1 h2 h3 h4 (lh_set hno h'))
theorem x_lstore {i : Nat} {x : Int} (hd : decode M.2.1 pc = .ok (.lstore i, 2)) (hn : i + 1 < M.2.2.1) (hno : noL ls i = true) (k : Ex G d rc rs M (pc + 2) ((ls.set i (vl x)).set (i + 1) vu) st hp sz Q) : Ex G d rc rs M pc ls (vl x :: st) hp sz Q := by
  intro p l e R s m args below meth c H locs cells slots lsR C h1 h2 h3 h4 h5
  exact lv_lstore C.1 C.2.1 hd h5 hn rfl (fun ls' h' => k p l e R s m args below meth c H locs cells slots ls' C h1 h2 h3 h4 (lh_setl hno h'))
theorem x_iinc {i : Nat} {n x : Int} (hd : decode M.2.1 pc = .ok (.iinc i n, 3)) (hl : ls[i]? = some (vi x)) (hn : i < M.2.2.1) (hno : noL ls i = true) (k : Ex G d rc rs M (pc + 3) (ls.set i (vi (x + n))) st hp sz Q) : Ex G d rc rs M pc ls st hp sz Q := by
  intro p l e R s m args below meth c H locs cells slots lsR C h1 h2 h3 h4 h5
  have hm : (i, cv G (vi x)) ∈ prs G 0 ls := (prs_mem ls 0 (i, cv G (vi x))).mpr ⟨vi x, Nat.zero_le _, hl, rfl, rfl⟩
  obtain ⟨j, hj⟩ := List.getElem?_of_mem hm
  exact lv_iinc C.1 C.2.1 hd h5 hj (v := Int32.ofInt (x + n)) (by rw [Int32.ofInt_add]) hn rfl (fun ls' h' => k p l e R s m args below meth c H locs cells slots ls' C h1 h2 h3 h4 (lh_set (v := vi (x + n)) hno h'))
theorem x_iconst {n : Int} (hd : decode M.2.1 pc = .ok (.iconst n, 1)) (k : Ex G d rc rs M (pc + 1) ls (vi n :: st) hp sz Q) : Ex G d rc rs M pc ls st hp sz Q := by
  intro p l e R s m args below meth c H locs cells slots lsR C h1 h2 h3 h4 h5
  exact lv_iconst C.1 C.2.1 hd rfl (k p l e R s m args below meth c H locs cells slots lsR C h1 h2 h3 h4 h5)
theorem x_bipush {n : Int} (hd : decode M.2.1 pc = .ok (.bipush n, 2)) (hn : -128 ≤ n ∧ n < 128) (k : Ex G d rc rs M (pc + 2) ls (vi n :: st) hp sz Q) : Ex G d rc rs M pc ls st hp sz Q := by
  intro p l e R s m args below meth c H locs cells slots lsR C h1 h2 h3 h4 h5
  exact lv_bipush C.1 C.2.1 hd (oi_8 hn) (k p l e R s m args below meth c H locs cells slots lsR C h1 h2 h3 h4 h5)
theorem x_sipush {n : Int} (hd : decode M.2.1 pc = .ok (.sipush n, 3)) (hn : -32768 ≤ n ∧ n < 32768) (k : Ex G d rc rs M (pc + 3) ls (vi n :: st) hp sz Q) : Ex G d rc rs M pc ls st hp sz Q := by
  intro p l e R s m args below meth c H locs cells slots lsR C h1 h2 h3 h4 h5
  exact lv_sipush C.1 C.2.1 hd (oi_16 hn) (k p l e R s m args below meth c H locs cells slots lsR C h1 h2 h3 h4 h5)
theorem x_lconst {n : Fin 2} (hd : decode M.2.1 pc = .ok (.lconst n, 1)) (k : Ex G d rc rs M (pc + 1) ls (vl ((n : Nat) : Int) :: st) hp sz Q) : Ex G d rc rs M pc ls st hp sz Q := by
  intro p l e R s m args below meth c H locs cells slots lsR C h1 h2 h3 h4 h5
  exact lv_lconst C.1 C.2.1 hd (by first | rfl | (match n with | 0 => decide +kernel | 1 => decide +kernel)) (k p l e R s m args below meth c H locs cells slots lsR C h1 h2 h3 h4 h5)
theorem x_goto {off : Int} {tgt : Nat} (hd : decode M.2.1 pc = .ok (.goto off, 3)) (ht : (pc : Int) + off = (tgt : Int)) (k : Ex G d rc rs M tgt ls st hp sz Q) : Ex G d rc rs M pc ls st hp sz Q := by
  intro p l e R s m args below meth c H locs cells slots lsR C h1 h2 h3 h4 h5
  exact lv_goto C.1 C.2.1 hd ht (k p l e R s m args below meth c H locs cells slots lsR C h1 h2 h3 h4 h5)
theorem x_dupi {x : Int} (hd : decode M.2.1 pc = .ok (.dup, 1)) (k : Ex G d rc rs M (pc + 1) ls (vi x :: vi x :: st) hp sz Q) : Ex G d rc rs M pc ls (vi x :: st) hp sz Q := by
  intro p l e R s m args below meth c H locs cells slots lsR C h1 h2 h3 h4 h5
  exact lv_dup C.1 C.2.1 hd rfl (k p l e R s m args below meth c H locs cells slots lsR C h1 h2 h3 h4 h5)
theorem x_dupr {x : Nat} (hd : decode M.2.1 pc = .ok (.dup, 1)) (k : Ex G d rc rs M (pc + 1) ls (vr x :: vr x :: st) hp sz Q) : Ex G d rc rs M pc ls (vr x :: st) hp sz Q := by
  intro p l e R s m args below meth c H locs cells slots lsR C h1 h2 h3 h4 h5
  exact lv_dup C.1 C.2.1 hd rfl (k p l e R s m args below meth c H locs cells slots lsR C h1 h2 h3 h4 h5)
theorem x_popi {x : Int} (hd : decode M.2.1 pc = .ok (.pop, 1)) (k : Ex G d rc rs M (pc + 1) ls st hp sz Q) : Ex G d rc rs M pc ls (vi x :: st) hp sz Q := by
  intro p l e R s m args below meth c H locs cells slots lsR C h1 h2 h3 h4 h5
  exact lv_pop C.1 C.2.1 hd rfl (k p l e R s m args below meth c H locs cells slots lsR C h1 h2 h3 h4 h5)
theorem x_iadd {x y : Int} (hd : decode M.2.1 pc = .ok (.iadd, 1)) (k : Ex G d rc rs M (pc + 1) ls (vi (x + y) :: st) hp sz Q) : Ex G d rc rs M pc ls (vi y :: vi x :: st) hp sz Q := by
  intro p l e R s m args below meth c H locs cells slots lsR C h1 h2 h3 h4 h5
  refine lv_iadd C.1 C.2.1 hd ?_
  rw [← Int32.ofInt_add]
  exact k p l e R s m args below meth c H locs cells slots lsR C h1 h2 h3 h4 h5
theorem x_isub {x y : Int} (hd : decode M.2.1 pc = .ok (.isub, 1)) (k : Ex G d rc rs M (pc + 1) ls (vi (x - y) :: st) hp sz Q) : Ex G d rc rs M pc ls (vi y :: vi x :: st) hp sz Q := by
  intro p l e R s m args below meth c H locs cells slots lsR C h1 h2 h3 h4 h5
  refine lv_isub C.1 C.2.1 hd ?_
  rw [← Int32.ofInt_sub]
  exact k p l e R s m args below meth c H locs cells slots lsR C h1 h2 h3 h4 h5
theorem x_imul {x y : Int} (hd : decode M.2.1 pc = .ok (.imul, 1)) (k : Ex G d rc rs M (pc + 1) ls (vi (x * y) :: st) hp sz Q) : Ex G d rc rs M pc ls (vi y :: vi x :: st) hp sz Q := by
  intro p l e R s m args below meth c H locs cells slots lsR C h1 h2 h3 h4 h5
  refine lv_imul C.1 C.2.1 hd ?_
  rw [← Int32.ofInt_mul]
  exact k p l e R s m args below meth c H locs cells slots lsR C h1 h2 h3 h4 h5
theorem x_lsub {x y : Int} (hd : decode M.2.1 pc = .ok (.lsub, 1)) (k : Ex G d rc rs M (pc + 1) ls (vl (x - y) :: st) hp sz Q) : Ex G d rc rs M pc ls (vl y :: vl x :: st) hp sz Q := by
  intro p l e R s m args below meth c H locs cells slots lsR C h1 h2 h3 h4 h5
  refine lv_lsub C.1 C.2.1 hd ?_
  rw [← Int64.ofInt_sub]
  exact k p l e R s m args below meth c H locs cells slots lsR C h1 h2 h3 h4 h5
theorem x_lmul {x y : Int} (hd : decode M.2.1 pc = .ok (.lmul, 1)) (k : Ex G d rc rs M (pc + 1) ls (vl (x * y) :: st) hp sz Q) : Ex G d rc rs M pc ls (vl y :: vl x :: st) hp sz Q := by
  intro p l e R s m args below meth c H locs cells slots lsR C h1 h2 h3 h4 h5
  refine lv_lmul C.1 C.2.1 hd ?_
  rw [← Int64.ofInt_mul]
  exact k p l e R s m args below meth c H locs cells slots lsR C h1 h2 h3 h4 h5
theorem x_ineg {x : Int} (hd : decode M.2.1 pc = .ok (.ineg, 1)) (k : Ex G d rc rs M (pc + 1) ls (vi (-x) :: st) hp sz Q) : Ex G d rc rs M pc ls (vi x :: st) hp sz Q := by
  intro p l e R s m args below meth c H locs cells slots lsR C h1 h2 h3 h4 h5
  refine lv_ineg C.1 C.2.1 hd ?_
  rw [← Int32.ofInt_neg]
  exact k p l e R s m args below meth c H locs cells slots lsR C h1 h2 h3 h4 h5
theorem x_lneg {x : Int} (hd : decode M.2.1 pc = .ok (.lneg, 1)) (k : Ex G d rc rs M (pc + 1) ls (vl (-x) :: st) hp sz Q) : Ex G d rc rs M pc ls (vl x :: st) hp sz Q := by
  intro p l e R s m args below meth c H locs cells slots lsR C h1 h2 h3 h4 h5
  refine lv_lneg C.1 C.2.1 hd ?_
  rw [← Int64.ofInt_neg]
  exact k p l e R s m args below meth c H locs cells slots lsR C h1 h2 h3 h4 h5
theorem x_idiv {x y : Int} (hd : decode M.2.1 pc = .ok (.idiv, 1)) (hx : -2147483648 ≤ x ∧ x < 2147483648) (hy : 0 < y ∧ y < 2147483648) (k : Ex G d rc rs M (pc + 1) ls (vi (x.tdiv y) :: st) hp sz Q) : Ex G d rc rs M pc ls (vi y :: vi x :: st) hp sz Q := by
  intro p l e R s m args below meth c H locs cells slots lsR C h1 h2 h3 h4 h5
  refine lv_idiv C.1 C.2.1 hd (fun h => ?_) ?_
  · rw [← oi_0, oi_eq (by omega) (by omega)] at h
    omega
  · rw [oi_div hx hy]
    exact k p l e R s m args below meth c H locs cells slots lsR C h1 h2 h3 h4 h5
theorem x_irem {x y : Int} (hd : decode M.2.1 pc = .ok (.irem, 1)) (hx : -2147483648 ≤ x ∧ x < 2147483648) (hy : 0 < y ∧ y < 2147483648) (k : Ex G d rc rs M (pc + 1) ls (vi (x.tmod y) :: st) hp sz Q) : Ex G d rc rs M pc ls (vi y :: vi x :: st) hp sz Q := by
  intro p l e R s m args below meth c H locs cells slots lsR C h1 h2 h3 h4 h5
  refine lv_irem C.1 C.2.1 hd (fun h => ?_) ?_
  · rw [← oi_0, oi_eq (by omega) (by omega)] at h
    omega
  · rw [oi_rem hx hy]
    exact k p l e R s m args below meth c H locs cells slots lsR C h1 h2 h3 h4 h5
theorem x_ldiv {x y : Int} (hd : decode M.2.1 pc = .ok (.ldiv, 1)) (hx : -9223372036854775808 < x ∧ x < 9223372036854775808) (hy : -9223372036854775808 ≤ y ∧ y < 9223372036854775808) (h0 : y ≠ 0) (k : Ex G d rc rs M (pc + 1) ls (vl (x.tdiv y) :: st) hp sz Q) : Ex G d rc rs M pc ls (vl y :: vl x :: st) hp sz Q := by
  intro p l e R s m args below meth c H locs cells slots lsR C h1 h2 h3 h4 h5
  refine lv_ldiv C.1 C.2.1 hd (fun h => ?_) ?_
  · rw [show (0 : Int64) = Int64.ofInt 0 by decide +kernel, ol_eq (by omega) (by omega)] at h
    omega
  · rw [ol_div hx hy h0]
    exact k p l e R s m args below meth c H locs cells slots lsR C h1 h2 h3 h4 h5
theorem x_lcmp {x y : Int} (hd : decode M.2.1 pc = .ok (.lcmp, 1)) (hx : -9223372036854775808 ≤ x ∧ x < 9223372036854775808) (hy : -9223372036854775808 ≤ y ∧ y < 9223372036854775808) (k : Ex G d rc rs M (pc + 1) ls (vi (lc x y) :: st) hp sz Q) : Ex G d rc rs M pc ls (vl y :: vl x :: st) hp sz Q := by
  intro p l e R s m args below meth c H locs cells slots lsR C h1 h2 h3 h4 h5
  refine W.lcmp C.1 C.2.1 hd ?_
  rw [lc_cmp hx hy]
  exact k p l e R s m args below meth c H locs cells slots lsR C h1 h2 h3 h4 h5
theorem x_ishr {x y : Int} (hd : decode M.2.1 pc = .ok (.ishr, 1)) (hx : -2147483648 ≤ x ∧ x < 2147483648) (hy : 0 ≤ y ∧ y < 32) (k : Ex G d rc rs M (pc + 1) ls (vi (x / 2 ^ y.toNat) :: st) hp sz Q) : Ex G d rc rs M pc ls (vi y :: vi x :: st) hp sz Q := by
  intro p l e R s m args below meth c H locs cells slots lsR C h1 h2 h3 h4 h5
  refine lv_ishr C.1 C.2.1 hd ?_
  rw [oi_shr hx hy.1 hy.2]
  exact k p l e R s m args below meth c H locs cells slots lsR C h1 h2 h3 h4 h5
theorem x_ishl1 {y : Int} (hd : decode M.2.1 pc = .ok (.ishl, 1)) (hy : 0 ≤ y ∧ y < 31) (k : Ex G d rc rs M (pc + 1) ls (vi (2 ^ y.toNat) :: st) hp sz Q) : Ex G d rc rs M pc ls (vi y :: vi 1 :: st) hp sz Q := by
  intro p l e R s m args below meth c H locs cells slots lsR C h1 h2 h3 h4 h5
  refine lv_ishl C.1 C.2.1 hd ?_
  have h9 := oi_shl1 y.toNat (by omega)
  rw [show ((y.toNat : Nat) : Int) = y by omega] at h9
  rw [show Int32.ofInt 1 = 1 by decide +kernel, h9]
  exact k p l e R s m args below meth c H locs cells slots lsR C h1 h2 h3 h4 h5
theorem x_iand {x y : Int} (j : Nat) (hd : decode M.2.1 pc = .ok (.iand, 1)) (hj : j ≤ 31) (hy : (Int32.ofInt y).toBitVec.toNat = 2 ^ j - 1) (k : Ex G d rc rs M (pc + 1) ls (vi (x % 2 ^ j) :: st) hp sz Q) : Ex G d rc rs M pc ls (vi y :: vi x :: st) hp sz Q := by
  intro p l e R s m args below meth c H locs cells slots lsR C h1 h2 h3 h4 h5
  refine lv_iand C.1 C.2.1 hd ?_
  rw [oi_and j hj hy]
  exact k p l e R s m args below meth c H locs cells slots lsR C h1 h2 h3 h4 h5
theorem x_ixor {x y : Int} (hd : decode M.2.1 pc = .ok (.ixor, 1)) (k : Ex G d rc rs M (pc + 1) ls (vi (xr x y) :: st) hp sz Q) : Ex G d rc rs M pc ls (vi y :: vi x :: st) hp sz Q := by
  intro p l e R s m args below meth c H locs cells slots lsR C h1 h2 h3 h4 h5
  refine lv_ixor C.1 C.2.1 hd ?_
  rw [oi_xr]
  exact k p l e R s m args below meth c H locs cells slots lsR C h1 h2 h3 h4 h5
theorem x_i2b {x : Int} (hd : decode M.2.1 pc = .ok (.i2b, 1)) (hx : -128 ≤ x ∧ x < 128) (k : Ex G d rc rs M (pc + 1) ls (vi x :: st) hp sz Q) : Ex G d rc rs M pc ls (vi x :: st) hp sz Q := by
  intro p l e R s m args below meth c H locs cells slots lsR C h1 h2 h3 h4 h5
  exact lv_i2b C.1 C.2.1 hd (oi_b hx) (k p l e R s m args below meth c H locs cells slots lsR C h1 h2 h3 h4 h5)
theorem x_icmp_ge {x y : Int} {off : Int} {tgt : Nat} (hd : decode M.2.1 pc = .ok (.if_icmp .ge off, 3)) (ht : (pc : Int) + off = (tgt : Int)) (hx : -2147483648 ≤ x ∧ x < 2147483648) (hy : -2147483648 ≤ y ∧ y < 2147483648) (kt : y ≤ x → Ex G d rc rs M tgt ls st hp sz Q) (kf : x < y → Ex G d rc rs M (pc + 3) ls st hp sz Q) : Ex G d rc rs M pc ls (vi y :: vi x :: st) hp sz Q := by
  intro p l e R s m args below meth c H locs cells slots lsR C h1 h2 h3 h4 h5
  refine lv_icmp_ge C.1 C.2.1 hd ht (fun h => kt ((oi_le hy hx).mp h) p l e R s m args below meth c H locs cells slots lsR C h1 h2 h3 h4 h5) (fun h => kf (by have h9 := h; rw [oi_le hy hx] at h9; omega) p l e R s m args below meth c H locs cells slots lsR C h1 h2 h3 h4 h5)
theorem x_if_ge {x : Int} {off : Int} {tgt : Nat} (hd : decode M.2.1 pc = .ok (.ifCond .ge off, 3)) (ht : (pc : Int) + off = (tgt : Int)) (hx : -2147483648 ≤ x ∧ x < 2147483648) (kt : 0 ≤ x → Ex G d rc rs M tgt ls st hp sz Q) (kf : x < 0 → Ex G d rc rs M (pc + 3) ls st hp sz Q) : Ex G d rc rs M pc ls (vi x :: st) hp sz Q := by
  intro p l e R s m args below meth c H locs cells slots lsR C h1 h2 h3 h4 h5
  have h0 : -2147483648 ≤ (0 : Int) ∧ (0 : Int) < 2147483648 := by omega
  refine lv_if_ge C.1 C.2.1 hd ht (fun h => kt (by have h9 := h; rw [← oi_0] at h9; exact (oi_le h0 hx).mp h9) p l e R s m args below meth c H locs cells slots lsR C h1 h2 h3 h4 h5) (fun h => kf (by have h9 := h; rw [← oi_0, oi_le h0 hx] at h9; omega) p l e R s m args below meth c H locs cells slots lsR C h1 h2 h3 h4 h5)
theorem x_icmp_lt {x y : Int} {off : Int} {tgt : Nat} (hd : decode M.2.1 pc = .ok (.if_icmp .lt off, 3)) (ht : (pc : Int) + off = (tgt : Int)) (hx : -2147483648 ≤ x ∧ x < 2147483648) (hy : -2147483648 ≤ y ∧ y < 2147483648) (kt : x < y → Ex G d rc rs M tgt ls st hp sz Q) (kf : y ≤ x → Ex G d rc rs M (pc + 3) ls st hp sz Q) : Ex G d rc rs M pc ls (vi y :: vi x :: st) hp sz Q := by
  intro p l e R s m args below meth c H locs cells slots lsR C h1 h2 h3 h4 h5
  refine lv_icmp_lt C.1 C.2.1 hd ht (fun h => kt ((oi_lt hx hy).mp h) p l e R s m args below meth c H locs cells slots lsR C h1 h2 h3 h4 h5) (fun h => kf (by have h9 := h; rw [oi_lt hx hy] at h9; omega) p l e R s m args below meth c H locs cells slots lsR C h1 h2 h3 h4 h5)
theorem x_if_lt {x : Int} {off : Int} {tgt : Nat} (hd : decode M.2.1 pc = .ok (.ifCond .lt off, 3)) (ht : (pc : Int) + off = (tgt : Int)) (hx : -2147483648 ≤ x ∧ x < 2147483648) (kt : x < 0 → Ex G d rc rs M tgt ls st hp sz Q) (kf : 0 ≤ x → Ex G d rc rs M (pc + 3) ls st hp sz Q) : Ex G d rc rs M pc ls (vi x :: st) hp sz Q := by
  intro p l e R s m args below meth c H locs cells slots lsR C h1 h2 h3 h4 h5
  have h0 : -2147483648 ≤ (0 : Int) ∧ (0 : Int) < 2147483648 := by omega
  refine lv_if_lt C.1 C.2.1 hd ht (fun h => kt (by have h9 := h; rw [← oi_0] at h9; exact (oi_lt hx h0).mp h9) p l e R s m args below meth c H locs cells slots lsR C h1 h2 h3 h4 h5) (fun h => kf (by have h9 := h; rw [← oi_0, oi_lt hx h0] at h9; omega) p l e R s m args below meth c H locs cells slots lsR C h1 h2 h3 h4 h5)
theorem x_icmp_le {x y : Int} {off : Int} {tgt : Nat} (hd : decode M.2.1 pc = .ok (.if_icmp .le off, 3)) (ht : (pc : Int) + off = (tgt : Int)) (hx : -2147483648 ≤ x ∧ x < 2147483648) (hy : -2147483648 ≤ y ∧ y < 2147483648) (kt : x ≤ y → Ex G d rc rs M tgt ls st hp sz Q) (kf : y < x → Ex G d rc rs M (pc + 3) ls st hp sz Q) : Ex G d rc rs M pc ls (vi y :: vi x :: st) hp sz Q := by
  intro p l e R s m args below meth c H locs cells slots lsR C h1 h2 h3 h4 h5
  refine lv_icmp_le C.1 C.2.1 hd ht (fun h => kt ((oi_le hx hy).mp h) p l e R s m args below meth c H locs cells slots lsR C h1 h2 h3 h4 h5) (fun h => kf (by have h9 := h; rw [oi_le hx hy] at h9; omega) p l e R s m args below meth c H locs cells slots lsR C h1 h2 h3 h4 h5)
theorem x_if_le {x : Int} {off : Int} {tgt : Nat} (hd : decode M.2.1 pc = .ok (.ifCond .le off, 3)) (ht : (pc : Int) + off = (tgt : Int)) (hx : -2147483648 ≤ x ∧ x < 2147483648) (kt : x ≤ 0 → Ex G d rc rs M tgt ls st hp sz Q) (kf : 0 < x → Ex G d rc rs M (pc + 3) ls st hp sz Q) : Ex G d rc rs M pc ls (vi x :: st) hp sz Q := by
  intro p l e R s m args below meth c H locs cells slots lsR C h1 h2 h3 h4 h5
  have h0 : -2147483648 ≤ (0 : Int) ∧ (0 : Int) < 2147483648 := by omega
  refine lv_if_le C.1 C.2.1 hd ht (fun h => kt (by have h9 := h; rw [← oi_0] at h9; exact (oi_le hx h0).mp h9) p l e R s m args below meth c H locs cells slots lsR C h1 h2 h3 h4 h5) (fun h => kf (by have h9 := h; rw [← oi_0, oi_le hx h0] at h9; omega) p l e R s m args below meth c H locs cells slots lsR C h1 h2 h3 h4 h5)
theorem x_icmp_gt {x y : Int} {off : Int} {tgt : Nat} (hd : decode M.2.1 pc = .ok (.if_icmp .gt off, 3)) (ht : (pc : Int) + off = (tgt : Int)) (hx : -2147483648 ≤ x ∧ x < 2147483648) (hy : -2147483648 ≤ y ∧ y < 2147483648) (kt : y < x → Ex G d rc rs M tgt ls st hp sz Q) (kf : x ≤ y → Ex G d rc rs M (pc + 3) ls st hp sz Q) : Ex G d rc rs M pc ls (vi y :: vi x :: st) hp sz Q := by
  intro p l e R s m args below meth c H locs cells slots lsR C h1 h2 h3 h4 h5
  refine lv_icmp_gt C.1 C.2.1 hd ht (fun h => kt ((oi_lt hy hx).mp h) p l e R s m args below meth c H locs cells slots lsR C h1 h2 h3 h4 h5) (fun h => kf (by have h9 := h; rw [oi_lt hy hx] at h9; omega) p l e R s m args below meth c H locs cells slots lsR C h1 h2 h3 h4 h5)
theorem x_if_gt {x : Int} {off : Int} {tgt : Nat} (hd : decode M.2.1 pc = .ok (.ifCond .gt off, 3)) (ht : (pc : Int) + off = (tgt : Int)) (hx : -2147483648 ≤ x ∧ x < 2147483648) (kt : 0 < x → Ex G d rc rs M tgt ls st hp sz Q) (kf : x ≤ 0 → Ex G d rc rs M (pc + 3) ls st hp sz Q) : Ex G d rc rs M pc ls (vi x :: st) hp sz Q := by
  intro p l e R s m args below meth c H locs cells slots lsR C h1 h2 h3 h4 h5
  have h0 : -2147483648 ≤ (0 : Int) ∧ (0 : Int) < 2147483648 := by omega
  refine lv_if_gt C.1 C.2.1 hd ht (fun h => kt (by have h9 := h; rw [← oi_0] at h9; exact (oi_lt h0 hx).mp h9) p l e R s m args below meth c H locs cells slots lsR C h1 h2 h3 h4 h5) (fun h => kf (by have h9 := h; rw [← oi_0, oi_lt h0 hx] at h9; omega) p l e R s m args below meth c H locs cells slots lsR C h1 h2 h3 h4 h5)
theorem x_icmp_eq {x y : Int} {off : Int} {tgt : Nat} (hd : decode M.2.1 pc = .ok (.if_icmp .eq off, 3)) (ht : (pc : Int) + off = (tgt : Int)) (hx : -2147483648 ≤ x ∧ x < 2147483648) (hy : -2147483648 ≤ y ∧ y < 2147483648) (kt : x = y → Ex G d rc rs M tgt ls st hp sz Q) (kf : x ≠ y → Ex G d rc rs M (pc + 3) ls st hp sz Q) : Ex G d rc rs M pc ls (vi y :: vi x :: st) hp sz Q := by
  intro p l e R s m args below meth c H locs cells slots lsR C h1 h2 h3 h4 h5
  refine lv_icmp_eq C.1 C.2.1 hd ht (fun h => kt ((oi_eq hx hy).mp h) p l e R s m args below meth c H locs cells slots lsR C h1 h2 h3 h4 h5) (fun h => kf (fun z => h ((oi_eq hx hy).mpr z)) p l e R s m args below meth c H locs cells slots lsR C h1 h2 h3 h4 h5)
theorem x_if_eq {x : Int} {off : Int} {tgt : Nat} (hd : decode M.2.1 pc = .ok (.ifCond .eq off, 3)) (ht : (pc : Int) + off = (tgt : Int)) (hx : -2147483648 ≤ x ∧ x < 2147483648) (kt : x = 0 → Ex G d rc rs M tgt ls st hp sz Q) (kf : x ≠ 0 → Ex G d rc rs M (pc + 3) ls st hp sz Q) : Ex G d rc rs M pc ls (vi x :: st) hp sz Q := by
  intro p l e R s m args below meth c H locs cells slots lsR C h1 h2 h3 h4 h5
  have h0 : -2147483648 ≤ (0 : Int) ∧ (0 : Int) < 2147483648 := by omega
  refine lv_if_eq C.1 C.2.1 hd ht (fun h => kt (by have h9 := h; rw [← oi_0] at h9; exact (oi_eq hx h0).mp h9) p l e R s m args below meth c H locs cells slots lsR C h1 h2 h3 h4 h5) (fun h => kf (fun z => h (by rw [z]; exact oi_0)) p l e R s m args below meth c H locs cells slots lsR C h1 h2 h3 h4 h5)
theorem x_icmp_ne {x y : Int} {off : Int} {tgt : Nat} (hd : decode M.2.1 pc = .ok (.if_icmp .ne off, 3)) (ht : (pc : Int) + off = (tgt : Int)) (hx : -2147483648 ≤ x ∧ x < 2147483648) (hy : -2147483648 ≤ y ∧ y < 2147483648) (kt : x ≠ y → Ex G d rc rs M tgt ls st hp sz Q) (kf : x = y → Ex G d rc rs M (pc + 3) ls st hp sz Q) : Ex G d rc rs M pc ls (vi y :: vi x :: st) hp sz Q := by
  intro p l e R s m args below meth c H locs cells slots lsR C h1 h2 h3 h4 h5
  refine lv_icmp_ne C.1 C.2.1 hd ht (fun h => kt (fun z => h ((oi_eq hx hy).mpr z)) p l e R s m args below meth c H locs cells slots lsR C h1 h2 h3 h4 h5) (fun h => kf ((oi_eq hx hy).mp h) p l e R s m args below meth c H locs cells slots lsR C h1 h2 h3 h4 h5)
theorem x_if_ne {x : Int} {off : Int} {tgt : Nat} (hd : decode M.2.1 pc = .ok (.ifCond .ne off, 3)) (ht : (pc : Int) + off = (tgt : Int)) (hx : -2147483648 ≤ x ∧ x < 2147483648) (kt : x ≠ 0 → Ex G d rc rs M tgt ls st hp sz Q) (kf : x = 0 → Ex G d rc rs M (pc + 3) ls st hp sz Q) : Ex G d rc rs M pc ls (vi x :: st) hp sz Q := by
  intro p l e R s m args below meth c H locs cells slots lsR C h1 h2 h3 h4 h5
  have h0 : -2147483648 ≤ (0 : Int) ∧ (0 : Int) < 2147483648 := by omega
  refine lv_if_ne C.1 C.2.1 hd ht (fun h => kt (fun z => h (by rw [z]; exact oi_0)) p l e R s m args below meth c H locs cells slots lsR C h1 h2 h3 h4 h5) (fun h => kf ((oi_eq hx h0).mp (h.trans oi_0.symm)) p l e R s m args below meth c H locs cells slots lsR C h1 h2 h3 h4 h5)
theorem x_tableIn {dflt lo hi : Int} {offs : Array Int} {len : Nat} {x off : Int} {tgt : Nat} (hd : decode M.2.1 pc = .ok (.tableswitch dflt lo hi offs, len)) (hx : -2147483648 ≤ x ∧ x < 2147483648) (g1 : lo ≤ x) (g2 : x ≤ hi) (ho : offs[(x - lo).toNat]? = some off) (ht : (pc : Int) + off = (tgt : Int)) (k : Ex G d rc rs M tgt ls st hp sz Q) : Ex G d rc rs M pc ls (vi x :: st) hp sz Q := by
  intro p l e R s m args below meth c H locs cells slots lsR C h1 h2 h3 h4 h5
  exact lv_tableIn C.1 C.2.1 hd (by rw [oi hx]; omega) (by rw [oi hx]; omega) (by rw [oi hx]; exact ho) ht (k p l e R s m args below meth c H locs cells slots lsR C h1 h2 h3 h4 h5)
theorem x_tableOut {dflt lo hi : Int} {offs : Array Int} {len : Nat} {x : Int} {tgt : Nat} (hd : decode M.2.1 pc = .ok (.tableswitch dflt lo hi offs, len)) (hx : -2147483648 ≤ x ∧ x < 2147483648) (g : x < lo ∨ hi < x) (ht : (pc : Int) + dflt = (tgt : Int)) (k : Ex G d rc rs M tgt ls st hp sz Q) : Ex G d rc rs M pc ls (vi x :: st) hp sz Q := by
  intro p l e R s m args below meth c H locs cells slots lsR C h1 h2 h3 h4 h5
  exact lv_tableOut C.1 C.2.1 hd (by rw [oi hx]; exact g) ht (k p l e R s m args below meth c H locs cells slots lsR C h1 h2 h3 h4 h5)
theorem x_lookup {dflt : Int} {ps : Array (Int × Int)} {len : Nat} {x off : Int} {tgt : Nat} (hd : decode M.2.1 pc = .ok (.lookupswitch dflt ps, len)) (hp' : (ps.toList.zip (ps.toList.drop 1)).all (fun (a, next) => a.1 < next.1) = true) (hx : -2147483648 ≤ x ∧ x < 2147483648) (ho : Op.lookupswitch.offset ps.toList dflt x = off) (ht : (pc : Int) + off = (tgt : Int)) (k : Ex G d rc rs M tgt ls st hp sz Q) : Ex G d rc rs M pc ls (vi x :: st) hp sz Q := by
  intro p l e R s m args below meth c H locs cells slots lsR C h1 h2 h3 h4 h5
  exact lv_lookup C.1 C.2.1 hd hp' (by rw [oi hx]; exact ho) ht (k p l e R s m args below meth c H locs cells slots lsR C h1 h2 h3 h4 h5)
theorem x_dup2 {x : Int} {a : Nat} (hd : decode M.2.1 pc = .ok (.dup2, 1)) (k : Ex G d rc rs M (pc + 1) ls (vi x :: vr a :: vi x :: vr a :: st) hp sz Q) : Ex G d rc rs M pc ls (vi x :: vr a :: st) hp sz Q := by
  intro p l e R s m args below meth c H locs cells slots lsR C h1 h2 h3 h4 h5
  exact lv_dup2_11 C.1 C.2.1 hd rfl rfl (k p l e R s m args below meth c H locs cells slots lsR C h1 h2 h3 h4 h5)
end XR
