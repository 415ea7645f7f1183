theorem vr_outer (c : ClassId) (N h0 : Nat) : ∀ i : Nat, Jvm.Free.Multi.outerC c N h0 i = arrV c N (fun j => va_rf (if j < i then some (h0 + 1 + j) else none))
  | 0 => by
    show ({ cls := c, slots := Array.replicate N .null, vm := .none } : Cell) = _
    rw [arrV_new]
    refine congrArg (arrV c N) (funext fun j => ?_)
    simp [va_rf]
  | i + 1 => by
    show (Jvm.Free.Multi.outerC c N h0 i).setSlot i (.ref (h0 + 1 + i)) = _
    rw [vr_outer c N h0 i, arrV_store]
    refine congrArg (arrV c N) (funext fun j => ?_)
    by_cases e : j = i
    · subst e
      simp [updV, va_rf]
    · by_cases h : j < i
      · simp [updV, e, h, Nat.lt_succ_of_lt h]
      · simp [updV, e, h, show ¬ j < i + 1 by omega]
/-- a grid: the outer array at sz, its n rows behind it -/
def grid (hp : HP) (sz kk n m : Nat) : HP := fun b => if b = sz then rr (5 + kk) n (fun i => if i < n then some (sz + 1 + i) else none) else if sz < b ∧ b ≤ sz + n then ar kk m (fun _ => 0) else hp b
theorem x_multi {G : GL} {d rc rs : Nat} {M : MD} {pc : Nat} {ls st : List AV} {hp : HP} {sz : Nat} {Q : Option AV → HP → Nat → Prop} {idx kk : Nat} {ty : FieldType} {n m : Int} (hd : decode M.2.1 pc = .ok (.multianewarray idx 2, 4)) (hk3 : kk < 3) (hk : akinds[kk]? = some ty) (hk5 : akinds[5 + kk]? = some (.array ty)) (hts : "[" ++ ty.toString = (FieldType.array ty).toString) (hdf : defaultValue ty = el kk 0) (hfit : fits ty (defaultValue ty) = true) (hdd : (defaultValue ty).isDefault = true) (hcb : componentBytes ty ≤ 8)
    (hw1 : Cond.classLink M.1.cls idx ("[" ++ (FieldType.array ty).toString) ∈ lw_g) (hw2 : FieldType.array ty ∈ AOs) (hw3 : Cond.arrayClass ty ∈ lw_g) (hn : 0 ≤ n ∧ n ≤ 1000) (hm : 0 ≤ m ∧ m ≤ 1000) (hs : sz + 1 + n.toNat ≤ 700000)
    (k : Ex G d rc rs M (pc + 4) ls (vr sz :: st) (grid hp sz kk n.toNat m.toNat) (sz + 1 + n.toNat) Q) : Ex G d (1 + n.toNat + rc) (n.toNat + n.toNat * m.toNat + rs) M pc ls (vi m :: vi n :: st) hp sz Q := by
  intro p l e R s m0 args below meth c' H locs cells slots lsR C h1 h2 h3 h4 h5
  have hcn : (Int32.ofInt n).toNatClampNeg = n.toNat := oi_cl (n := 1001) hn.1 (by omega) (by omega)
  have hcm : (Int32.ofInt m).toNatClampNeg = m.toNat := oi_cl (n := 1001) hm.1 (by omega) (by omega)
  have hle : m.toNat * componentBytes ty ≤ 1000 * 8 := Nat.mul_le_mul (by omega) hcb
  intro T hT Xs
  obtain ⟨vm₁, cA, comp, -, fA, fC, -, -, X', step⟩ := Jvm.Stand.multianewarray2F Xs C.1 C.own (C.word hw1) (AOv.use (C.kk.2.2.2.2.2.2.2 _ hw2)) (C.word hw3) (g := F0 m0 pc lsR ((vi m :: vi n :: st).map (cv G))) rfl (by rw [C.2.1]; exact hd) (n := Int32.ofInt n) (k := Int32.ofInt m) (rest := st.map (cv G)) rfl (by rw [← oi_0, oi_lt (by omega) (by omega)]; omega) (by rw [← oi_0, oi_lt (by omega) (by omega)]; omega) (by rw [hcn]; omega) (by rw [hcm]; omega) (by rw [hcm]; omega) hfit hdd (by rw [hcn]; omega) (by rw [hcn, hcm]; omega)
  rw [hcn, hcm] at X' step
  have e5 : cA = G.2.2.1 (5 + kk) := Option.some.inj (fA.symm.trans (C.kk.2.1 _ _ hk5).2)
  have e0 : comp = G.2.2.1 kk := by
    have h := (C.kk.2.1 kk _ hk).2
    rw [hts] at h
    exact Option.some.inj (fC.symm.trans h)
  subst e5
  subst e0
  generalize hF : Jvm.Free.Multi.fill (T.setVm vm₁) (G.2.2.1 (5 + kk)) (G.2.2.1 kk) n.toNat m.toNat (defaultValue ty) n.toNat = F at X' step
  have hTh : (T.setVm vm₁).heap = H := hT
  obtain ⟨f1, f2, -, -⟩ := Jvm.Free.Multi.fill_facts (T.setVm vm₁) (G.2.2.1 (5 + kk)) (G.2.2.1 kk) n.toNat m.toNat (defaultValue ty) n.toNat
  rw [hF, hTh] at f1 f2
  have hold : ∀ x : Nat, x < H.size → F.heap[x]? = H[x]? := fun x hx => by
    have := Jvm.Free.Multi.fill_old (T.setVm vm₁) (G.2.2.1 (5 + kk)) (G.2.2.1 kk) n.toNat m.toNat (defaultValue ty) (a := x) (by rw [hTh]; exact hx) n.toNat
    rw [hF, hTh] at this
    exact this
  have hrow : ∀ j : Nat, j < n.toNat → F.heap[H.size + 1 + j]? = some (arrV (G.2.2.1 kk) m.toNat (fun _ => el kk 0)) := fun j hj => by
    have := Jvm.Free.Multi.fill_inner (T.setVm vm₁) (G.2.2.1 (5 + kk)) (G.2.2.1 kk) n.toNat m.toNat (defaultValue ty) n.toNat j hj
    rw [hF, hTh, hdf] at this
    rw [this]
    exact congrArg some (arrV_new _ _ _)
  rw [vr_outer] at f2
  obtain ⟨r1, r2, r3, r4, r5⟩ := id h3
  have hRl : Rl G (grid hp sz kk n.toNat m.toNat) (sz + 1 + n.toNat) F.heap := by
    refine ⟨by omega, hs, fun a ha => ?_, fun q hq => (hold q (by omega)).trans (r4 q hq), fun i hi => ?_⟩
    · unfold grid
      by_cases c1 : a = sz
      · rw [if_pos c1]
        refine ⟨by dsimp only; omega, by dsimp only; omega, by dsimp only; omega, ?_⟩
        rw [c1, ← r1, f2]
        refine congrArg some (congrArg _ (funext fun j => ?_))
        by_cases hj : j < n.toNat
        · simp only [if_pos hj, Option.map_some]
          rw [show ad G (sz + 1 + j) = H.size + 1 + j by rw [ad, if_pos (by omega)]; omega]
        · simp only [if_neg hj, Option.map_none]
      · rw [if_neg c1]
        by_cases c2 : sz < a ∧ a ≤ sz + n.toNat
        · rw [if_pos c2]
          refine ⟨by dsimp only; omega, by dsimp only; omega, ?_⟩
          have := hrow (a - sz - 1) (by omega)
          rw [show H.size + 1 + (a - sz - 1) = (gH G).size + a by omega] at this
          exact this
        · rw [if_neg c2]
          exact (r3 a (by omega)).kept (hold _ (by omega))
    · unfold grid
      rw [if_neg (by omega), if_neg (by omega)]
      exact r5 i hi
  obtain ⟨t, a1, b1⟩ := k p l e R s m0 args below meth c' F.heap locs (cells + 1 + n.toNat) (slots + n.toNat + n.toNat * m.toNat) lsR C (by omega) (by omega) hRl h4 h5 F rfl X'
  refine ⟨t, step t ?_, ?_⟩
  · have e : T.heap.size = ad G sz := by rw [hT, ad_new h3]
    rw [e]
    exact a1
  · rw [show cells + (1 + n.toNat + rc) = cells + 1 + n.toNat + rc by omega, show slots + (n.toNat + n.toNat * m.toNat + rs) = slots + n.toNat + n.toNat * m.toNat + rs by omega]
    exact b1
