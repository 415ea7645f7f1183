/-! the claim out of the walk of the law's body -/
/-! THE CLAIM OUT OF ONE WALK OF THE LAW'S BODY. Your part is whole_start (and what it stands on); all else here is the same for every law, but numbers. -/
def R_law : String := "SpanLoomLaw"
def lw_P (b : Addr) (xs : List Int32) (args : Array Value) (s : State) : Prop := args = #[.ref b] ∧ s.IntsAt b xs ∧ xs.length ≤ 3074 ∧ (Jvm.Cond.and given_1 narrow_1).before args s = true
def lw_Q (_ : Array Value) (s : State) (o : Outcome) (t : State) : Prop := o = .returned (some (.int 1)) ∧ Framed s o t [] 600000 7302250
def lw_Z (below : List Frame) (a : Array Value) (s : State) : State → Prop := fun t => ∃ o, t.status = .running ∧ Ended t below o ∧ lw_Q a s o t
/-- the law's own end, with 1 on the stack, nothing written that was there before, its room as the claim has it -/
theorem lw_ret {p : Program} {l : Launch} {e : Env} {s : State} {m : MethodId} {below : List Frame} {meth : Method} {c : Code} {b : Nat} (hx : p.tables.exec = Jvm.exec) (hb : c.code = code) (hr : meth.sig.returnType = ret) (hlocks : meth.locks = false) {pc : Nat} {H : Heap} {ls : Array Slot} (hdg : decode code pc = .ok (.ireturn, 1)) : W p l e room_1 s m #[Value.ref b] below meth c H [] 600000 7302250 (lw_Z below #[Value.ref b] s) (F0 m pc ls [.int 1]) := by
  intro T hT X
  obtain ⟨fs, hret, hrun, hended, hW, hframe⟩ := X.leave (v := some (.int 1)) (hlocks := hlocks) (fun h => by rw [hr] at h; cases h)
  have hmeth' : T.vm.method? m = some meth := X.method'
  refine ⟨T.setFrames fs, ?_, .returned (some (.int 1)), hrun, hended, rfl, ⟨_, rfl⟩, hW, hframe⟩
  jvm_step X.here [X.here.top, hx, hb, hdg, hmeth', hr, ret, narrow_b1]
  (try refine ⟨rfl, ?_⟩); (try refine ⟨rfl, ?_⟩)
  first | (intro acts; rw [hret _ acts rfl rfl rfl]) | rw [hret _ _ rfl rfl rfl]
  exact Steps.refl _
/-- what holds at the law's entry: the machine, the code, the tables' words (any of lw_tbl by 'hts w (by decide +kernel)'), the script of L ints xs at the cell b, what the Statement gives of the start (any of its parts by flat_of_before) -/
def lw_At (p : Program) (s : State) (m : MethodId) (meth : Method) (c : Code) (b L : Nat) (xs : Nat → Int32) : Prop :=
  p.tables.exec = Jvm.exec ∧ c.code = code ∧ meth.sig.returnType = ret ∧ c.maxLocals = 4 ∧ s.vm.findClass R_law = some m.cls ∧ (∀ w ∈ lw_tbl, w.before #[Value.ref b] s = true) ∧ va_X b L xs s s.heap ∧ b < s.heap.size ∧ meth.locks = false ∧ (Jvm.Cond.and given_1 narrow_1).before #[Value.ref b] s = true ∧ meth.name = "law"
theorem in_tbl {w : Cond} (h : w ∈ lw_g) : w ∈ lw_tbl := (List.mem_filter.mp h).1
theorem kn_C : ∀ (c : Nat) (q : vw_C), classesX[c]? = some q → ∃ n, Cond.instantiable q.1 n ∈ lw_g := by
  have key : ∀ {own : String} {idx c n : Nat}, NW own idx c n → ∀ q : vw_C, classesX[c]? = some q → ∃ n, Cond.instantiable q.1 n ∈ lw_g := fun h q hq => by
    obtain ⟨q', h1, h2, h3, h4, h5⟩ := h
    have e : q' = q := Option.some.inj (h1.symm.trans hq)
    subst e
    exact ⟨_, h4⟩
  intro c q hq
  match c, hq with
  | 0, hq => exact key nX6_29 q hq
  | 1, hq => exact key nX6_68 q hq
  | 2, hq => exact key nX6_49 q hq
  | 3, hq => exact key nX6_40 q hq
  | 4, hq => exact key nX6_58 q hq
  | 5, hq => exact key nX6_75 q hq
  | 6, hq => exact key nL_7 q hq
  | 7, hq => exact key nL_18 q hq
  | c + 8, hq => simp [classesX] at hq
theorem arr_of {s : State} {cA : ClassId} {kA : Class} {comp : ClassId} {ty : FieldType} (h1 : s.vm.classes[cA]? = some kA) (h2 : kA.kind = .array comp ty) : ArrOfT s cA ty := fun n z => ⟨fun k h => (by cases h), kA, h1, comp, h2⟩
/-- the array classes -/
theorem arr_all {s : State} {args : Array Value} (hts : ∀ w ∈ lw_tbl, w.before args s = true) {cL : ClassId} (hL : s.vm.findClass "SpanLoom$Laying" = some cL) : ∃ aC : Nat → ClassId, (∀ (k : Nat) (ty : FieldType), akinds[k]? = some ty → ArrOfT s (aC k) ty ∧ s.vm.findClass ("[" ++ ty.toString) = some (aC k)) ∧ ∀ (k : Nat) (ty : FieldType), 4 ≤ k → akinds[k]? = some ty → ∃ kA : Class, s.vm.classes[aC k]? = some kA ∧ kA.kind = .array (if k = 4 then cL else aC (k - 5)) ty := by
  obtain ⟨c0, k0, m0, a0, b0, d0⟩ := Cond.arrayClass_spec (hts _ (in_tbl ac_int))
  obtain ⟨c1, k1, m1, a1, b1, d1⟩ := Cond.arrayClass_spec (hts _ (in_tbl ac_long))
  obtain ⟨c2, k2, m2, a2, b2, d2⟩ := Cond.arrayClass_spec (hts _ (in_tbl ac_byte))
  obtain ⟨c3, k3, m3, a3, b3, d3⟩ := Cond.arrayClass_spec (hts _ (in_tbl ac_boolean))
  obtain ⟨m4, c4, k4, e4, -, b4, d4, a4⟩ := Cond.arrayOver_spec (hts (.arrayOver (.object "SpanLoom$Laying")) (by decide +kernel))
  obtain ⟨m5, c5, k5, e5, b5, d5, a5⟩ := Cond.arrayOver_specA (hts (.arrayOver (.array .int)) (by decide +kernel))
  obtain ⟨m6, c6, k6, e6, b6, d6, a6⟩ := Cond.arrayOver_specA (hts (.arrayOver (.array .long)) (by decide +kernel))
  obtain ⟨m7, c7, k7, e7, b7, d7, a7⟩ := Cond.arrayOver_specA (hts (.arrayOver (.array .byte)) (by decide +kernel))
  have f4 : m4 = cL := Option.some.inj (e4.symm.trans hL)
  have f5 : m5 = c0 := by rw [← strI2] at e5; exact Option.some.inj (e5.symm.trans a0)
  have f6 : m6 = c1 := by rw [← strJ2] at e6; exact Option.some.inj (e6.symm.trans a1)
  have f7 : m7 = c2 := by rw [← strB2] at e7; exact Option.some.inj (e7.symm.trans a2)
  subst f4 f5 f6 f7
  refine ⟨fun k => match k with | 0 => m5 | 1 => m6 | 2 => m7 | 3 => c3 | 4 => c4 | 5 => c5 | 6 => c6 | _ => c7, fun k ty hk => ?_, fun k ty h4 hk => ?_⟩
  · match k, hk with
    | 0, hk => cases hk; exact ⟨arr_of b0 d0, a0⟩
    | 1, hk => cases hk; exact ⟨arr_of b1 d1, a1⟩
    | 2, hk => cases hk; exact ⟨arr_of b2 d2, a2⟩
    | 3, hk => cases hk; exact ⟨arr_of b3 d3, a3⟩
    | 4, hk => cases hk; exact ⟨arr_of b4 d4, a4⟩
    | 5, hk => cases hk; exact ⟨arr_of b5 d5, a5⟩
    | 6, hk => cases hk; exact ⟨arr_of b6 d6, a6⟩
    | 7, hk => cases hk; exact ⟨arr_of b7 d7, a7⟩
    | k + 8, hk => simp [akinds] at hk
  · match k, h4, hk with
    | 0, h4, _ => omega
    | 1, h4, _ => omega
    | 2, h4, _ => omega
    | 3, h4, _ => omega
    | 4, _, hk => cases hk; exact ⟨k4, b4, d4⟩
    | 5, _, hk => cases hk; exact ⟨k5, b5, d5⟩
    | 6, _, hk => cases hk; exact ⟨k6, b6, d6⟩
    | 7, _, hk => cases hk; exact ⟨k7, b7, d7⟩
    | k + 8, _, hk => simp [akinds] at hk
theorem Y_of {t N : Nat} {f : Nat → Value} {A : Nat → Prop} {s : State} {xs : Nat → Int32} (h : va_T .int t N f A s s.heap) (hf : ∀ j, j < N → f j = .int (xs j)) : va_Y t N xs s s.heap ∧ t < s.heap.size := by
  obtain ⟨cell, h1, h2, h3, h4, h5, h6, h7⟩ := h
  exact ⟨⟨cell, h1, h2, h3, ⟨h4, h5⟩, fun j hj => by rw [h6 j hj, hf j hj]⟩, (Array.getElem?_eq_some_iff.mp h1).1⟩
theorem primes_of {s : State} {args : Array Value} {C : String} (harr : (Cond.arrayOf (.static C "PRIMES" "[I") .int).before args s = true) (hlen : (Cond.eq (.length (.static C "PRIMES" "[I")) (.int 6)).before args s = true)
    (e0 : (Cond.eq (.elem (.static C "PRIMES" "[I") (.int 0)) (.int 2)).before args s = true) (e1 : (Cond.eq (.elem (.static C "PRIMES" "[I") (.int 1)) (.int 3)).before args s = true) (e2 : (Cond.eq (.elem (.static C "PRIMES" "[I") (.int 2)) (.int 5)).before args s = true) (e3 : (Cond.eq (.elem (.static C "PRIMES" "[I") (.int 3)) (.int 7)).before args s = true) (e4 : (Cond.eq (.elem (.static C "PRIMES" "[I") (.int 4)) (.int 11)).before args s = true) (e5 : (Cond.eq (.elem (.static C "PRIMES" "[I") (.int 5)) (.int 13)).before args s = true)
    (hl : (Cond.laysStatic C "PRIMES" "[I").before args s = true) (hini : (Cond.initialized C).before args s = true) :
    ∃ t : Nat, va_Y t 6 (fun j => Int32.ofInt (prm j)) s s.heap ∧ t < s.heap.size ∧ va_Z C "PRIMES" "[I" (.ref t) (fun a => s.heap.size ≤ a) s s.heap := by
  have hA : ∀ a : Nat, a < s.heap.size → ¬ (fun a => s.heap.size ≤ a) a := fun a h => Nat.not_le.mpr h
  obtain ⟨t, ht, hT⟩ := va_Tof (tm := .static C "PRIMES" "[I") (ty := .int) (N := 6) (f := fun j => .int (Int32.ofInt (prm j))) (A := fun a => s.heap.size ≤ a) (by decide) harr (va_eqt hlen) (fun j hj => by
    rcases (show j = 0 ∨ j = 1 ∨ j = 2 ∨ j = 3 ∨ j = 4 ∨ j = 5 by omega) with rfl | rfl | rfl | rfl | rfl | rfl
    · rw [show Int32.ofInt (prm 0) = 2 from by decide +kernel]; exact va_eqt e0
    · rw [show Int32.ofInt (prm 1) = 3 from by decide +kernel]; exact va_eqt e1
    · rw [show Int32.ofInt (prm 2) = 5 from by decide +kernel]; exact va_eqt e2
    · rw [show Int32.ofInt (prm 3) = 7 from by decide +kernel]; exact va_eqt e3
    · rw [show Int32.ofInt (prm 4) = 11 from by decide +kernel]; exact va_eqt e4
    · rw [show Int32.ofInt (prm 5) = 13 from by decide +kernel]; exact va_eqt e5) hA
  have y := Y_of (xs := fun j => Int32.ofInt (prm j)) hT (fun j _ => rfl)
  exact ⟨t, y.1, y.2, va_Zref hl hini ht hA⟩
theorem same_fresh {s s' : State} {L : List Loc} {k n : Nat} (h : s.sameButNew s' L k n) (hf : ∀ q ∈ L, s.heap.size ≤ q.base) : s.sameButNew s' [] k n := by
  obtain ⟨h1, h2, h3, h4, h5, h6⟩ := h
  refine ⟨h1, h2, h3, h4, h5, fun a c hc => ?_⟩
  obtain ⟨c', g1, g2, g3, g4⟩ := h6 a c hc
  refine ⟨c', g1, g2, g3, fun i _ => g4 i (fun hm => ?_)⟩
  have l := (Array.getElem?_eq_some_iff.mp hc).1
  have := hf _ hm
  exact absurd this (Nat.not_le.mpr l)
/-- YOUR PART: from the entry, for every script of at most 3074 ints, the law comes to its end with true -/
theorem whole_start {p : Program} {e : Env} {s : State} {m : MethodId} {below : List Frame} {meth : Method} {c : Code} (l : Launch) {b L : Nat} {xs : Nat → Int32} (hL : L ≤ 3074) (C0 : lw_At p s m meth c b L xs) : W p l e room_1 s m #[Value.ref b] below meth c s.heap [] 0 0 (lw_Z below #[Value.ref b] s) (entryFrame m ([Value.ref b] : List Value).toArray 4) := by
  obtain ⟨hx, hb, hr, hml, hown, hts, hX, hbl, hlocks, hgv, hname⟩ := id C0
  have hs := flat_of_before _ hgv
  obtain ⟨dC, hdC⟩ : ∃ d : Nat → ClassId × (Nat → Nat), ∀ (c : Nat) (q : vw_C), classesX[c]? = some q → u_Kn s q.1 q.2.1 q.2.2 (d c).1 (d c).2 := by
    have h : ∀ c : Nat, ∃ d : ClassId × (Nat → Nat), ∀ q : vw_C, classesX[c]? = some q → u_Kn s q.1 q.2.1 q.2.2 d.1 d.2 := fun c => by
      cases hq : classesX[c]? with
      | none => exact ⟨(0, fun _ => 0), fun q h => by cases h⟩
      | some q =>
        obtain ⟨n, hn⟩ := kn_C c q hq
        obtain ⟨cC, iS, hK⟩ := u_known (ws := lw_tbl) (C := q.1) (T := q.2.1) (N := q.2.2) (n := n) hts (fun w hw => in_tbl (in_cls c q hq w hw)) (hts _ (in_tbl hn))
        exact ⟨(cC, iS), fun q' h => by cases h; exact hK⟩
    exact ⟨fun c => Classical.choose (h c), fun c q hq => Classical.choose_spec (h c) q hq⟩
  obtain ⟨aC, hA1, hA2⟩ := arr_all hts (hdC 0 _ rfl).2.1
  obtain ⟨t1, y1, l1, z1⟩ := primes_of (C := "SpanLoom") (hs _ (by decide +kernel)) (hs _ (by decide +kernel)) (hs _ (by decide +kernel)) (hs _ (by decide +kernel)) (hs _ (by decide +kernel)) (hs _ (by decide +kernel)) (hs _ (by decide +kernel)) (hs _ (by decide +kernel)) (hts _ (by decide +kernel)) (hts _ (in_tbl ci_X6))
  obtain ⟨t2, y2, l2, z2⟩ := primes_of (C := "SpanLoomModel") (hs _ (by decide +kernel)) (hs _ (by decide +kernel)) (hs _ (by decide +kernel)) (hs _ (by decide +kernel)) (hs _ (by decide +kernel)) (hs _ (by decide +kernel)) (hs _ (by decide +kernel)) (hs _ (by decide +kernel)) (hts _ (by decide +kernel)) (hts _ (in_tbl ci_X7))
  have y0 : va_Y b L (fun j => Int32.ofInt ((fun j => (xs j).toInt) j)) s s.heap := by
    obtain ⟨scr, g1, g2, g3, g4, g5⟩ := hX
    exact ⟨scr, g1, g2, g3, ⟨Nat.le_of_eq g4.symm, by rw [g4]⟩, fun j hj => by rw [g5 j hj]; exact congrArg (fun z => some (Value.int z)) (Int32.ofInt_toInt (xs j)).symm⟩
  let G : GL := (fun c => (dC c).1, fun c => (dC c).2, aC, s.heap, fun i => match i with | 0 => b | 1 => t1 | _ => t2, fun i => match i with | 0 => (L, fun j => (xs j).toInt) | _ => (6, prm))
  have hKK : KK G s := by
    refine ⟨hdC, hA1, hA2, fun i hi => ?_, z1, z2, fun w hw => va_Nw.of (isNest_tab (List.mem_filter.mp hw).2) (hts w (List.mem_filter.mp hw).1), fun ty hty => ?_⟩
    · rcases (show i = 0 ∨ i = 1 ∨ i = 2 by omega) with rfl | rfl | rfl
      · exact ⟨y0, hbl, by show L < 2147483648; omega⟩
      · exact ⟨y1, l1, by show 6 < 2147483648; decide⟩
      · exact ⟨y2, l2, by show 6 < 2147483648; decide⟩
    · simp only [AOs, List.mem_cons, List.not_mem_nil, or_false] at hty
      rcases hty with rfl | rfl | rfl | rfl
      · exact hts (.arrayOver (.object "SpanLoom$Laying")) (by decide +kernel)
      · exact hts (.arrayOver (.array .int)) (by decide +kernel)
      · exact hts (.arrayOver (.array .long)) (by decide +kernel)
      · exact hts (.arrayOver (.array .byte)) (by decide +kernel)
  have hEx := t_law (G := G) (d := 0) (hp := fun x => if x = 1000000 then ar 0 L (fun j => (xs j).toInt) else ar 0 6 prm) hL (fun j => ⟨Int32.le_toInt (xs j), Int32.toInt_lt (xs j)⟩) ⟨rfl, fun _ _ => rfl⟩ ⟨rfl, fun _ _ => rfl⟩ (Q := fun r _ _ => r = some (vi 1)) (fun _ => rfl)
  have hl := lv_entry ([.ref b]) (n := 4) (Nat.le_of_ble_eq_true rfl)
  rw [lg_entry_eq]
  generalize (lg_sl ([.ref b]) ++ List.replicate (4 - (lg_sl ([.ref b])).length) Slot.unset).toArray = lsR at hl ⊢
  have hlh : lh G lsR 4 [vr 1000000, vu, vu, vu] := by
    refine ⟨hl.1, hl.2.1, fun q hq => ?_⟩
    obtain ⟨v, -, h2, h3, h4⟩ := (prs_mem _ 0 q).mp hq
    rw [Nat.sub_zero] at h2
    obtain ⟨i, w⟩ := q
    match i, h2 with
    | 0, h2 =>
      cases h2
      refine hl.2.2 (0, w) ?_
      rw [show w = .ref b from h4]
      exact List.mem_cons_self
    | 1, h2 => cases h2; simp [jk] at h3
    | 2, h2 => cases h2; simp [jk] at h3
    | 3, h2 => cases h2; simp [jk] at h3
    | i + 4, h2 => simp at h2
  have hRl : Rl G (fun x => if x = 1000000 then ar 0 L (fun j => (xs j).toInt) else ar 0 6 prm) 0 s.heap := by
    refine ⟨rfl, by decide, fun a ha => absurd ha (Nat.not_lt_zero _), fun _ _ => rfl, fun i hi => ?_⟩
    rcases (show i = 0 ∨ i = 1 ∨ i = 2 by omega) with rfl | rfl | rfl <;> rfl
  have hW := hEx p l e room_1 s m #[Value.ref b] below meth c s.heap [] 0 0 lsR ⟨hx, hb, hr, hlocks, hml, hown, hname, fun w hw => hts w (in_tbl hw), hKK, by decide, by decide⟩ (by decide) (by decide) hRl (fun q h => by cases h) hlh
  refine W_mono (fun t ht => ?_) hW
  obtain ⟨o, g1, g2, ⟨r, hp', sz', g3, -, g4⟩, Lc, g5, g6⟩ := ht
  have e1 : o = .returned (some (.int 1)) := by rw [g3, g4]; rfl
  refine ⟨o, g1, g2, e1, g5.1, g5.2.1, (same_fresh g5.2.2 g6).mono (by decide) (by decide)⟩
set_option maxHeartbeats 4000000 in
theorem lw_walk (l : Launch) (b : Addr) (xs : List Int32) : MetFree l x (headSpec (Jvm.Cond.code x code maxLocals ret :: tables_1) room_1) (lw_P b xs) (fun _ _ _ _ _ => True) lw_Q := by
  refine MetFree.of_bodyS (code := code) (maxLocals := maxLocals) (ret := ret) (by decide) ?_ ?_
  · intro args s m h hn
    obtain ⟨meth, c, h1, h2, h3, h4, h5, h6, -, -⟩ := Cond.code_spec hn (atoms_spec (ws := Jvm.Cond.code x code maxLocals ret :: tables_1) h _ List.mem_cons_self)
    exact ⟨meth, c, h1, h2, h3, h4, h5, h6⟩
  · intro p e s m args below meth c s₁ B hml0 hP _
    obtain ⟨rfl, hx, hbd, hgv⟩ := hP
    obtain ⟨scr, harrAt, hlist, hof, hsmall⟩ := hx
    obtain ⟨hcb, hkn, -, -⟩ := State.arrayAt?_spec harrAt
    have hown : s.vm.findClass R_law = some m.cls := findClass_of_methodNamed B.named
    have hts0 : ∀ c ∈ (Jvm.Cond.code x code maxLocals ret :: tables_1), c.before #[Value.ref b] s = true := atoms_spec (ws := Jvm.Cond.code x code maxLocals ret :: tables_1) B.pre
    have hts : ∀ w ∈ lw_tbl, w.before #[Value.ref b] s = true := k2_hts_sels lw_privs (fun w hw => hts0 w (List.mem_cons_of_mem _ hw)) lw_privs_ok
    have hml : c.maxLocals = 4 := B.maxLocals_eq (hts0 _ List.mem_cons_self)
    have X₀ : Stand p l e room_1 s m #[Value.ref b] below meth c s₁ [] 0 0 := Stand.of_body B
    have hh0 : s₁.heap = s.heap := by rw [B.state]; rfl
    have hsz : scr.slots.size = xs.length := by rw [← Array.length_toList, hlist, List.length_map]
    have hval : ∀ j : Nat, j < xs.length → scr.slots[j]? = some (.int (xs.getD j 0)) := fun j hj => by
      rw [← Array.getElem?_toList, hlist]
      simp [hj]
    have hbl : b < s.heap.size := (Array.getElem?_eq_some_iff.mp hcb).1
    have hX : va_X b xs.length (fun j => xs.getD j 0) s s.heap := ⟨scr, hcb, hof, hkn, hsz, hval⟩
    have K : W p l e room_1 s m #[Value.ref b] below meth c s₁.heap [] 0 0 (lw_Z below #[Value.ref b] s) (entryFrame m ([Value.ref b] : List Value).toArray 4) := by
      rw [hh0]
      exact whole_start l hbd ⟨B.exec, B.bytes, B.returns, hml, hown, hts, hX, hbl, B.notSynchronized, hgv, (name_of_methodNamed B.named B.method).1⟩
    obtain ⟨t, a1, o, b1, b2, b3⟩ := K s₁ rfl X₀
    exact ⟨t, o, a1, b1, b2, b3⟩
theorem lw_pre_spec {args : Array Value} {s : State} (h : (Jvm.Cond.and given_1 narrow_1).before args s = true) (hr : rest_1_c.before args s = true) : ∃ (b : Addr) (xs : List Int32), lw_P b xs args s := by
  have hs := flat_of_before _ h
  have hq := flat_of_before _ hr
  have hc : (Cond.count 1).before args s = true := hs _ (by decide +kernel)
  have harr : (Cond.arrayOf (.arg 0) .int).before args s = true := hs _ (by decide +kernel)
  have hle : (Cond.le (.length (.arg 0)) (.int 3074)).before args s = true := hs _ (by decide +kernel)
  have hlen : (Cond.isInt (.length (.arg 0))).before args s = true := hq _ (by decide +kernel)
  have hall : (Cond.all (.arg 0) (.isInt (.elem (.arg 0) (.index 0)))).before args s = true := hq _ (by decide +kernel)
  obtain ⟨b, xs, hb, hx⟩ := State.ints_of_pre rfl harr hlen hall
  have hsm : xs.length < 2 ^ 31 := hx.choose_spec.2.2.2
  have hev : (Term.length (.arg 0)).eval args s none [] s = some (.int xs.length.toInt32) := hx.length_eval hb
  have hv := Cond.le_ints hev (show (Term.int 3074).eval args s none [] s = some (.int 3074) from rfl)
  have hd : xs.length.toInt32 ≤ 3074 := by
    simpa [Cond.before, Cond.holds, hv] using hle
  have hN : xs.length ≤ 3074 := (Int32.ofNat_le_ofNat hsm (by decide)).mp (show Int32.ofNat xs.length ≤ Int32.ofNat 3074 from hd)
  exact ⟨b, xs, Cond.one_arg hc (show args[0]? = some (.ref b) from hb), hx, hN, h⟩
theorem lw_comes (l : Launch) : Comes l x (Jvm.Cond.code x code maxLocals ret :: tables_1) room_1 (fun tb e args s => Calls_1 tb e args s ∧ rest_1 tb e args s ∧ Pre_1 tb e args s)
    (fun _ _ args s o t => lw_Q args s o t) := by
  intro p e ha hc hk s m args below hf hfit hheap happ hpre
  obtain ⟨b, xs, hP⟩ := lw_pre_spec hpre.2.2 hpre.2.1
  obtain ⟨k, o, h1, h2, h3, hQ⟩ := lw_walk l b xs p e ha hc hk s m args below hf ((Spec.applies_iff_loose hf).mp happ).1 hP trivial
  exact ⟨k, o, h1, h2, h3, hQ⟩
theorem lw_frame {s t : State} {o : Outcome} {args : Array Value} (h : Framed s o t [] 600000 7302250) :
    Framed s o t (fieldLocs frame_1_writes args s ++ arrayLocs frame_1_arrays args s ++ staticLocs frame_1_statics s) 600000 7302250 := h
theorem lw_limb (L : Cond) (hL : ∀ (args : Array Value) (s t : State), L.after args s (.returned (some (.int 1))) t = true) :
    ArmFor flags0 classFile x code maxLocals ret World_1 tables_1 room_1 Calls_1 rest_1 Pre_1
      (fun tb e a s o t => postC L tb e a s o t ∧ Framed s o t (fieldLocs frame_1_writes a s ++ arrayLocs frame_1_arrays a s ++ staticLocs frame_1_statics s) 600000 7302250) := by
  intro l _ _ _ p e ha hc hk s m args below hf hfit hheap happ hpre
  obtain ⟨k, o, h1, h2, h3, rfl, hF⟩ := lw_comes l p e ha hc hk s m args below hf hfit hheap happ hpre
  exact ⟨k, _, h1, h2, h3, hL args s _, lw_frame hF⟩
theorem i_vc : Claimed_1_1 ∧ Claimed_1_2 := ⟨lw_limb limb_1_1 (fun args s t => by simp [limb_1_1, Cond.after, Cond.holds, Cond.value]), lw_limb limb_1_2 (fun args s t => Cond.after_iff.mpr (by
  first | (rw [show limb_1_2 = Cond.eq .result (.int 1) from rfl, Cond.eq_ints (x := 1) (y := 1) rfl rfl]; simp; done) | (simp [limb_1_2, Cond.value, Term.eval]; done)))⟩
