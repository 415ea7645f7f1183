/-! values and cells of the pure picture -/
abbrev AV : Type := Int ⊕ (Int ⊕ Option (Option Nat))
abbrev vi (x : Int) : AV := .inl x
abbrev vl (x : Int) : AV := .inr (.inl x)
abbrev vr (a : Nat) : AV := .inr (.inr (some (some a)))
abbrev vz : AV := .inr (.inr (some none))
abbrev vu : AV := .inr (.inr none)
abbrev AC : Type := (Nat × (Nat → AV)) ⊕ ((Nat × Nat × (Nat → Int)) ⊕ (Nat × Nat × (Nat → Option Nat)))
abbrev HP : Type := Nat → AC
abbrev MD : Type := MethodName × ByteArray × Nat × Option FieldType
abbrev ob (c : Nat) (fs : Nat → AV) : AC := .inl (c, fs)
abbrev ar (k n : Nat) (f : Nat → Int) : AC := .inr (.inl (k, n, f))
abbrev rr (k n : Nat) (f : Nat → Option Nat) : AC := .inr (.inr (k, n, f))
def up {α : Type} (f : Nat → α) (a : Nat) (x : α) : Nat → α := fun b => if b = a then x else f b
theorem up_s {α : Type} (f : Nat → α) (a : Nat) (x : α) : up f a x a = x := if_pos rfl
theorem up_n {α : Type} (f : Nat → α) {a b : Nat} (x : α) (h : b ≠ a) : up f a x b = f b := if_neg h
def jk : AV → Bool
  | .inr (.inr none) => true
  | _ => false
def classesX : List vw_C := [(RX0, TX0, 3), (RX1, TX1, 4), (RX2, TX2, 7), (RX3, TX3, 5), (RX4, TX4, 3), (RX5, TX5, 5), (RX6, TX6, 10), (RX7, TX7, 24)]
def akinds : List FieldType := [.int, .long, .byte, .boolean, .object "SpanLoom$Laying", .array .int, .array .long, .array .byte]
def tyOf (c : Nat) : Nat → FieldType := match c with
  | 0 => tyX0
  | 1 => tyX1
  | 2 => tyX2
  | 3 => tyX3
  | 4 => tyX4
  | 5 => tyX5
  | 6 => tyX6
  | _ => tyX7
def isNest : Cond → Bool
  | .fieldLinkNest .. => true
  | .methodLinkNest .. => true
  | _ => false
def lw_g : List Cond := lw_tbl.filter goodWord
def lw_n : List Cond := lw_tbl.filter isNest
theorem mem_g {w : Cond} (h : w ∈ lw_tbl) (hg : goodWord w = true) : w ∈ lw_g := List.mem_filter.mpr ⟨h, hg⟩
theorem mem_n {w : Cond} (h : w ∈ lw_tbl) (hg : isNest w = true) : w ∈ lw_n := List.mem_filter.mpr ⟨h, hg⟩
theorem good_g : ∀ w ∈ lw_g, goodWord w = true := fun _ h => (List.mem_filter.mp h).2
/-- what is the same through a whole run: class numbers, slots, array classes, the heap at the law's entry, the three outer arrays -/
abbrev GL : Type := (Nat → ClassId) × (Nat → Nat → Nat) × (Nat → ClassId) × Heap × (Nat → Nat) × (Nat → Nat × (Nat → Int))
abbrev gH (G : GL) : Heap := G.2.2.2.1
def ad (G : GL) (a : Nat) : Nat := if a < 1000000 then (gH G).size + a else G.2.2.2.2.1 (a - 1000000)
def cv (G : GL) : AV → Value
  | .inl x => .int (Int32.ofInt x)
  | .inr (.inl x) => .long (Int64.ofInt x)
  | .inr (.inr (some (some a))) => .ref (ad G a)
  | .inr (.inr _) => .null
def el (k : Nat) (x : Int) : Value := if k = 1 then .long (Int64.ofInt x) else .int (Int32.ofInt x)
def cA (G : GL) (q : Nat) (c : AC) (H : Heap) : Prop := match c with
  | .inl o => ∃ r : vw_C, classesX[o.1]? = some r ∧ t_OB q (G.1 o.1) r.2.2 (G.2.1 o.1) H (fun j => cv G (o.2 j))
  | .inr (.inl x) => x.2.1 < 2147483648 ∧ x.1 < 4 ∧ H[q]? = some (arrV (G.2.2.1 x.1) x.2.1 (fun j => el x.1 (x.2.2 j)))
  | .inr (.inr x) => x.2.1 < 2147483648 ∧ 4 ≤ x.1 ∧ x.1 < 8 ∧ H[q]? = some (arrV (G.2.2.1 x.1) x.2.1 (fun j => va_rf ((x.2.2 j).map (ad G))))
theorem cA.kept {G : GL} {q : Nat} {c : AC} {H H1 : Heap} (h : cA G q c H) (e : H1[q]? = H[q]?) : cA G q c H1 := by
  rcases c with o | x | x
  · obtain ⟨r, h1, h2⟩ := h
    exact ⟨r, h1, h2.kept e⟩
  · exact ⟨h.1, h.2.1, e.trans h.2.2⟩
  · exact ⟨h.1, h.2.1, h.2.2.1, e.trans h.2.2.2⟩
def Rl (G : GL) (hp : HP) (sz : Nat) (H : Heap) : Prop :=
  H.size = (gH G).size + sz ∧ sz ≤ 700000 ∧ (∀ a, a < sz → cA G ((gH G).size + a) (hp a) H) ∧ (∀ q : Nat, q < (gH G).size → H[q]? = (gH G)[q]?) ∧ ∀ i, i < 3 → hp (1000000 + i) = ar 0 (G.2.2.2.2.2 i).1 (G.2.2.2.2.2 i).2
theorem ad_lt {G : GL} {a sz : Nat} (h : a < sz) (hs : sz ≤ 700000) : ad G a = (gH G).size + a := if_pos (by omega)
theorem Rl.at {G : GL} {hp : HP} {sz : Nat} {H : Heap} (h : Rl G hp sz H) {a : Nat} (ha : a < sz) : cA G (ad G a) (hp a) H := by
  rw [ad_lt ha h.2.1]
  exact h.2.2.1 a ha
theorem Rl.set {G : GL} {hp : HP} {sz : Nat} {H H1 : Heap} (h : Rl G hp sz H) {a : Nat} {c : AC} (ha : a < sz) (hc : cA G (ad G a) c H1) (z : H1.size = H.size) (o : ∀ q : Nat, q ≠ ad G a → H1[q]? = H[q]?) : Rl G (up hp a c) sz H1 := by
  obtain ⟨h1, h2, h3, h4, h5⟩ := h
  have e := ad_lt (G := G) ha h2
  rw [e] at hc o
  refine ⟨z.trans h1, h2, fun b hb => ?_, fun q hq => (o q (by omega)).trans (h4 q hq), fun i hi => ?_⟩
  · by_cases hab : b = a
    · subst hab
      rw [up_s]
      exact hc
    · rw [up_n _ _ hab]
      exact (h3 b hb).kept (o _ (by omega))
  · rw [up_n _ _ (by omega)]
    exact h5 i hi
theorem Rl.push {G : GL} {hp : HP} {sz : Nat} {H H1 : Heap} (h : Rl G hp sz H) {c : AC} (hs : sz < 700000) (hc : cA G H.size c H1) (z : H1.size = H.size + 1) (o : ∀ q : Nat, q < H.size → H1[q]? = H[q]?) : Rl G (up hp sz c) (sz + 1) H1 := by
  obtain ⟨h1, h2, h3, h4, h5⟩ := h
  refine ⟨by omega, by omega, fun b hb => ?_, fun q hq => (o q (by omega)).trans (h4 q hq), fun i hi => ?_⟩
  · by_cases hab : b = sz
    · subst hab
      rw [up_s, ← h1]
      exact hc
    · rw [up_n _ _ hab]
      exact (h3 b (by omega)).kept (o _ (by omega))
  · rw [up_n _ _ (by omega)]
    exact h5 i hi
/-! what the tables say, for every state of the run -/
def AOs : List FieldType := [.object "SpanLoom$Laying", .array .int, .array .long, .array .byte]
def AOv (ty : FieldType) (U : State) : Prop := (Cond.arrayOver ty).before #[] U = true
/-- an int array that was there before: what is known of it -/
def va_Y (b L : Nat) (xs : Nat → Int32) (U : State) (H : Heap) : Prop := ∃ scr : Cell, H[b]? = some scr ∧ U.isArrayOf scr .int ∧ scr.vm ≠ .unknown ∧ (L ≤ scr.slots.size ∧ Int32.ofNat scr.slots.size = Int32.ofNat L) ∧ ∀ j : Nat, j < L → scr.slots[j]? = some (.int (xs j))
theorem va_Y.moved {b L : Nat} {xs : Nat → Int32} {u U : State} {H : Heap} (hvm : u.vm.Alike U.vm) (h : va_Y b L xs u H) : va_Y b L xs U H := by
  obtain ⟨scr, h1, h2, h3⟩ := h
  exact ⟨scr, h1, State.isArrayOf_alike hvm h2, h3⟩
def KK (G : GL) (s : State) : Prop :=
  (∀ (c : Nat) (q : vw_C), classesX[c]? = some q → u_Kn s q.1 q.2.1 q.2.2 (G.1 c) (G.2.1 c)) ∧
  (∀ (k : Nat) (ty : FieldType), akinds[k]? = some ty → ArrOfT s (G.2.2.1 k) ty ∧ s.vm.findClass ("[" ++ ty.toString) = some (G.2.2.1 k)) ∧
  (∀ (k : Nat) (ty : FieldType), 4 ≤ k → akinds[k]? = some ty → ∃ kA : Class, s.vm.classes[G.2.2.1 k]? = some kA ∧ kA.kind = .array (if k = 4 then G.1 0 else G.2.2.1 (k - 5)) ty) ∧
  (∀ i, i < 3 → va_Y (G.2.2.2.2.1 i) (G.2.2.2.2.2 i).1 (fun j => Int32.ofInt ((G.2.2.2.2.2 i).2 j)) s (gH G) ∧ G.2.2.2.2.1 i < (gH G).size ∧ (G.2.2.2.2.2 i).1 < 2147483648) ∧
  va_Z "SpanLoom" "PRIMES" "[I" (.ref (G.2.2.2.2.1 1)) (fun a => (gH G).size ≤ a) s (gH G) ∧ va_Z "SpanLoomModel" "PRIMES" "[I" (.ref (G.2.2.2.2.1 2)) (fun a => (gH G).size ≤ a) s (gH G) ∧
  (∀ w ∈ lw_n, va_Nw w s) ∧ ∀ ty ∈ AOs, AOv ty s
theorem AOv.movedA {t : FieldType} {u U : State} (hvm : u.vm.Alike U.vm) (h : AOv (.array t) u) : AOv (.array t) U := by
  unfold AOv Cond.before Cond.holds at h ⊢
  simp only [Cond.value, beq_iff_eq] at h ⊢
  cases hc : u.vm.findClass (FieldType.array t).toString with
  | none => simp [hc] at h
  | some comp =>
    simp only [hc, Option.bind_some, Option.bind_eq_some_iff, Option.map_eq_some_iff] at h
    obtain ⟨c, hi, k, hk, hb⟩ := h
    obtain ⟨k', hk', he⟩ := hvm.2.2 _ _ hk
    have e0 := va_idx_bare U.vm comp
    have e1 := va_idx_bare u.vm comp
    have eb : U.vm.bare = u.vm.bare := by first | exact hvm.bare_eq | exact hvm.bare_eq.symm
    rw [eb] at e0
    have hi2 := e0.symm.trans (e1.trans hi)
    rw [hvm.findClass, hc]
    simp only [Option.bind_some, Option.bind_eq_some_iff, Option.map_eq_some_iff]
    refine ⟨c, hi2, k', hk', ?_⟩
    rw [hvm.findClass, he]
    exact hb
theorem AOv.moved {ty : FieldType} (hty : ty ∈ AOs) {u U : State} (hvm : u.vm.Alike U.vm) (h : AOv ty u) : AOv ty U := by
  simp only [AOs, List.mem_cons, List.not_mem_nil, or_false] at hty
  rcases hty with rfl | rfl | rfl | rfl
  · exact va_AO.moved (C := "SpanLoom$Laying") hvm h
  · exact AOv.movedA hvm h
  · exact AOv.movedA hvm h
  · exact AOv.movedA hvm h
theorem isNest_warm {w : Cond} (hn : isNest w = true) {s U : State} (hW : s.WarmedH U.vm) (h : va_Nw w s) : va_Nw w U := by
  cases w <;> first | (simp [isNest] at hn; done) | exact va_Nw.warmF hW h | exact va_Nw.warmM hW h
theorem isNest_tab {w : Cond} (hn : isNest w = true) : w.onTables = true := by
  cases w <;> first | (simp [isNest] at hn; done) | rfl
theorem KK.alike {G : GL} {s U : State} (ha : s.vm.Alike U.vm) (hn : ∀ w ∈ lw_n, va_Nw w U) (h : KK G s) : KK G U := by
  obtain ⟨h1, h2, h3, h4, h5, h6, h7, h8⟩ := h
  refine ⟨fun c q hq => u_Kn_moved ha (h1 c q hq), fun k ty hk => ⟨arrOfT_moved ha (h2 k ty hk).1, by rw [ha.findClass]; exact (h2 k ty hk).2⟩, fun k ty h4 hk => ?_, fun i hi => ⟨(h4 i hi).1.moved ha, (h4 i hi).2⟩, h5.moved ha, h6.moved ha, hn, fun ty hty => (h8 ty hty).moved hty ha⟩
  obtain ⟨kA, g1, g2⟩ := h3 k ty h4 hk
  obtain ⟨k', hk', he⟩ := ha.2.2 _ _ g1
  exact ⟨k', hk', by rw [he]; exact g2⟩
theorem KK.moved {G : GL} {s U : State} (hW : s.WarmedH U.vm) (h : KK G s) : KK G U :=
  h.alike hW.alike (fun w hw => isNest_warm (List.mem_filter.mp hw).2 hW (h.2.2.2.2.2.2.1 w hw))
theorem KK.same {G : GL} {s U : State} (hv : s.vm = U.vm) (h : KK G s) : KK G U :=
  h.alike (by rw [hv]; exact Vm.Alike.refl _) (fun w hw => va_tabs (isNest_tab (List.mem_filter.mp hw).2) hv (h.2.2.2.2.2.2.1 w hw))
/-! the locals -/
def prs (G : GL) : Nat → List AV → List (Nat × Value)
  | _, [] => []
  | i, v :: vs => if jk v = true then prs G (i + 1) vs else (i, cv G v) :: prs G (i + 1) vs
theorem prs_mem {G : GL} : ∀ (ls : List AV) (i : Nat) (q : Nat × Value), q ∈ prs G i ls ↔ ∃ v, i ≤ q.1 ∧ ls[q.1 - i]? = some v ∧ jk v = false ∧ q.2 = cv G v
  | [], i, q => by simp [prs]
  | v :: vs, i, q => by
    have ih := prs_mem (G := G) vs (i + 1) q
    by_cases hj : jk v = true
    · rw [prs, if_pos hj, ih]
      constructor
      · rintro ⟨w, h1, h2, h3, h4⟩
        refine ⟨w, by omega, ?_, h3, h4⟩
        rw [show q.1 - i = (q.1 - (i + 1)) + 1 by omega, List.getElem?_cons_succ]
        exact h2
      · rintro ⟨w, h1, h2, h3, h4⟩
        by_cases he : q.1 = i
        · rw [he, Nat.sub_self, List.getElem?_cons_zero] at h2
          cases h2
          rw [hj] at h3
          cases h3
        · rw [show q.1 - i = (q.1 - (i + 1)) + 1 by omega, List.getElem?_cons_succ] at h2
          exact ⟨w, by omega, h2, h3, h4⟩
    · rw [prs, if_neg hj, List.mem_cons, ih]
      constructor
      · rintro (h | ⟨w, h1, h2, h3, h4⟩)
        · subst h
          exact ⟨v, Nat.le_refl _, by simp, by simpa using hj, rfl⟩
        · refine ⟨w, by omega, ?_, h3, h4⟩
          rw [show q.1 - i = (q.1 - (i + 1)) + 1 by omega, List.getElem?_cons_succ]
          exact h2
      · rintro ⟨w, h1, h2, h3, h4⟩
        by_cases he : q.1 = i
        · rw [he, Nat.sub_self, List.getElem?_cons_zero] at h2
          cases h2
          exact Or.inl (Prod.ext he h4)
        · rw [show q.1 - i = (q.1 - (i + 1)) + 1 by omega, List.getElem?_cons_succ] at h2
          exact Or.inr ⟨w, by omega, h2, h3, h4⟩
def lh (G : GL) (lsR : Array Slot) (nL : Nat) (ls : List AV) : Prop := lv_has lsR nL (prs G 0 ls)
theorem lh.at {G : GL} {lsR : Array Slot} {nL : Nat} {ls : List AV} (h : lh G lsR nL ls) {i : Nat} {v : AV} (hi : ls[i]? = some v) (hj : jk v = false) : lsR[i]? = some (.val (cv G v)) :=
  h.2.2 (i, cv G v) ((prs_mem ls 0 (i, cv G v)).mpr ⟨v, Nat.zero_le _, hi, hj, rfl⟩)
/-- place i isn't the second half of a long -/
def noL (ls : List AV) (i : Nat) : Bool := match i with
  | 0 => true
  | j + 1 => match ls[j]? with
    | some (.inr (.inl _)) => false
    | _ => true
theorem cat_cv {G : GL} {v : AV} (h : (cv G v).category = 2) : ∃ x, v = vl x := by
  rcases v with x | x | (_ | _ | x)
  · simp [cv, Value.category] at h
  · exact ⟨x, rfl⟩
  · simp [cv, Value.category] at h
  · simp [cv, Value.category] at h
  · simp [cv, Value.category] at h
theorem lh_set {G : GL} {lsR : Array Slot} {nL : Nat} {ls : List AV} {i : Nat} {v : AV} (hno : noL ls i = true)
    (h : lv_has lsR nL ((i, cv G v) :: (prs G 0 ls).filter (fun q => !(q.1 == i) && !(q.1 + 1 == i && q.2.category == 2)))) : lh G lsR nL (ls.set i v) := by
  refine ⟨h.1, h.2.1, fun q hq => ?_⟩
  obtain ⟨w, h1, h2, h3, h4⟩ := (prs_mem _ 0 q).mp hq
  rw [Nat.sub_zero] at h2
  by_cases hi : q.1 = i
  · rw [hi] at h2
    have hl := (List.getElem?_eq_some_iff.mp h2).1
    rw [List.length_set] at hl
    rw [List.getElem?_set_self hl] at h2
    cases h2
    have := h.2.2 (i, cv G v) List.mem_cons_self
    rw [hi, h4]
    exact this
  · rw [List.getElem?_set_ne (fun e => hi e.symm)] at h2
    refine h.2.2 q (List.mem_cons_of_mem _ (List.mem_filter.mpr ⟨(prs_mem ls 0 q).mpr ⟨w, h1, by rw [Nat.sub_zero]; exact h2, h3, h4⟩, ?_⟩))
    simp only [Bool.and_eq_true, Bool.not_eq_true', beq_eq_false_iff_ne, ne_eq, Bool.and_eq_false_iff]
    refine ⟨hi, ?_⟩
    by_cases hs : q.1 + 1 = i
    · right
      intro hc
      rw [h4] at hc
      obtain ⟨x, rfl⟩ := cat_cv hc
      rw [← hs] at hno
      simp [noL, h2] at hno
    · left
      exact hs
/-- a long at i and i + 1 -/
theorem lh_setl {G : GL} {lsR : Array Slot} {nL : Nat} {ls : List AV} {i : Nat} {x : Int} (hno : noL ls i = true)
    (h : lv_has lsR nL ((i, cv G (vl x)) :: (prs G 0 ls).filter (fun q => !(q.1 == i) && (!(q.1 == i + 1) && !(q.1 + 1 == i && q.2.category == 2))))) : lh G lsR nL ((ls.set i (vl x)).set (i + 1) vu) := by
  refine ⟨h.1, h.2.1, fun q hq => ?_⟩
  obtain ⟨w, h1, h2, h3, h4⟩ := (prs_mem _ 0 q).mp hq
  rw [Nat.sub_zero] at h2
  by_cases hi1 : q.1 = i + 1
  · rw [hi1] at h2
    have hl := (List.getElem?_eq_some_iff.mp h2).1
    rw [List.length_set] at hl
    rw [List.getElem?_set_self hl] at h2
    cases h2
    simp [jk] at h3
  rw [List.getElem?_set_ne (fun e => hi1 e.symm)] at h2
  by_cases hi : q.1 = i
  · rw [hi] at h2
    have hl := (List.getElem?_eq_some_iff.mp h2).1
    rw [List.length_set] at hl
    rw [List.getElem?_set_self hl] at h2
    cases h2
    have := h.2.2 (i, cv G (vl x)) List.mem_cons_self
    rw [hi, h4]
    exact this
  · rw [List.getElem?_set_ne (fun e => hi e.symm)] at h2
    refine h.2.2 q (List.mem_cons_of_mem _ (List.mem_filter.mpr ⟨(prs_mem ls 0 q).mpr ⟨w, h1, by rw [Nat.sub_zero]; exact h2, h3, h4⟩, ?_⟩))
    simp only [Bool.and_eq_true, Bool.not_eq_true', beq_eq_false_iff_ne, ne_eq, Bool.and_eq_false_iff]
    refine ⟨hi, hi1, ?_⟩
    by_cases hs : q.1 + 1 = i
    · right
      intro hc
      rw [h4] at hc
      obtain ⟨y, rfl⟩ := cat_cv hc
      rw [← hs] at hno
      simp [noL, h2] at hno
    · left
      exact hs
/-! THE JUDGEMENT: the method M, at pc, with these locals, stack and picture, returns, and Q holds of the answer and the picture then; d: frames left; rc, rs: cells and slots that it may still make -/
def Cx (G : GL) (d : Nat) (M : MD) (p : Program) (s : State) (m : MethodId) (args : Array Value) (meth : Method) (c : Code) (R : Room) : Prop :=
  p.tables.exec = Jvm.exec ∧ c.code = M.2.1 ∧ meth.sig.returnType = M.2.2.2 ∧ meth.locks = false ∧ c.maxLocals = M.2.2.1 ∧ s.vm.findClass M.1.cls = some m.cls ∧ meth.name = M.1.name ∧ (∀ w ∈ lw_g, w.before args s = true) ∧ KK G s ∧ d ≤ R.frames ∧ 60 * d ≤ R.locals
def Qx (G : GL) (Q : Option AV → HP → Nat → Prop) : Array Value → State → Outcome → State → Prop := fun _ _ o t => ∃ (r : Option AV) (hp : HP) (sz : Nat), o = .returned (r.map (cv G)) ∧ Rl G hp sz t.heap ∧ Q r hp sz
def Ex (G : GL) (d rc rs : Nat) (M : MD) (pc : Nat) (ls st : List AV) (hp : HP) (sz : Nat) (Q : Option AV → HP → Nat → Prop) : Prop :=
  ∀ (p : Program) (l : Launch) (e : Env) (R : Room) (s : State) (m : MethodId) (args : Array Value) (below : List Frame) (meth : Method) (c : Code) (H : Heap) (locs : List Loc) (cells slots : Nat) (lsR : Array Slot),
    Cx G d M p s m args meth c R → cells + rc ≤ R.cells → slots + rs ≤ R.slots → Rl G hp sz H → (∀ q ∈ locs, (gH G).size ≤ q.base) → lh G lsR M.2.2.1 ls →
    W p l e R s m args below meth c H locs cells slots (MQ below (Qx G Q) args s (cells + rc) (slots + rs) (fun q => (gH G).size ≤ q)) (F0 m pc lsR (st.map (cv G)))
def Ct (G : GL) (d rc rs : Nat) (M : MD) (as : List AV) (hp : HP) (sz : Nat) (Q : Option AV → HP → Nat → Prop) : Prop :=
  Ex G d rc rs M 0 (as ++ List.replicate (M.2.2.1 - as.length) vu) [] hp sz Q
theorem MQ_mono {below : List Frame} {Qc Qd : Array Value → State → Outcome → State → Prop} {a : Array Value} {s : State} {mc ms : Nat} {free : Addr → Prop} (h : ∀ o t, Qc a s o t → Qd a s o t) : ∀ t, MQ below Qc a s mc ms free t → MQ below Qd a s mc ms free t := by
  rintro t ⟨o, h1, h2, h3, h4⟩
  exact ⟨o, h1, h2, h _ _ h3, h4⟩
theorem W_mono {p : Program} {l : Launch} {e : Env} {R : Room} {s : State} {m : MethodId} {args : Array Value} {below : List Frame} {meth : Method} {c : Code} {H : Heap} {locs : List Loc} {cells slots : Nat} {Q Q' : State → Prop} {g : JFrame} (h : ∀ t, Q t → Q' t) (k : W p l e R s m args below meth c H locs cells slots Q g) : W p l e R s m args below meth c H locs cells slots Q' g := by
  intro T hT X
  obtain ⟨t, a, b⟩ := k T hT X
  exact ⟨t, a, h t b⟩
theorem Ex.mono {G : GL} {d rc rs : Nat} {M : MD} {pc : Nat} {ls st : List AV} {hp : HP} {sz : Nat} {Q Q' : Option AV → HP → Nat → Prop} (h : ∀ r hp sz, Q r hp sz → Q' r hp sz) (k : Ex G d rc rs M pc ls st hp sz Q) : Ex G d rc rs M pc ls st hp sz Q' := by
  intro p l e R s m args below meth c H locs cells slots lsR C h1 h2 h3 h4 h5
  refine W_mono (MQ_mono ?_) (k p l e R s m args below meth c H locs cells slots lsR C h1 h2 h3 h4 h5)
  rintro o t ⟨r, hp, sz, a1, a2, a3⟩
  exact ⟨r, hp, sz, a1, a2, h _ _ _ a3⟩
theorem Ct.mono {G : GL} {d rc rs : Nat} {M : MD} {as : List AV} {hp : HP} {sz : Nat} {Q Q' : Option AV → HP → Nat → Prop} (k : Ct G d rc rs M as hp sz Q) (h : ∀ r hp sz, Q r hp sz → Q' r hp sz) : Ct G d rc rs M as hp sz Q' := Ex.mono h k
/-- more frames do no harm -/
theorem Ex.deep {G : GL} {d d' rc rs : Nat} {M : MD} {pc : Nat} {ls st : List AV} {hp : HP} {sz : Nat} {Q : Option AV → HP → Nat → Prop} (h : d ≤ d') (k : Ex G d rc rs M pc ls st hp sz Q) : Ex G d' rc rs M pc ls st hp sz Q := by
  intro p l e R s m args below meth c H locs cells slots lsR C h1 h2 h3 h4 h5
  obtain ⟨c1, c2, c3, c4, c5, c6, c7, c8, c9, c10, c11⟩ := C
  exact k p l e R s m args below meth c H locs cells slots lsR ⟨c1, c2, c3, c4, c5, c6, c7, c8, c9, by omega, by omega⟩ h1 h2 h3 h4 h5
theorem Ct.deep {G : GL} {d d' rc rs : Nat} {M : MD} {as : List AV} {hp : HP} {sz : Nat} {Q : Option AV → HP → Nat → Prop} (k : Ct G d rc rs M as hp sz Q) (h : d ≤ d') : Ct G d' rc rs M as hp sz Q := Ex.deep h k
