/-! the search for rows, its course -/
def RIv (P : Nat → Nat) (n : Nat) (pi : Nat → Nat) (Ls : List (List Nat)) (k i m : Nat) (F : Nat → Nat → Int) : Prop :=
  (∀ a, a < m → ∃ x, x ∈ Ls ∧ ∀ j, j < n → F a j = gl x (pi j)) ∧
  (∀ a b, a < m → b < m → (∀ j, j < n → F a j = F b j) → a = b) ∧
  (∀ q, q < n → ∃ a, a < m ∧ ∀ j, j < n → F a j = if j = q then 1 else 0) ∧
  ∀ a, a < m → ∀ q, q < n → (a < k ∨ (a = k ∧ q < i)) → 1 + 2 * F a q = nsm P n (F a) q → ∃ b, b < m ∧ ∀ j, j < n → F b j = adx (F a) q j
def toL (n : Nat) (ro : Nat → Nat) (y : Nat → Int) : List Nat := (List.range n).map (fun q => (y (ro q)).toNat)
theorem toL_eq {n : Nat} {pi ro : Nat → Nat} (h2 : ∀ i, i < n → ro i < n ∧ pi (ro i) = i) {x : List Nat} (hx : x.length = n) {y : Nat → Int} (h : ∀ j, j < n → y j = gl x (pi j)) : toL n ro y = x := by
  refine List.ext_getElem? (fun q => ?_)
  unfold toL
  by_cases l : q < n
  · rw [List.getElem?_map, List.getElem?_range l]
    have e := h (ro q) (h2 q l).1
    rw [(h2 q l).2] at e
    show some ((y (ro q)).toNat) = x[q]?
    rw [e]
    unfold gl
    rw [Int.toNat_natCast, List.getD_eq_getElem?_getD, List.getElem?_eq_getElem (by omega)]
    rfl
  · rw [List.getElem?_eq_none (by simp; omega), List.getElem?_eq_none (by omega)]
theorem gl_inj {n : Nat} {x y : List Nat} (hx : x.length = n) (hy : y.length = n) (h : ∀ j, j < n → gl x j = gl y j) : x = y := by
  have a := toL_eq (pi := fun i => i) (ro := fun i => i) (fun i hi => ⟨hi, rfl⟩) hx (y := gl x) (fun j _ => rfl)
  have b := toL_eq (pi := fun i => i) (ro := fun i => i) (fun i hi => ⟨hi, rfl⟩) hy (y := gl x) h
  rw [← a, b]
theorem adx_iso {n : Nat} {P Q pi ro : Nat → Nat} (h : IsoT n P Q pi ro) {x : List Nat} (hx : x.length = n) {i : Nat} (hi : i < n) {y : Nat → Int} (hy : ∀ j, j < n → y j = gl x (pi j)) : ∀ j, j < n → adx y i j = gl (adl x (pi i)) (pi j) := fun j hj => by
  rw [gl_ad hx (h.1 i hi).1]
  unfold adx
  rw [hy j hj]
  by_cases e : j = i
  · rw [if_pos e, if_pos (by rw [e])]
  · rw [if_neg e, if_neg]
    intro q
    have a := (h.1 j hj).2
    rw [q, (h.1 i hi).2] at a
    exact e a.symm
theorem cond_iso {n : Nat} {P Q pi ro : Nat → Nat} (h : IsoT n P Q pi ro) {x : List Nat} {i : Nat} (hi : i < n) {y : Nat → Int} (hy : ∀ j, j < n → y j = gl x (pi j)) : 1 + 2 * y i = nsm P n y i ↔ 1 + 2 * gl x (pi i) = nsm Q n (gl x) (pi i) := by
  rw [nsm_cg hy i, nsm_iso h (gl x) hi, hy i hi]
theorem len_adl (x : List Nat) (i : Nat) : (adl x i).length = x.length := by unfold adl; rw [List.length_set]
theorem len_unl (n i : Nat) : (unl n i).length = n := by unfold unl; rw [List.length_map, List.length_range]
theorem un_iso {n : Nat} {P Q pi ro : Nat → Nat} (h : IsoT n P Q pi ro) {q : Nat} (hq : q < n) : ∀ j, j < n → gl (unl n q) (pi j) = if j = ro q then 1 else 0 := fun j hj => by
  rw [gl_un hq (h.1 j hj).1]
  by_cases e : j = ro q
  · rw [if_pos e, if_pos (by rw [e]; exact (h.2.1 q hq).2)]
  · rw [if_neg e, if_neg]
    intro z
    exact e (by rw [← z]; exact (h.1 j hj).2.symm)
/-- every row of the list has the form 1 -/
theorem VQ_one {n : Nat} {P Q pi ro : Nat → Nat} (h : IsoT n P Q pi ro) (hP : ∀ j, 1 ≤ j → j < n → P j < j) {Ls : List (List Nat)} (hv : VRL Q n Ls) : ∀ x, x ∈ Ls → VQ P n (fun j => gl x (pi j)) = 1 := by
  have := hv.2.2.2.2.1 (fun x => x.length = n ∧ VQ P n (fun j => gl x (pi j)) = 1) (fun x hx => by
    rcases hx with ⟨q, hq, e⟩ | ⟨y, q, ⟨hl, h1⟩, hq, hc, e⟩
    · subst e
      refine ⟨len_unl n q, ?_⟩
      rw [VQ_cg hP (un_iso h hq)]
      exact VQ_unit hP (h.2.1 q hq).1
    · subst e
      refine ⟨by rw [len_adl]; exact hl, ?_⟩
      have e2 := adx_iso h hl (h.2.1 q hq).1 (y := fun j => gl y (pi j)) (fun j _ => rfl)
      rw [(h.2.1 q hq).2] at e2
      rw [← VQ_cg hP e2, VQ_ad hP _ (h.2.1 q hq).1, h1, nsm_iso h (gl y) (h.2.1 q hq).1, (h.2.1 q hq).2]
      have := (cdl_iff Q n y q).1 hc
      omega)
  exact fun x hx => (this x hx).2
theorem RIv.le {n : Nat} {P Q pi ro : Nat → Nat} {Ls : List (List Nat)} {k i m : Nat} {F : Nat → Nat → Int} (hI : IsoT n P Q pi ro) (hv : VRL Q n Ls) (h : RIv P n pi Ls k i m F) : m ≤ Ls.length := by
  have key : ∀ a, a < m → toL n ro (F a) ∈ Ls := fun a ha => by
    obtain ⟨x, hx, e⟩ := h.1 a ha
    rw [toL_eq hI.2.1 (hv.2.1 x hx).1 e]
    exact hx
  have := nd_le ((List.range m).map (fun a => toL n ro (F a))) Ls (by
    refine List.pairwise_map.2 ?_
    refine List.Pairwise.imp_of_mem (fun {a b} ha hb hab e => hab ?_) List.nodup_range
    have la := List.mem_range.1 ha
    have lb := List.mem_range.1 hb
    obtain ⟨x, hx, ex⟩ := h.1 a la
    obtain ⟨y, hy, ey⟩ := h.1 b lb
    rw [toL_eq hI.2.1 (hv.2.1 x hx).1 ex, toL_eq hI.2.1 (hv.2.1 y hy).1 ey] at e
    subst e
    exact h.2.1 a b la lb (fun j hj => (ex j hj).trans (ey j hj).symm)) (fun x hx => by
    obtain ⟨a, ha, e⟩ := List.mem_map.1 hx
    rw [← e]
    exact key a (List.mem_range.1 ha))
  rw [List.length_map, List.length_range] at this
  exact this
theorem RIv.bd {n : Nat} {P Q pi ro : Nat → Nat} {Ls : List (List Nat)} {k i m : Nat} {F : Nat → Nat → Int} (hI : IsoT n P Q pi ro) (hv : VRL Q n Ls) (h : RIv P n pi Ls k i m F) {a j : Nat} (ha : a < m) (hj : j < n) : 0 ≤ F a j ∧ F a j ≤ 9 := by
  obtain ⟨x, hx, e⟩ := h.1 a ha
  rw [e j hj]
  exact (hv.2.1 x hx).2 _ (hI.1 j hj).1
theorem RIv.cond {n : Nat} {P Q pi ro : Nat → Nat} {Ls : List (List Nat)} {k i m : Nat} {F : Nat → Nat → Int} (hI : IsoT n P Q pi ro) (hP : ∀ j, 1 ≤ j → j < n → P j < j) (hv : VRL Q n Ls) (h : RIv P n pi Ls k i m F) {a q : Nat} (ha : a < m) (hq : q < n) : VQ P n (adx (F a) q) = 1 ↔ 1 + 2 * F a q = nsm P n (F a) q := by
  obtain ⟨x, hx, e⟩ := h.1 a ha
  rw [VQ_ad hP _ hq, VQ_cg hP e, VQ_one hI hP hv x hx]
  omega
theorem RIv.no {n : Nat} {P pi : Nat → Nat} {Ls : List (List Nat)} {k i m : Nat} {F : Nat → Nat → Int} (h : RIv P n pi Ls k i m F) {F1 : Nat → Nat → Int} (hF : ∀ a, a < m → ∀ j, j < n → F1 a j = F a j)
    (hc : 1 + 2 * F k i = nsm P n (F k) i → ∃ b, b < m ∧ ∀ j, j < n → F b j = adx (F k) i j) (hi : i < n) : RIv P n pi Ls k (i + 1) m F1 := by
  obtain ⟨h1, h2, h3, h4⟩ := h
  refine ⟨fun a ha => ?_, fun a b ha hb e => h2 a b ha hb (fun j hj => by rw [← hF a ha j hj, ← hF b hb j hj]; exact e j hj), fun q hq => ?_, fun a ha q hq hl hc1 => ?_⟩
  · obtain ⟨x, hx, e⟩ := h1 a ha
    exact ⟨x, hx, fun j hj => (hF a ha j hj).trans (e j hj)⟩
  · obtain ⟨a, ha, e⟩ := h3 q hq
    exact ⟨a, ha, fun j hj => (hF a ha j hj).trans (e j hj)⟩
  · rw [nsm_cg (fun j hj => hF a ha j hj), hF a ha q hq] at hc1
    have g : ∃ b, b < m ∧ ∀ j, j < n → F b j = adx (F a) q j := by
      by_cases z : a = k ∧ q = i
      · rw [z.1, z.2] at hc1 ⊢; exact hc hc1
      · exact h4 a ha q hq (by omega) hc1
    obtain ⟨b, hb, e⟩ := g
    refine ⟨b, hb, fun j hj => ?_⟩
    rw [hF b hb j hj, e j hj]
    unfold adx
    rw [hF a ha j hj]
theorem RIv.yes {n : Nat} {P Q pi ro : Nat → Nat} {Ls : List (List Nat)} {k i m : Nat} {F : Nat → Nat → Int} (hI : IsoT n P Q pi ro) (hv : VRL Q n Ls) (h : RIv P n pi Ls k i m F) {F1 : Nat → Nat → Int} (hF : ∀ a, a < m → ∀ j, j < n → F1 a j = F a j) (hk : k < m) (hi : i < n)
    (hc : 1 + 2 * F k i = nsm P n (F k) i) (hnew : ∀ b, b < m → ¬ ∀ j, j < n → F b j = adx (F k) i j) (hm : ∀ j, j < n → F1 m j = adx (F k) i j) : RIv P n pi Ls k (i + 1) (m + 1) F1 := by
  obtain ⟨h1, h2, h3, h4⟩ := h
  refine ⟨fun a ha => ?_, fun a b ha hb e => ?_, fun q hq => ?_, fun a ha q hq hl hc1 => ?_⟩
  · by_cases z : a = m
    · subst z
      obtain ⟨x, hx, e⟩ := h1 k hk
      refine ⟨adl x (pi i), hv.2.2.2.1 x hx _ (hI.1 i hi).1 ((cond_iso hI hi e).1 hc), fun j hj => ?_⟩
      rw [hm j hj]
      exact adx_iso hI (hv.2.1 x hx).1 hi e j hj
    · obtain ⟨x, hx, e⟩ := h1 a (by omega)
      exact ⟨x, hx, fun j hj => (hF a (by omega) j hj).trans (e j hj)⟩
  · by_cases z : a = m
    · by_cases w : b = m
      · omega
      · subst z
        exact absurd (fun j hj => by rw [← hF b (by omega) j hj, ← e j hj]; exact hm j hj) (hnew b (by omega))
    · by_cases w : b = m
      · subst w
        exact absurd (fun j hj => by rw [← hF a (by omega) j hj, e j hj]; exact hm j hj) (hnew a (by omega))
      · exact h2 a b (by omega) (by omega) (fun j hj => by rw [← hF a (by omega) j hj, ← hF b (by omega) j hj]; exact e j hj)
  · obtain ⟨a, ha, e⟩ := h3 q hq
    exact ⟨a, by omega, fun j hj => (hF a ha j hj).trans (e j hj)⟩
  · have la : a < m := by omega
    rw [nsm_cg (fun j hj => hF a la j hj), hF a la q hq] at hc1
    by_cases z : a = k ∧ q = i
    · refine ⟨m, by omega, fun j hj => ?_⟩
      rw [hm j hj, z.1, z.2]
      unfold adx
      rw [hF k hk j hj]
    · obtain ⟨b, hb, e⟩ := h4 a la q hq (by omega) hc1
      refine ⟨b, by omega, fun j hj => ?_⟩
      rw [hF b hb j hj, e j hj]
      unfold adx
      rw [hF a la j hj]
theorem RIv.next {n : Nat} {P pi : Nat → Nat} {Ls : List (List Nat)} {k m : Nat} {F : Nat → Nat → Int} (h : RIv P n pi Ls k n m F) : RIv P n pi Ls (k + 1) 0 m F :=
  ⟨h.1, h.2.1, h.2.2.1, fun a ha q hq hl hc => h.2.2.2 a ha q hq (by omega) hc⟩
theorem RIv.init {n : Nat} {P Q pi ro : Nat → Nat} {Ls : List (List Nat)} {F : Nat → Nat → Int} (hI : IsoT n P Q pi ro) (hv : VRL Q n Ls) (h : ∀ a, a < n → ∀ j, j < n → F a j = if j = a then 1 else 0) : RIv P n pi Ls 0 0 n F := by
  refine ⟨fun a ha => ⟨unl n (pi a), hv.2.2.1 _ (hI.1 a ha).1, fun j hj => ?_⟩, fun a b ha hb e => ?_, fun q hq => ⟨q, hq, h q hq⟩, fun a ha q hq hl _ => by omega⟩
  · rw [h a ha j hj, un_iso hI (hI.1 a ha).1 j hj, (hI.1 a ha).2]
  · have := e a ha
    rw [h a ha a ha, h b hb a ha, if_pos rfl] at this
    by_cases z : a = b
    · exact z
    · rw [if_neg z] at this; omega
theorem RIv.last {n : Nat} {P Q pi ro : Nat → Nat} {Ls : List (List Nat)} {m : Nat} {F : Nat → Nat → Int} (hI : IsoT n P Q pi ro) (hv : VRL Q n Ls) (h : RIv P n pi Ls m 0 m F) : m = Ls.length := by
  have l1 := h.le hI hv
  obtain ⟨h1, h2, h3, h4⟩ := h
  have all := hv.2.2.2.2.1 (fun x => x.length = n ∧ ∃ a, a < m ∧ ∀ j, j < n → F a j = gl x (pi j)) (fun x hx => by
    rcases hx with ⟨q, hq, e⟩ | ⟨y, q, ⟨hl, a, ha, e1⟩, hq, hc, e⟩
    · subst e
      obtain ⟨a, ha, e⟩ := h3 (ro q) (hI.2.1 q hq).1
      exact ⟨len_unl n q, a, ha, fun j hj => (e j hj).trans (un_iso hI hq j hj).symm⟩
    · subst e
      refine ⟨by rw [len_adl]; exact hl, ?_⟩
      have lq := (hI.2.1 q hq).1
      have hc2 := (cond_iso hI lq e1).2 (by rw [(hI.2.1 q hq).2]; exact (cdl_iff Q n y q).1 hc)
      obtain ⟨b, hb, e2⟩ := h4 a ha (ro q) lq (Or.inl ha) hc2
      refine ⟨b, hb, fun j hj => ?_⟩
      rw [e2 j hj, adx_iso hI hl lq e1 j hj, (hI.2.1 q hq).2])
  have := nd_le Ls ((List.range m).map (fun a => toL n ro (F a))) hv.1 (fun x hx => by
    obtain ⟨a, ha, e⟩ := (all x hx).2
    exact List.mem_map.2 ⟨a, List.mem_range.2 ha, toL_eq hI.2.1 (hv.2.1 x hx).1 e⟩)
  rw [List.length_map, List.length_range] at this
  omega
