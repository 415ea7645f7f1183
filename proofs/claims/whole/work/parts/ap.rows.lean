/-! rows of numbers on the posts of a tree -/
def nsm (P : Nat → Nat) (n : Nat) (x : Nat → Int) (i : Nat) : Int := su n (fun j => if ajT P i j then x j else 0)
def VQ (P : Nat → Nat) (n : Nat) (x : Nat → Int) : Int := su n (fun i => x i * x i - (if 0 < i then x i * x (P i) else 0))
def adx (x : Nat → Int) (i : Nat) : Nat → Int := fun j => if j = i then x j + 1 else x j
theorem VQ_ad {P : Nat → Nat} {n : Nat} (hP : ∀ j, 1 ≤ j → j < n → P j < j) (x : Nat → Int) {i : Nat} (hi : i < n) : VQ P n (adx x i) = VQ P n x + 1 + 2 * x i - nsm P n x i := by
  have e1 : VQ P n (adx x i) = su n (fun k => ((x k * x k - (if 0 < k then x k * x (P k) else 0)) + (if k = i then 2 * x i + 1 - (if 0 < i then x (P i) else 0) else 0)) - (if 0 < k ∧ P k = i then x k else 0)) := by
    refine su_cg n (fun k hk => ?_)
    show adx x i k * adx x i k - (if 0 < k then adx x i k * adx x i (P k) else 0) = _
    by_cases z : 0 < k
    · have l := hP k z hk
      rw [if_pos z, if_pos z]
      by_cases e : k = i
      · subst e
        rw [if_pos rfl, if_pos z, if_neg (show ¬ (0 < k ∧ P k = k) by omega)]
        unfold adx
        rw [if_pos rfl, if_neg (show ¬ P k = k by omega)]
        grind
      · rw [if_neg e]
        unfold adx
        rw [if_neg e]
        by_cases q : P k = i
        · rw [if_pos q, if_pos ⟨z, q⟩]; grind
        · rw [if_neg q, if_neg (by omega)]; grind
    · rw [if_neg z, if_neg z, if_neg (show ¬ (0 < k ∧ P k = i) by omega)]
      unfold adx
      by_cases e : k = i
      · subst e; rw [if_pos rfl, if_pos rfl, if_neg z]; grind
      · rw [if_neg e, if_neg e]; grind
  have e2 : nsm P n x i = su n (fun k => (if 0 < i ∧ P i = k then x k else 0) + (if 0 < k ∧ P k = i then x k else 0)) := by
    refine su_cg n (fun k hk => ?_)
    show (if ajT P i k then x k else 0) = _
    unfold ajT
    by_cases a : 0 < i ∧ P i = k
    · rw [if_pos a, if_pos (by simp [a]), if_neg]
      · omega
      · intro b
        have h1 := hP i a.1 hi
        have h2 := hP k b.1 hk
        omega
    · by_cases b : 0 < k ∧ P k = i
      · rw [if_neg a, if_pos b, if_pos (by simp [b])]; omega
      · rw [if_neg a, if_neg b, if_neg (by simp; exact ⟨fun q1 q2 => a ⟨q1, q2⟩, fun q1 q2 => b ⟨q1, q2⟩⟩)]; omega
  have e3 : su n (fun k => if k = i then 2 * x i + 1 - (if 0 < i then x (P i) else 0) else 0) = 2 * x i + 1 - (if 0 < i then x (P i) else 0) := by
    rw [su_one hi _ (fun k _ h => if_neg h), if_pos rfl]
  have e4 : su n (fun k => if 0 < i ∧ P i = k then x k else 0) = if 0 < i then x (P i) else 0 := by
    by_cases z : 0 < i
    · have := hP i z hi
      rw [su_one (show P i < n by omega) _ (fun k _ h => if_neg (by omega)), if_pos ⟨z, rfl⟩, if_pos z]
    · rw [if_neg z]; exact su_z n (fun k _ => if_neg (by omega))
  rw [e1, su_sub, su_add, e2, su_add, e3, e4]
  show VQ P n x + _ - _ = _
  grind
theorem VQ_0 (P : Nat → Nat) (n : Nat) : VQ P n (fun _ => 0) = 0 := su_z n (fun i _ => by split <;> rfl)
theorem nsm_0 (P : Nat → Nat) (n i : Nat) : nsm P n (fun _ => 0) i = 0 := su_z n (fun i _ => by split <;> rfl)
theorem VQ_unit {P : Nat → Nat} {n : Nat} (hP : ∀ j, 1 ≤ j → j < n → P j < j) {i : Nat} (hi : i < n) : VQ P n (fun j => if j = i then 1 else 0) = 1 := by
  have := VQ_ad hP (fun _ => 0) hi
  rw [VQ_0, nsm_0] at this
  exact this
theorem VQ_cg {P : Nat → Nat} {n : Nat} (hP : ∀ j, 1 ≤ j → j < n → P j < j) {x y : Nat → Int} (h : ∀ j, j < n → x j = y j) : VQ P n x = VQ P n y :=
  su_cg n (fun i hi => by
    rw [h i hi]
    by_cases z : 0 < i
    · have := hP i z hi
      rw [if_pos z, if_pos z, h (P i) (by omega)]
    · rw [if_neg z, if_neg z])
theorem nsm_cg {P : Nat → Nat} {n : Nat} {x y : Nat → Int} (h : ∀ j, j < n → x j = y j) (i : Nat) : nsm P n x i = nsm P n y i :=
  su_cg n (fun j hj => by rw [h j hj])
theorem VQ_abs {P : Nat → Nat} {n : Nat} (hn : n ≤ 9) (hP : ∀ j, 1 ≤ j → j < n → P j < j) {x : Nat → Int} (h : ∀ j, j < n → (x j).natAbs ≤ 20) : ∀ k, k ≤ n → (su k (fun i => x i * x i - (if 0 < i then x i * x (P i) else 0))).natAbs ≤ k * 800
  | 0, _ => Nat.le_refl _
  | k + 1, hk => by
    have ih := VQ_abs hn hP h k (by omega)
    rw [su_s]
    have a := Nat.mul_le_mul (h k (by omega)) (h k (by omega))
    rw [← Int.natAbs_mul] at a
    by_cases z : 0 < k
    · have l := hP k z (by omega)
      have b := Nat.mul_le_mul (h k (by omega)) (h (P k) (by omega))
      rw [← Int.natAbs_mul] at b
      rw [if_pos z]
      omega
    · rw [if_neg z]
      omega
/-! trees that are one tree with other numbers -/
def IsoT (n : Nat) (P Q pi ro : Nat → Nat) : Prop := (∀ i, i < n → pi i < n ∧ ro (pi i) = i) ∧ (∀ i, i < n → ro i < n ∧ pi (ro i) = i) ∧ ∀ i j, i < n → j < n → ajT P i j = ajT Q (pi i) (pi j)
theorem su_perm {n : Nat} {pi ro : Nat → Nat} (h1 : ∀ i, i < n → pi i < n ∧ ro (pi i) = i) (h2 : ∀ i, i < n → ro i < n ∧ pi (ro i) = i) (f : Nat → Int) : su n (fun i => f (pi i)) = su n f := by
  have e1 : su n (fun i => f (pi i)) = su n (fun i => su n (fun j => if pi i = j then f j else 0)) := su_cg n (fun i hi => by
    rw [su_one (h1 i hi).1 _ (fun j _ hj => if_neg (Ne.symm hj)), if_pos rfl])
  rw [e1, su_swap]
  exact su_cg n (fun j hj => by
    show su n (fun i => if pi i = j then f j else 0) = f j
    rw [su_one (h2 j hj).1 _ (fun i hi hn => if_neg (fun e => hn (by rw [← e]; exact (h1 i hi).2.symm))), if_pos (h2 j hj).2])
theorem nsm_iso {n : Nat} {P Q pi ro : Nat → Nat} (h : IsoT n P Q pi ro) (x : Nat → Int) {i : Nat} (hi : i < n) : nsm P n (fun j => x (pi j)) i = nsm Q n x (pi i) := by
  unfold nsm
  rw [← su_perm h.1 h.2.1 (fun j => if ajT Q (pi i) j then x j else 0)]
  exact su_cg n (fun j hj => by rw [h.2.2 i j hi hj])
/-! lists of rows -/
theorem nd_le {α : Type} [BEq α] [LawfulBEq α] : ∀ (A B : List α), A.Nodup → (∀ x, x ∈ A → x ∈ B) → A.length ≤ B.length
  | [], _, _, _ => Nat.zero_le _
  | x :: A, B, h, s => by
    have hx := s x (List.mem_cons_self)
    have := nd_le A (B.erase x) (List.nodup_cons.1 h).2 (fun y hy => (List.mem_erase_of_ne (show y ≠ x from fun e => (List.nodup_cons.1 h).1 (by rw [← e]; exact hy))).2 (s y (List.mem_cons_of_mem _ hy)))
    rw [List.length_erase_of_mem hx] at this
    have := List.length_pos_of_mem hx
    simp only [List.length_cons]
    omega
def gl (x : List Nat) : Nat → Int := fun j => ((x.getD j 0 : Nat) : Int)
def adl (x : List Nat) (i : Nat) : List Nat := x.set i (x.getD i 0 + 1)
def nsl (P : Nat → Nat) (n : Nat) (x : List Nat) (i : Nat) : Nat := ((List.range n).map (fun j => if ajT P i j then x.getD j 0 else 0)).sum
def cdl (P : Nat → Nat) (n : Nat) (x : List Nat) (i : Nat) : Bool := 1 + 2 * x.getD i 0 == nsl P n x i
def unl (n i : Nat) : List Nat := (List.range n).map (fun j => if j = i then 1 else 0)
def ndB : List (List Nat) → Bool
  | [] => true
  | x :: t => !t.contains x && ndB t
def drB (P : Nat → Nat) (n : Nat) : List (List Nat) → List (List Nat) → Bool
  | _, [] => true
  | s, x :: t => ((List.range n).any (fun i => x == unl n i) || s.any (fun y => (List.range n).any (fun i => x == adl y i && cdl P n y i))) && drB P n (x :: s) t
def vrB (P : Nat → Nat) (n : Nat) (L : List (List Nat)) : Bool :=
  ndB L && (L.all (fun x => x.length == n && (List.range n).all (fun j => Nat.ble (x.getD j 0) 9)) && ((List.range n).all (fun i => L.contains (unl n i)) && (L.all (fun x => (List.range n).all (fun i => !cdl P n x i || L.contains (adl x i))) && (drB P n [] L && Nat.ble L.length 199))))
theorem gl_ad {x : List Nat} {n i : Nat} (hx : x.length = n) (hi : i < n) (j : Nat) : gl (adl x i) j = adx (gl x) i j := by
  unfold gl adl adx
  by_cases e : j = i
  · subst e
    rw [if_pos rfl, List.getD_eq_getElem?_getD, List.getElem?_set_self (by omega)]
    simp
  · rw [if_neg e, List.getD_eq_getElem?_getD, List.getElem?_set_ne (Ne.symm e), ← List.getD_eq_getElem?_getD]
theorem gl_un {n i : Nat} (hi : i < n) {j : Nat} (hj : j < n) : gl (unl n i) j = if j = i then 1 else 0 := by
  unfold gl unl
  rw [List.getD_eq_getElem?_getD, List.getElem?_map, List.getElem?_range hj]
  simp
  split <;> rfl
theorem nsl_su (P : Nat → Nat) (n : Nat) (x : List Nat) (i : Nat) : ((nsl P n x i : Nat) : Int) = nsm P n (gl x) i := by
  unfold nsl nsm
  generalize hP : (fun j => if ajT P i j then x.getD j 0 else 0) = f
  have hg : ∀ j, (if ajT P i j then gl x j else 0) = ((f j : Nat) : Int) := fun j => by
    rw [← hP]
    show (if ajT P i j then ((x.getD j 0 : Nat) : Int) else 0) = (((if ajT P i j then x.getD j 0 else 0 : Nat)) : Int)
    split <;> rfl
  clear hP
  induction n with
  | zero => rfl
  | succ n ih =>
    rw [List.range_succ, List.map_append, List.sum_append, su_s, ← ih, hg n]
    simp
theorem cdl_iff (P : Nat → Nat) (n : Nat) (x : List Nat) (i : Nat) : cdl P n x i = true ↔ 1 + 2 * gl x i = nsm P n (gl x) i := by
  rw [← nsl_su]
  unfold cdl gl
  rw [beq_iff_eq]
  omega
theorem ndB_ok : ∀ L, ndB L = true → L.Nodup
  | [], _ => List.nodup_nil
  | x :: t, h => by
    rw [ndB, Bool.and_eq_true] at h
    refine List.nodup_cons.2 ⟨?_, ndB_ok t h.2⟩
    have := h.1
    simpa using this
def DrV (P : Nat → Nat) (n : Nat) (x : List Nat) (p : List Nat → Prop) : Prop := (∃ i, i < n ∧ x = unl n i) ∨ ∃ y i, p y ∧ i < n ∧ cdl P n y i = true ∧ x = adl y i
theorem drB_ok (P : Nat → Nat) (n : Nat) (p : List Nat → Prop) (hp : ∀ x, DrV P n x p → p x) : ∀ (t s : List (List Nat)), drB P n s t = true → (∀ x, x ∈ s → p x) → ∀ x, x ∈ t → p x
  | [], _, _, _, x, hx => by cases hx
  | z :: t, s, h, hs, x, hx => by
    rw [drB, Bool.and_eq_true, Bool.or_eq_true] at h
    have pz : p z := by
      refine hp z ?_
      rcases h.1 with q | q
      · obtain ⟨i, h1, h2⟩ := List.any_eq_true.1 q
        exact Or.inl ⟨i, List.mem_range.1 h1, by simpa using h2⟩
      · obtain ⟨y, h1, h2⟩ := List.any_eq_true.1 q
        obtain ⟨i, h3, h4⟩ := List.any_eq_true.1 h2
        rw [Bool.and_eq_true] at h4
        exact Or.inr ⟨y, i, hs y h1, List.mem_range.1 h3, h4.2, by simpa using h4.1⟩
    rcases List.mem_cons.1 hx with e | e
    · rw [e]; exact pz
    · exact drB_ok P n p hp t (z :: s) h.2 (fun w hw => by
        rcases List.mem_cons.1 hw with e | e
        · rw [e]; exact pz
        · exact hs w e) x e
def VRL (P : Nat → Nat) (n : Nat) (L : List (List Nat)) : Prop := L.Nodup ∧ (∀ x, x ∈ L → x.length = n ∧ ∀ j, j < n → 0 ≤ gl x j ∧ gl x j ≤ 9) ∧ (∀ i, i < n → unl n i ∈ L) ∧ (∀ x, x ∈ L → ∀ i, i < n → 1 + 2 * gl x i = nsm P n (gl x) i → adl x i ∈ L) ∧ (∀ p : List Nat → Prop, (∀ x, DrV P n x p → p x) → ∀ x, x ∈ L → p x) ∧ L.length ≤ 199
theorem vrB_ok {P : Nat → Nat} {n : Nat} {L : List (List Nat)} (h : vrB P n L = true) : VRL P n L := by
  unfold vrB at h
  simp only [Bool.and_eq_true] at h
  obtain ⟨h1, h2, h3, h4, h5, h6⟩ := h
  refine ⟨ndB_ok L h1, fun x hx => ?_, fun i hi => ?_, fun x hx i hi hc => ?_, fun p hp x hx => drB_ok P n p hp L [] h5 (fun x hx => by cases hx) x hx, Nat.le_of_ble_eq_true h6⟩
  · have q := List.all_eq_true.1 h2 x hx
    rw [Bool.and_eq_true] at q
    refine ⟨by simpa using q.1, fun j hj => ?_⟩
    have q2 := Nat.le_of_ble_eq_true (List.all_eq_true.1 q.2 j (List.mem_range.2 hj))
    unfold gl
    omega
  · have q := List.all_eq_true.1 h3 i (List.mem_range.2 hi)
    simpa using q
  · have q := List.all_eq_true.1 (List.all_eq_true.1 h4 x hx) i (List.mem_range.2 hi)
    rw [(cdl_iff P n x i).2 hc] at q
    simpa using q
