/-! sums over the list of spans are sums over the bars -/
def ls (g : Nat → Nat → Int) : List (Nat × Nat) → Int
  | [] => 0
  | x :: L => g x.1 x.2 + ls g L
theorem ls_app (g : Nat → Nat → Int) : ∀ L M : List (Nat × Nat), ls g (L ++ M) = ls g L + ls g M
  | [], M => by show ls g M = 0 + ls g M; omega
  | x :: L, M => by
    show g x.1 x.2 + ls g (L ++ M) = g x.1 x.2 + ls g L + ls g M
    rw [ls_app g L M]; omega
theorem ls_rep (g : Nat → Nat → Int) (a b : Nat) : ∀ m : Nat, ls g (List.replicate m (a, b)) = m * g a b
  | 0 => by show (0 : Int) = _; simp
  | m + 1 => by
    rw [List.replicate_succ]
    show g a b + ls g (List.replicate m (a, b)) = _
    rw [ls_rep g a b m, Int.natCast_add, Int.add_mul]; simp; omega
theorem sm_shift (h : Nat → Int) : ∀ n, sm (n + 1) h = h 0 + sm n (fun i => h (i + 1))
  | 0 => by show 0 + h 0 = h 0 + 0; omega
  | n + 1 => by rw [sm_s (n + 1), sm_shift h n, sm_s]; omega
theorem ls_sm (g : Nat → Nat → Int) : ∀ L : List (Nat × Nat), sm L.length (fun i => g (L.getD i (0, 0)).1 (L.getD i (0, 0)).2) = ls g L
  | [] => rfl
  | x :: L => by
    rw [List.length_cons, sm_shift]
    show g x.1 x.2 + sm L.length (fun i => g (L.getD i (0, 0)).1 (L.getD i (0, 0)).2) = _
    rw [ls_sm g L]; rfl
theorem ls_len : ∀ L : List (Nat × Nat), ls (fun _ _ => 1) L = L.length
  | [] => rfl
  | x :: L => by
    show 1 + ls (fun _ _ => 1) L = _
    rw [ls_len L, List.length_cons]; omega
theorem ls_rB_add (g : Nat → Nat → Int) {μ ν ρ : Nat → Nat → Nat} (h : ∀ a b, ρ a b = μ a b + ν a b) (N a : Nat) : ∀ j, ls g (rB ρ N a j) = ls g (rB μ N a j) + ls g (rB ν N a j)
  | 0 => rfl
  | j + 1 => by
    show ls g (List.replicate _ _ ++ rB ρ N a j) = ls g (List.replicate _ _ ++ rB μ N a j) + ls g (List.replicate _ _ ++ rB ν N a j)
    rw [ls_app, ls_app, ls_app, ls_rB_add g h N a j, ls_rep, ls_rep, ls_rep, h, Int.natCast_add, Int.add_mul]; omega
theorem ls_rA_add (g : Nat → Nat → Int) {μ ν ρ : Nat → Nat → Nat} (h : ∀ a b, ρ a b = μ a b + ν a b) (N : Nat) : ∀ j, ls g (rA ρ N j) = ls g (rA μ N j) + ls g (rA ν N j)
  | 0 => rfl
  | j + 1 => by
    show ls g (rB ρ N _ _ ++ rA ρ N j) = ls g (rB μ N _ _ ++ rA μ N j) + ls g (rB ν N _ _ ++ rA ν N j)
    rw [ls_app, ls_app, ls_app, ls_rB_add g h, ls_rA_add g h N j]; omega
theorem ls_rB_one (g : Nat → Nat → Int) {N s0 e0 : Nat} (he : e0 < N) (a : Nat) : ∀ j, j ≤ N → ls g (rB (fun a b => if s0 = a ∧ e0 = b then 1 else 0) N a j) = if s0 = a ∧ N - j ≤ e0 then g a e0 else 0
  | 0, _ => by rw [if_neg (by omega)]; rfl
  | j + 1, hj => by
    show ls g (List.replicate (if s0 = a ∧ e0 = N - (j + 1) then 1 else 0) (a, N - (j + 1)) ++ rB _ N a j) = _
    rw [ls_app, ls_rB_one g he a j (by omega), ls_rep]
    by_cases q : s0 = a
    · by_cases e : e0 = N - (j + 1)
      · rw [if_pos ⟨q, e⟩, if_neg (by omega), if_pos (by omega), e]; simp
      · rw [if_neg (fun z => e z.2)]
        by_cases l : N - j ≤ e0
        · rw [if_pos ⟨q, l⟩, if_pos (by omega)]; simp
        · rw [if_neg (fun z => l z.2), if_neg (by omega)]; simp
    · rw [if_neg (fun z => q z.1), if_neg (fun z => q z.1), if_neg (fun z => q z.1)]; simp
theorem ls_rA_one (g : Nat → Nat → Int) {N s0 e0 : Nat} (hs : s0 ≤ e0) (he : e0 < N) : ∀ j, j ≤ N → ls g (rA (fun a b => if s0 = a ∧ e0 = b then 1 else 0) N j) = if N - j ≤ s0 then g s0 e0 else 0
  | 0, _ => by rw [if_neg (by omega)]; rfl
  | j + 1, hj => by
    show ls g (rB _ N (N - (j + 1)) (j + 1) ++ rA _ N j) = _
    rw [ls_app, ls_rA_one g hs he j (by omega), ls_rB_one g he _ (j + 1) hj]
    by_cases e : s0 = N - (j + 1)
    · rw [if_pos (by omega), if_neg (by omega), if_pos (by omega), e]; omega
    · rw [if_neg (by omega)]
      by_cases l : N - j ≤ s0
      · rw [if_pos l, if_pos (by omega)]; omega
      · rw [if_neg l, if_neg (by omega)]; omega
theorem ls_rA_z (g : Nat → Nat → Int) (N : Nat) : ∀ j, ls g (rA (fun _ _ => 0) N j) = 0
  | 0 => rfl
  | j + 1 => by
    have hB : ∀ i, ls g (rB (fun _ _ => 0) N (N - (j + 1)) i) = 0 := by
      intro i
      induction i with
      | zero => rfl
      | succ i ih => show ls g ([] ++ rB _ N _ i) = 0; exact ih
    show ls g (rB _ N (N - (j + 1)) (j + 1) ++ rA _ N j) = 0
    rw [ls_app, hB, ls_rA_z g N j]; rfl
theorem ls_bars (g : Nat → Nat → Int) {N : Nat} {st en : Nat → Nat} : ∀ R, (∀ r, r < R → st r ≤ en r ∧ en r < N) → ls g (rA (mul R st en) N N) = sm R (fun r => g (st r) (en r))
  | 0, _ => by
    have : mul 0 st en = fun _ _ => 0 := rfl
    rw [this, ls_rA_z]; rfl
  | R + 1, h => by
    have hr := h R (by omega)
    rw [ls_rA_add g (μ := mul R st en) (ν := fun a b => if st R = a ∧ en R = b then 1 else 0) (fun a b => by
      show cnt R _ + _ = cnt R _ + _
      simp only [decide_eq_true_eq]), ls_bars g R (fun r hr => h r (by omega)), ls_rA_one g hr.1 hr.2 N (Nat.le_refl _), if_pos (by omega), sm_s]
theorem len_bars {N R : Nat} {st en : Nat → Nat} (h : ∀ r, r < R → st r ≤ en r ∧ en r < N) : (rA (mul R st en) N N).length = R := by
  have h1 := ls_bars (fun _ _ => 1) R h
  rw [ls_len] at h1
  have : ∀ n, sm n (fun _ => 1) = (n : Int) := by
    intro n
    induction n with
    | zero => rfl
    | succ n ih => rw [sm_s, ih]; omega
  rw [this] at h1
  omega
theorem cnt_sm (B : Nat → Bool) : ∀ R, (cnt R B : Int) = sm R (fun r => bz (B r))
  | 0 => rfl
  | R + 1 => by
    rw [sm_s, ← cnt_sm B R]
    show ((cnt R B + (if B R = true then 1 else 0) : Nat) : Int) = _
    cases e : B R <;> simp [bz]
theorem hmn_sm {Lf : Nat → Bool} {RA RB : Nat} {stA enA stB enB : Nat → Nat} : (hmn Lf RA RB stA enA stB enB : Int) = sm RA (fun r => sm RB (fun q => bz (vdm Lf (stA r) (enA r) (stB q) (enB q)))) := by
  unfold hmn
  rw [cnt_sm]
  have key : ∀ A, sm (A * RB) (fun t => bz (vdm Lf (stA (t / RB)) (enA (t / RB)) (stB (t % RB)) (enB (t % RB)))) = sm A (fun r => sm RB (fun q => bz (vdm Lf (stA r) (enA r) (stB q) (enB q)))) := by
    intro A
    induction A with
    | zero => rw [Nat.zero_mul]; rfl
    | succ A ih =>
      have hsp : ∀ b, sm (A * RB + b) (fun t => bz (vdm Lf (stA (t / RB)) (enA (t / RB)) (stB (t % RB)) (enB (t % RB)))) = sm (A * RB) (fun t => bz (vdm Lf (stA (t / RB)) (enA (t / RB)) (stB (t % RB)) (enB (t % RB)))) + sm b (fun i => bz (vdm Lf (stA ((A * RB + i) / RB)) (enA ((A * RB + i) / RB)) (stB ((A * RB + i) % RB)) (enB ((A * RB + i) % RB)))) := by
        intro b
        induction b with
        | zero => rw [Nat.add_zero, sm_0]; omega
        | succ b ihb => rw [← Nat.add_assoc, sm_s, ihb, sm_s]; omega
      rw [Nat.add_mul, Nat.one_mul, hsp, ih, sm_s]
      congr 1
      refine sm_cg RB (fun q hq => ?_)
      rw [show A * RB + q = q + A * RB by omega, Nat.add_mul_div_right _ _ (by omega), Nat.div_eq_of_lt hq, Nat.add_mul_mod_self_right, Nat.mod_eq_of_lt hq, Nat.zero_add]
  exact key RA
/-- the class's count over both lists -/
theorem hmn_ls {Lf : Nat → Bool} {N RA RB : Nat} {stA enA stB enB : Nat → Nat} (hA : ∀ r, r < RA → stA r ≤ enA r ∧ enA r < N) (hB : ∀ r, r < RB → stB r ≤ enB r ∧ enB r < N) : sm (rA (mul RA stA enA) N N).length (fun i => sm (rA (mul RB stB enB) N N).length (fun j => bz (vdm Lf ((rA (mul RA stA enA) N N).getD i (0, 0)).1 ((rA (mul RA stA enA) N N).getD i (0, 0)).2 ((rA (mul RB stB enB) N N).getD j (0, 0)).1 ((rA (mul RB stB enB) N N).getD j (0, 0)).2))) = (hmn Lf RA RB stA enA stB enB : Nat) := by
  rw [hmn_sm, ls_sm (fun a b => sm (rA (mul RB stB enB) N N).length (fun j => bz (vdm Lf a b ((rA (mul RB stB enB) N N).getD j (0, 0)).1 ((rA (mul RB stB enB) N N).getD j (0, 0)).2))), ls_bars _ RA hA]
  refine sm_cg RA (fun r _ => ?_)
  rw [ls_sm (fun c d => bz (vdm Lf (stA r) (enA r) c d)), ls_bars _ RB hB]
theorem rB_cg {μ ν : Nat → Nat → Nat} {N a : Nat} (h : ∀ b, a ≤ b → b < N → μ a b = ν a b) : ∀ j, j ≤ N - a → rB μ N a j = rB ν N a j
  | 0, _ => rfl
  | j + 1, hj => by
    show List.replicate _ _ ++ rB μ N a j = List.replicate _ _ ++ rB ν N a j
    rw [rB_cg h j (by omega), h _ (by omega) (by omega)]
theorem rA_cg {μ ν : Nat → Nat → Nat} {N : Nat} (h : ∀ a b, a ≤ b → b < N → μ a b = ν a b) : ∀ j, j ≤ N → rA μ N j = rA ν N j
  | 0, _ => rfl
  | j + 1, hj => by
    show rB μ N _ _ ++ rA μ N j = rB ν N _ _ ++ rA ν N j
    rw [rA_cg h j (by omega), rB_cg (fun b => h _ b) (j + 1) (by omega)]
theorem mul_ls {N R : Nat} {st en : Nat → Nat} (h : ∀ r, r < R → st r ≤ en r ∧ en r < N) (a b : Nat) : ls (fun a' b' => bz (decide (a' = a ∧ b' = b))) (rA (mul R st en) N N) = (mul R st en a b : Nat) := by
  rw [ls_bars _ R h]
  unfold mul
  rw [cnt_sm]
theorem list_eq {L M : List (Nat × Nat)} (hl : L.length = M.length) (h : ∀ i, i < L.length → L.getD i (0, 0) = M.getD i (0, 0)) : L = M := by
  refine List.ext_getElem hl (fun i h1 h2 => ?_)
  have := h i h1
  rwa [List.getD_eq_getElem?_getD, List.getD_eq_getElem?_getD, List.getElem?_eq_getElem h1, List.getElem?_eq_getElem h2] at this
theorem lists_mul {N R R' : Nat} {st en st' en' : Nat → Nat} (h : ∀ r, r < R → st r ≤ en r ∧ en r < N) (h' : ∀ r, r < R' → st' r ≤ en' r ∧ en' r < N) : rA (mul R st en) N N = rA (mul R' st' en') N N ↔ ∀ a b, a ≤ b → b < N → mul R st en a b = mul R' st' en' a b := by
  constructor
  · intro e a b _ _
    have h1 := mul_ls h a b
    rw [e, mul_ls h' a b] at h1
    omega
  · intro e
    exact rA_cg e N (Nat.le_refl _)
/-! how many bars there are -/
theorem Bar.alive {K : Type} [Lean.Grind.CommRing K] (inv : ∀ x : K, x ≠ 0 → ∃ y, x * y = 1) (h01 : (1 : K) ≠ 0) {n D : Nat} {s : Nat → Nat} {Lf : Nat → Bool} {T : Nat → Nat → Nat → K} {R : Nat} {st en : Nat → Nat} {x : Nat → Nat → Nat → K} (h : Bar n D s Lf T R st en x) {k : Nat} (hk : k < n) : s k = cnt R (fun r => decide (st r ≤ k ∧ k ≤ en r)) := by
  obtain ⟨h1, h2, h3, h4, h5, h6, h7⟩ := h
  have hI : Ind R (fun r => decide (st r ≤ k ∧ k ≤ en r) = true) (fun r => x r k) := (h4 k hk).cgA (fun r _ q => by simpa [lv] using q)
  refine dim_B inv h01 hI (y := fun j => e1 j) (fun c _ hc j hj => ?_) (fun v => ?_)
  · have := hc j
    rw [su_one hj _ (fun i _ hne => by dsimp only; unfold e1; rw [if_neg (Ne.symm hne)]; grind)] at this
    have e : (e1 j : Nat → K) j = 1 := if_pos rfl
    dsimp only at this
    rw [e] at this
    grind
  · constructor
    · rintro ⟨c, c1, c2⟩
      have hv : ∀ i, s k ≤ i → v i = 0 := fun i hi => by
        rw [c2 i]
        exact su_z R (fun r hr => by dsimp only; rw [h3 r k i hr hi]; grind)
      exact ⟨v, fun r q => absurd trivial q, fun i => su_e1 hv i⟩
    · rintro ⟨c, c1, c2⟩
      have hv : ∀ i, s k ≤ i → v i = 0 := fun i hi => by
        rw [c2 i]
        exact su_z _ (fun j hj => by
          have e : (e1 j : Nat → K) i = 0 := if_neg (by omega)
          dsimp only
          rw [e]; grind)
      exact (h5 k hk v hv).cgA (fun r _ q => by simpa [lv] using q)
theorem cnt_starts {st : Nat → Nat} {R : Nat} : ∀ n, (∀ k, k < n → cnt R (fun r => decide (st r = k)) ≤ 4) → cnt R (fun r => decide (st r < n)) ≤ 4 * n
  | 0, _ => by rw [cnt_z R (fun r _ => by simp)]; omega
  | n + 1, h => by
    have ih := cnt_starts n (fun k hk => h k (by omega))
    have h1 := h n (by omega)
    have : ∀ R, cnt R (fun r => decide (st r < n + 1)) ≤ cnt R (fun r => decide (st r < n)) + cnt R (fun r => decide (st r = n)) := by
      intro R
      induction R with
      | zero => exact Nat.le_refl _
      | succ R ihR =>
        simp only [cnt, decide_eq_true_eq]
        by_cases e : st R < n
        · rw [if_pos (by omega), if_pos e]; omega
        · by_cases e2 : st R = n
          · rw [if_pos (by omega), if_neg e, if_pos e2]; omega
          · rw [if_neg (by omega), if_neg e, if_neg e2]; omega
    have := this R
    omega
theorem Bar.le32 {K : Type} [Lean.Grind.CommRing K] (inv : ∀ x : K, x ≠ 0 → ∃ y, x * y = 1) (h01 : (1 : K) ≠ 0) {n D : Nat} {s : Nat → Nat} {Lf : Nat → Bool} {T : Nat → Nat → Nat → K} {R : Nat} {st en : Nat → Nat} {x : Nat → Nat → Nat → K} (h : Bar n D s Lf T R st en x) (hn : n ≤ 8) (hs : ∀ k, s k ≤ 4) : R ≤ 32 := by
  have h1 := cnt_starts (st := st) (R := R) n (fun k hk => by
    have h2 := h.alive inv h01 hk
    have h3 := hs k
    have h4 : cnt R (fun r => decide (st r = k)) ≤ cnt R (fun r => decide (st r ≤ k ∧ k ≤ en r)) := cnt_mono R (fun r hr q => by
      simp only [decide_eq_true_eq] at q ⊢
      have := h.1 r hr
      omega)
    omega)
  have h2 : cnt R (fun r => decide (st r < n)) = R := cnt_all R (fun r hr => by
    have := h.1 r hr
    simp only [decide_eq_true_eq]
    omega)
  omega
