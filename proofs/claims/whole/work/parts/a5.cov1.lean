theorem m_finds {G : GL} {d : Nat} {sz p N : Nat} (hz : 615 ≤ sz) {sd : Nat} (hsd : sd < 2) {Bg En Cn : Nat → Int} {c1 c2 : Nat} (hc1 : c1 ≤ 32) (hc2 : c2 ≤ 32) (r1 : rg8 (ub Bg sd) (ub En sd) c1) (r2 : rg8 (ub Bg (1 - sd)) (ub En (1 - sd)) c2) (hcn : Cn (1 - sd) = (c2 : Int)) {most : Nat} (hmo : most ≤ 8) {pr : Nat → Int} : ∀ u, ∀ (hp : HP) (i : Nat) (td : Nat → Int), i < c1 → KrA hp p N Bg En Cn pr td → (∀ k, td k = 0 ∨ td k = 1) → K0 (fun i o => csp (ub Bg sd) (ub En sd) (ub Bg (1 - sd)) (ub En (1 - sd)) i o ≤ (most : Int)) c1 c2 i pr td → tz td c2 ≤ u → Ct G (d + u + 2) 0 0 mX7_finds [vr 92, vi sd, vi i, vi most] hp sz (Vs (fun v h => Fr hp h 401 402 ∧ ∃ (r : Bool) (pr' td' : Nat → Int), v = vi (bz r) ∧ h 401 = ar 0 32 pr' ∧ h 402 = ar 3 32 td' ∧ (∀ k, td' k = 0 ∨ td' k = 1) ∧ ((r = true ∧ KY (fun i o => csp (ub Bg sd) (ub En sd) (ub Bg (1 - sd)) (ub En (1 - sd)) i o ≤ (most : Int)) c1 c2 i pr td pr') ∨ (r = false ∧ pr' = pr ∧ KN (fun i o => csp (ub Bg sd) (ub En sd) (ub Bg (1 - sd)) (ub En (1 - sd)) i o ≤ (most : Int)) c2 i c2 pr td td'))) sz) := by
  intro u
  induction u with
  | zero =>
    intro hp i td hi ka h01 h0 htz
    show Ex G (d + 0 + 2) _ _ _ _ [vr 92, vi sd, vi i, vi most, vu] _ _ _ _
    refine x_iconst (pc := 0) dX7_finds_0 ?_
    refine x_istore (pc := 1) dX7_finds_1 (by decide) rfl ?_
    show Ex _ _ _ _ _ _ [_, _, _, _, _] _ _ _ _
    exact k_finds (d := d) (u := 0) hz hsd hc1 hc2 r1 r2 hcn hmo (fun hp x td2 _ _ _ _ q => absurd q (by omega)) hi htz h0 0 (by omega) hp td ka Fr.rf KN.start h01
  | succ u ih =>
    intro hp i td hi ka h01 h0 htz
    show Ex G (d + (u + 1) + 2) _ _ _ _ [vr 92, vi sd, vi i, vi most, vu] _ _ _ _
    refine x_iconst (pc := 0) dX7_finds_0 ?_
    refine x_istore (pc := 1) dX7_finds_1 (by decide) rfl ?_
    show Ex _ _ _ _ _ _ [_, _, _, _, _] _ _ _ _
    exact k_finds (d := d) (u := (u + 1)) hz hsd hc1 hc2 r1 r2 hcn hmo (fun hp x td2 a1 a2 a3 a4 q => ih hp x td2 a1 a2 a3 a4 (by omega)) hi htz h0 0 (by omega) hp td ka Fr.rf KN.start h01
/-- the ones before i that are dear are paired -/
def KB (adj : Nat → Nat → Prop) (m n : Nat) (dear : Nat → Prop) (i : Nat) (pr : Nat → Int) : Prop :=
  (∀ k, k < n → pr k = -1 ∨ ∃ j : Nat, j < m ∧ pr k = (j : Int) ∧ adj j k) ∧ (∀ k k', k < n → k' < n → pr k ≠ -1 → pr k = pr k' → k = k') ∧ ∀ x : Nat, (∃ k, k < n ∧ pr k = (x : Int)) ↔ x < i ∧ dear x
theorem KB.k0 {adj : Nat → Nat → Prop} {m n : Nat} {dear : Nat → Prop} {i : Nat} {pr td : Nat → Int} (h : KB adj m n dear i pr) : K0 adj m n i pr td :=
  ⟨h.1, fun k k' a b _ _ => h.2.1 k k' a b, fun k hk _ e => Nat.lt_irrefl _ ((h.2.2 i).mp ⟨k, hk, e⟩).1⟩
theorem KB.yes {adj : Nat → Nat → Prop} {m n : Nat} {dear : Nat → Prop} {i : Nat} {pr td pr' : Nat → Int} (h : KB adj m n dear i pr) (ht : ∀ k, k < n → td k = 0) (hd : dear i) (hy : KY adj m n i pr td pr') : KB adj m n dear (i + 1) pr' := by
  refine ⟨hy.2.1, fun k k' a b => hy.2.2.1 k k' a b (ht k a) (ht k' b), fun x => ?_⟩
  constructor
  · rintro ⟨k, a, b⟩
    rcases (hy.2.2.2 x).mp ⟨k, a, ht k a, b⟩ with q | ⟨k', c1, c2, c3⟩
    · exact ⟨by omega, q ▸ hd⟩
    · have := (h.2.2 x).mp ⟨k', c1, c3⟩
      exact ⟨by omega, this.2⟩
  · rintro ⟨a, b⟩
    have : x = i ∨ ∃ k, k < n ∧ td k = 0 ∧ pr k = (x : Int) := by
      by_cases e : x = i
      · exact Or.inl e
      · obtain ⟨k, c1, c2⟩ := (h.2.2 x).mpr ⟨by omega, b⟩
        exact Or.inr ⟨k, c1, ht k c1, c2⟩
    obtain ⟨k, c1, c2, c3⟩ := (hy.2.2.2 x).mpr this
    exact ⟨k, c1, c3⟩
theorem KB.skip {adj : Nat → Nat → Prop} {m n : Nat} {dear : Nat → Prop} {i : Nat} {pr : Nat → Int} (h : KB adj m n dear i pr) (hd : ¬ dear i) : KB adj m n dear (i + 1) pr := by
  refine ⟨h.1, h.2.1, fun x => (h.2.2 x).trans ⟨fun q => ⟨by omega, q.2⟩, fun q => ⟨?_, q.2⟩⟩⟩
  by_cases e : x = i
  · exact absurd (e ▸ q.2) hd
  · have := q.1; omega
theorem KB.full {adj : Nat → Nat → Prop} {m n : Nat} {dear : Nat → Prop} {pr : Nat → Int} (h : KB adj m n dear m pr) : Pm adj dear m n := by
  have hex : ∀ i, i < m ∧ dear i → ∃ k, k < n ∧ pr k = (i : Int) := fun i q => (h.2.2 i).mpr q
  have hch : ∃ φ : Nat → Nat, ∀ i, i < m → dear i → φ i < n ∧ pr (φ i) = (i : Int) := by
    refine ⟨fun i => if q : ∃ k, k < n ∧ pr k = (i : Int) then Classical.choose q else 0, fun i hi hd => ?_⟩
    have q := hex i ⟨hi, hd⟩
    dsimp only
    rw [dif_pos q]
    exact Classical.choose_spec q
  obtain ⟨φ, hφ⟩ := hch
  refine ⟨φ, fun i hi hd => ⟨(hφ i hi hd).1, ?_⟩, fun i j hi hj hd hd' e => ?_⟩
  · rcases h.1 _ (hφ i hi hd).1 with q | ⟨j, a, b, c⟩
    · have := (hφ i hi hd).2; omega
    · have := (hφ i hi hd).2
      have e : j = i := by omega
      exact e ▸ c
  · have a := (hφ i hi hd).2
    have b := (hφ j hj hd').2
    rw [e, b] at a
    omega

theorem k_cv1 {G : GL} {d : Nat} {sz p N : Nat} (hz : 615 ≤ sz) {Bg En Cn : Nat → Int} {sd most : Nat} {hp : HP} {pr0 td : Nat → Int} (ka0 : KrA hp p N Bg En Cn pr0 td) {v4 : AV} {Q : Option AV → HP → Nat → Prop} (hq : Ex G d 0 0 mX7_isCovered 21 [vr 92, vi sd, vi most, vi (32 : Nat), v4] [] (up hp 401 (ar 0 32 (fun j => if j < 32 then (-1 : Int) else pr0 j))) sz Q) : ∀ k : Nat, k ≤ 32 → Ex G d 0 0 mX7_isCovered 2 [vr 92, vi sd, vi most, vi k, v4] [] (up hp 401 (ar 0 32 (fun j => if j < k then (-1 : Int) else pr0 j))) sz Q := by
  refine down ?_ (fun k hk ih => ?_)
  · have ka := ka0.upr (q := (fun j => if j < 32 then (-1 : Int) else pr0 j))
    obtain ⟨C, ⟨LB, LE, LC⟩, LP, LT⟩ := id ka
    obtain ⟨C0, C1, C2, C3, C4, C5, C6, C7, C8, C11, C12, C13, C14, C15, C16, C17, C18, C19, C20, C21, C22, C23⟩ := id C
    have hob := C0.ob
    refine x_iload_n (pc := 2) dX7_isCovered_2 rfl ?_
    refine x_bipush (pc := 3) dX7_isCovered_3 (by decide) ?_
    refine x_icmp_ge (pc := 5) (tgt := 21) dX7_isCovered_5 (by decide) (by omega) (by omega) (fun c5 => ?_) (fun c5 => ?_)
    · exact hq
    · exact absurd c5 (by omega)
  · have ka := ka0.upr (q := (fun j => if j < k then (-1 : Int) else pr0 j))
    obtain ⟨C, ⟨LB, LE, LC⟩, LP, LT⟩ := id ka
    obtain ⟨C0, C1, C2, C3, C4, C5, C6, C7, C8, C11, C12, C13, C14, C15, C16, C17, C18, C19, C20, C21, C22, C23⟩ := id C
    have hob := C0.ob
    refine x_iload_n (pc := 2) dX7_isCovered_2 rfl ?_
    refine x_bipush (pc := 3) dX7_isCovered_3 (by decide) ?_
    refine x_icmp_ge (pc := 5) (tgt := 21) dX7_isCovered_5 (by decide) (by omega) (by omega) (fun c5 => ?_) (fun c5 => ?_)
    · exact absurd c5 (by omega)
    · refine x_aload_n (pc := 8) dX7_isCovered_8 rfl ?_
      refine x_gf (pc := 9) dX7_isCovered_9 fX7_57 (by assumption) (by omega) ?_
      refine x_iload_n (pc := 12) dX7_isCovered_12 rfl ?_
      refine x_iconst (pc := 13) dX7_isCovered_13 ?_
      refine x_is (pc := 14) dX7_isCovered_14 (by assumption) (by omega) rfl (by omega) ?_
      refine x_iinc (pc := 15) dX7_isCovered_15 rfl (by decide) rfl ?_
      show Ex _ _ _ _ _ _ [_, _, _, _, _] _ _ _ _
      refine x_goto (pc := 18) (tgt := 2) dX7_isCovered_18 (by decide) ?_
      rw [up_up, show up (fun j => if j < k then (-1 : Int) else pr0 j) k (-1) = (fun j => if j < (k + 1) then (-1 : Int) else pr0 j) from by
        funext j
        by_cases e : j = k
        · rw [e, up_s, if_pos (by omega)]
        · rw [up_n _ _ e]
          by_cases q : j < k
          · rw [if_pos q, if_pos (by omega)]
          · rw [if_neg q, if_neg (by omega)]]
      exact ih

theorem k_cv2 {G : GL} {d : Nat} {sz p N : Nat} (hz : 615 ≤ sz) {Bg En Cn : Nat → Int} {sd most i : Nat} {hp : HP} {pr td0 : Nat → Int} (ka0 : KrA hp p N Bg En Cn pr td0) {Q : Option AV → HP → Nat → Prop} (hq : Ex G d 0 0 mX7_isCovered 89 [vr 92, vi sd, vi most, vi i, vi (32 : Nat)] [] (up hp 402 (ar 3 32 (fun j => if j < 32 then (0 : Int) else td0 j))) sz Q) : ∀ k : Nat, k ≤ 32 → Ex G d 0 0 mX7_isCovered 68 [vr 92, vi sd, vi most, vi i, vi k] [] (up hp 402 (ar 3 32 (fun j => if j < k then (0 : Int) else td0 j))) sz Q := by
  refine down ?_ (fun k hk ih => ?_)
  · have ka := ka0.utd (q := (fun j => if j < 32 then (0 : Int) else td0 j))
    obtain ⟨C, ⟨LB, LE, LC⟩, LP, LT⟩ := id ka
    obtain ⟨C0, C1, C2, C3, C4, C5, C6, C7, C8, C11, C12, C13, C14, C15, C16, C17, C18, C19, C20, C21, C22, C23⟩ := id C
    have hob := C0.ob
    refine x_iload (pc := 68) dX7_isCovered_68 rfl ?_
    refine x_bipush (pc := 70) dX7_isCovered_70 (by decide) ?_
    refine x_icmp_ge (pc := 72) (tgt := 89) dX7_isCovered_72 (by decide) (by omega) (by omega) (fun c72 => ?_) (fun c72 => ?_)
    · exact hq
    · exact absurd c72 (by omega)
  · have ka := ka0.utd (q := (fun j => if j < k then (0 : Int) else td0 j))
    obtain ⟨C, ⟨LB, LE, LC⟩, LP, LT⟩ := id ka
    obtain ⟨C0, C1, C2, C3, C4, C5, C6, C7, C8, C11, C12, C13, C14, C15, C16, C17, C18, C19, C20, C21, C22, C23⟩ := id C
    have hob := C0.ob
    refine x_iload (pc := 68) dX7_isCovered_68 rfl ?_
    refine x_bipush (pc := 70) dX7_isCovered_70 (by decide) ?_
    refine x_icmp_ge (pc := 72) (tgt := 89) dX7_isCovered_72 (by decide) (by omega) (by omega) (fun c72 => ?_) (fun c72 => ?_)
    · exact absurd c72 (by omega)
    · refine x_aload_n (pc := 75) dX7_isCovered_75 rfl ?_
      refine x_gf (pc := 76) dX7_isCovered_76 fX7_60 (by assumption) (by omega) ?_
      refine x_iload (pc := 79) dX7_isCovered_79 rfl ?_
      refine x_iconst (pc := 81) dX7_isCovered_81 ?_
      refine x_zs (pc := 82) dX7_isCovered_82 (by assumption) (by omega) rfl (by omega) (Or.inl rfl) ?_
      refine x_iinc (pc := 83) dX7_isCovered_83 rfl (by decide) rfl ?_
      show Ex _ _ _ _ _ _ [_, _, _, _, _] _ _ _ _
      refine x_goto (pc := 86) (tgt := 68) dX7_isCovered_86 (by decide) ?_
      rw [up_up, show up (fun j => if j < k then (0 : Int) else td0 j) k 0 = (fun j => if j < (k + 1) then (0 : Int) else td0 j) from by
        funext j
        by_cases e : j = k
        · rw [e, up_s, if_pos (by omega)]
        · rw [up_n _ _ e]
          by_cases q : j < k
          · rw [if_pos q, if_pos (by omega)]
          · rw [if_neg q, if_neg (by omega)]]
      exact ih
