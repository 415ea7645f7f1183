/-! what holds between two calls -/
theorem x_same {G : GL} {d rc rs : Nat} {M : MD} {pc : Nat} {ls st : List AV} {hp : HP} {sz : Nat} {Q : Option AV → HP → Nat → Prop} {x : Int} {off : Int} {tgt : Nat} (hd : decode M.2.1 pc = .ok (.if_icmp .eq off, 3)) (ht : (pc : Int) + off = (tgt : Int)) (kt : Ex G d rc rs M tgt ls st hp sz Q) : Ex G d rc rs M pc ls (vi x :: vi x :: st) hp sz Q := by
  intro p l e R s m args below meth c H locs cells slots lsR C h1 h2 h3 h4 h5
  refine lv_icmp_eq C.1 C.2.1 hd ht (fun _ => kt p l e R s m args below meth c H locs cells slots lsR C h1 h2 h3 h4 h5) (fun h => absurd rfl h)
def CLI (p N : Nat) (S T : Nat → Nat → Int) (W : Nat → Nat) (h : HP) : Prop := ClsA h p N ∧ LysA h S T W ∧ (∃ s n w, Lay h 26 s n w) ∧ RwX h 29 p ∧ PZ h p N ∧ (∃ u v c, SpA h 76 u v c) ∧ (∃ u v c, SpA h 79 u v c) ∧ PrX h ∧ ∃ pa li ab be s, TrA h pa li ab be s
def MOI (p N : Nat) (W : Nat → Nat) (S T : Nat → Int) (h : HP) : Prop := TX h p N W S T ∧ (∃ A E, NwA h A E) ∧ (∃ f0, h 360 = ar 0 9 f0) ∧ (∃ col Ll, h 396 = ar 0 4 col ∧ h 397 = ar 0 4 Ll) ∧ (∃ Bg En Cn, LsA h Bg En Cn) ∧ (∃ pr td, h 401 = ar 0 32 pr ∧ h 402 = ar 3 32 td ∧ (∀ k, td k = 0 ∨ td k = 1)) ∧ (∃ r g, SqX h r g) ∧ (∃ pa, h 413 = ar 0 9 pa) ∧ ∃ F, FnX h F
def INV (p N : Nat) (h : HP) : Prop := isP p ∧ (1 ≤ N ∧ N ≤ 8) ∧ ∃ S T W Sm Tm, CLI p N S T W h ∧ MOI p N W Sm Tm h ∧ RelL S T Sm Tm ∧ inSm Sm ∧ inTm Tm p ∧ ZC N S T W
theorem CLI.keep {p N : Nat} {S T : Nat → Nat → Int} {W : Nat → Nat} {h h' : HP} (c : CLI p N S T W h) (e : ∀ x, x ≤ 91 → h' x = h x) : CLI p N S T W h' := by
  obtain ⟨c1, c2, ⟨s, n, w, c3⟩, c4, c5, ⟨u1, v1, k1, c6⟩, ⟨u2, v2, k2, c7⟩, ⟨po, pt, rf, wt, c8⟩, pa, li, ab, be, q, c9⟩ := c
  exact ⟨c1.keep (e _ (by omega)) (e _ (by omega)), c2.keep (fun x _ h2 => e x (by omega)), ⟨s, n, w, c3.keep (fun x _ h2 => e x (by omega))⟩, c4.keep (fun x _ h2 => e x (by omega)), c5.keep (fun x _ h2 => e x (by omega)), ⟨u1, v1, k1, c6.keep (fun x _ h2 => e x (by omega))⟩, ⟨u2, v2, k2, c7.keep (fun x _ h2 => e x (by omega))⟩, ⟨po, pt, rf, wt, c8.keep (fun x _ h2 => e x (by omega))⟩, pa, li, ab, be, q, c9.keep (fun x _ h2 => e x (by omega))⟩
theorem TX.re {h h' : HP} {p N : Nat} {W W' : Nat → Nat} {S T S' T' : Nat → Int} (t : TX h p N W S T) (C : ModA h' p N) (D : MdS h' W' S' T') (e0 : h' 92 = h 92) (e : ∀ x, 98 ≤ x → x ≤ 395 → h' x = h x) : TX h' p N W' S' T' := by
  obtain ⟨M, ld, m, w, g, σ, F, Qs, t1, t2, t3, t4, ⟨g', t5, t5b⟩, t6⟩ := t
  exact ⟨M, ld, m, w, g, σ, F, Qs, C, D, t3.keep e0 (fun x h1 h2 => e x h1 (by omega)), (e _ (by omega) (by omega)).trans t4, ⟨g', (e _ (by omega) (by omega)).trans t5, t5b⟩, fun i hi => (e _ (by omega) (by omega)).trans (t6 i hi)⟩
theorem TX.k2 {h h' : HP} {p N : Nat} {W : Nat → Nat} {S T : Nat → Int} (t : TX h p N W S T) (e : ∀ x, 92 ≤ x → x ≤ 395 → h' x = h x) : TX h' p N W S T :=
  t.re (t.C.keep (e _ (by omega) (by omega))) (t.D.keep (fun x h1 h2 => e x (by omega) (by omega))) (e _ (by omega) (by omega)) (fun x h1 h2 => e x (by omega) h2)
/-- the model's cells past its tables -/
def MOR (h : HP) : Prop := (∃ A E, NwA h A E) ∧ (∃ f0, h 360 = ar 0 9 f0) ∧ (∃ col Ll, h 396 = ar 0 4 col ∧ h 397 = ar 0 4 Ll) ∧ (∃ Bg En Cn, LsA h Bg En Cn) ∧ (∃ pr td, h 401 = ar 0 32 pr ∧ h 402 = ar 3 32 td ∧ (∀ k, td k = 0 ∨ td k = 1)) ∧ (∃ r g, SqX h r g) ∧ (∃ pa, h 413 = ar 0 9 pa) ∧ ∃ F, FnX h F
theorem MOR.keep {h h' : HP} (c : MOR h) (e6 : h' 96 = h 96) (e7 : h' 97 = h 97) (e0 : h' 360 = h 360) (e : ∀ x, 396 ≤ x → x ≤ 614 → h' x = h x) : MOR h' := by
  obtain ⟨⟨A, E, c1⟩, ⟨f0, c2⟩, ⟨col, Ll, c3, c4⟩, ⟨Bg, En, Cn, c5, c6, c7⟩, ⟨pr, td, c8, c9, c10⟩, ⟨r, g, c11⟩, ⟨pa, c12⟩, F, c13⟩ := c
  exact ⟨⟨A, E, c1.keep e6 e7⟩, ⟨f0, e0.trans c2⟩, ⟨col, Ll, (e _ (by omega) (by omega)).trans c3, (e _ (by omega) (by omega)).trans c4⟩, ⟨Bg, En, Cn, (e _ (by omega) (by omega)).trans c5, (e _ (by omega) (by omega)).trans c6, (e _ (by omega) (by omega)).trans c7⟩, ⟨pr, td, (e _ (by omega) (by omega)).trans c8, (e _ (by omega) (by omega)).trans c9, c10⟩, ⟨r, g, c11.keep (fun x h1 h2 => e x (by omega) (by omega))⟩, ⟨pa, (e _ (by omega) (by omega)).trans c12⟩, F, c13.keep (fun x h1 h2 => e x (by omega) (by omega))⟩
theorem MOI.keep {p N : Nat} {W : Nat → Nat} {S T : Nat → Int} {h h' : HP} (c : MOI p N W S T h) (e : ∀ x, 92 ≤ x → x ≤ 614 → h' x = h x) : MOI p N W S T h' :=
  ⟨c.1.k2 (fun x h1 h2 => e x h1 (by omega)), MOR.keep c.2 (e _ (by omega) (by omega)) (e _ (by omega) (by omega)) (e _ (by omega) (by omega)) (fun x h1 h2 => e x (by omega) h2)⟩
/-- a call that changes only the tables -/
theorem MOI.tab {p N : Nat} {W W' : Nat → Nat} {S T S' T' : Nat → Int} {h h' : HP} (c : MOI p N W S T h) (C : ModA h' p N) (D : MdS h' W' S' T') (ff : Fr h h' 93 95) : MOI p N W' S' T' h' :=
  ⟨c.1.re C D (ff _ (by omega)) (fun x h1 h2 => ff x (by omega)), MOR.keep c.2 (ff _ (by omega)) (ff _ (by omega)) (ff _ (by omega)) (fun x h1 h2 => ff x (by omega))⟩
/-! lay -/
theorem lay_rel {p N : Nat} (hP : isP p) {S T : Nat → Nat → Int} {Sm Tm S1 T1 : Nat → Int} {W : Nat → Nat} (hR : RelL S T Sm Tm) (hS : inSm Sm) (hT : inTm Tm p) (hZ : ZC N S T W) {x w : Nat} (hx : x < 8) (hN : N ≤ 8) {z : Int} (hz : ∀ j, j < N → (z / 2 ^ (3 * j)) % 8 ≤ 4) {s1 n1 : Nat → Int}
    (a1 : ∀ j, j < 8 → s1 j = if j < N then (z / 2 ^ (3 * j)) % 8 else 0) (a2 : ∀ j, j < 112 → n1 j = 0)
    (b1 : ∀ q, S1 q = if 8 * x ≤ q ∧ q < 8 * x + 8 then (if q < 8 * x + N then (z / 2 ^ (3 * (q - 8 * x))) % 8 else 0) else Sm q) (b2 : ∀ q, T1 q = if 128 * x ≤ q ∧ q < 128 * x + 128 then 0 else Tm q) :
    RelL (up S x s1) (up T x n1) S1 T1 ∧ inSm S1 ∧ inTm T1 p ∧ ZC N (up S x s1) (up T x n1) (up W x w) := by
  have hp := hP.le
  refine ⟨hR.up (fun j hj => ?_) (fun i hi => ?_) (fun y hy => ?_) (fun i hi => ?_), fun y hy => ?_, fun y hy => ?_, hZ.up ⟨fun j h1 h2 => ?_, fun y hy _ => a2 y hy⟩⟩
  · rw [a1 j hj, b1, if_pos (show 8 * x ≤ 8 * x + j ∧ 8 * x + j < 8 * x + 8 by omega)]
    by_cases e : j < N
    · rw [if_pos e, if_pos (by omega), show 8 * x + j - 8 * x = j by omega]
    · rw [if_neg e, if_neg (by omega)]
  · rw [b1, if_neg (by omega)]
  · rw [a2 y hy, b2, if_pos (by omega)]
  · rw [b2, if_neg (by omega)]
  · rw [b1]
    split
    · split
      · have := hz (y - 8 * x) (by omega)
        have := Int.emod_nonneg (z / 2 ^ (3 * (y - 8 * x))) (show (8 : Int) ≠ 0 by decide)
        omega
      · omega
    · exact hS y hy
  · rw [b2]
    split
    · omega
    · exact hT y hy
  · rw [a1 j h2, if_neg (by omega)]
/-! set -/
theorem RelL.cell {S T : Nat → Nat → Int} {Sm Tm : Nat → Int} (hR : RelL S T Sm Tm) {N : Nat} (hN : N ≤ 8) {W : Nat → Nat} {x y u v : Int} {l k i j : Nat} : cellP N S W x y u v l k i j ↔ cellM N Sm W x y u v l k i j := by
  unfold cellP cellM
  constructor
  · intro h
    obtain ⟨h1, h2, h3, h4, h5, h6, h7, h8⟩ := h
    rw [hR.1 l _ h5 (by split <;> omega)] at h7 h8
    exact ⟨h1, h2, h3, h4, h5, h6, h7, h8⟩
  · intro h
    obtain ⟨h1, h2, h3, h4, h5, h6, h7, h8⟩ := h
    rw [← hR.1 l _ h5 (by split <;> omega)] at h7 h8
    exact ⟨h1, h2, h3, h4, h5, h6, h7, h8⟩
theorem set_rel {p N : Nat} (hP : isP p) (hN : N ≤ 8) {S T : Nat → Nat → Int} {Sm Tm : Nat → Int} {W : Nat → Nat} (hR : RelL S T Sm Tm) (hS : inSm Sm) (hT : inTm Tm p) (hZ : ZC N S T W) {x y u v : Int} {l k i j : Nat} (h : cellP N S W x y u v l k i j) (z : Int) :
    RelL S (up T l (up (T l) (k * 16 + i * 4 + j) (z % p))) Sm (up Tm (l * 128 + k * 16 + i * 4 + j) (z % p)) ∧ inTm (up Tm (l * 128 + k * 16 + i * 4 + j) (z % p)) p ∧ ZC N S (up T l (up (T l) (k * 16 + i * 4 + j) (z % p))) W := by
  have hp := hP.le
  obtain ⟨h1, h2, h3, h4, h5, h6, h7, h8⟩ := h
  have a1 := (hR.inS hS) l (if (W l).testBit k then k else k + 1) h5 (by split <;> omega)
  have a2 := (hR.inS hS) l (if (W l).testBit k then k + 1 else k) h5 (by split <;> omega)
  have li : i < 4 := by omega
  have lj : j < 4 := by omega
  refine ⟨⟨hR.1, fun l2 x2 hl2 hx2 => ?_⟩, fun y2 hy2 => ?_, fun l2 hl2 => ?_⟩
  · by_cases e : l2 = l
    · subst e
      rw [up_s]
      by_cases e2 : x2 = k * 16 + i * 4 + j
      · rw [e2, up_s, show 128 * l2 + (k * 16 + i * 4 + j) = l2 * 128 + k * 16 + i * 4 + j by omega, up_s]
      · rw [up_n _ _ e2, up_n _ _ (by omega)]; exact hR.2 l2 x2 hl2 hx2
    · rw [up_n _ _ e, up_n _ _ (by omega)]; exact hR.2 l2 x2 hl2 hx2
  · by_cases e : y2 = l * 128 + k * 16 + i * 4 + j
    · rw [e, up_s]; exact emod_rg (by omega)
    · rw [up_n _ _ e]; exact hT y2 hy2
  · by_cases e : l2 = l
    · subst e
      rw [up_s]
      refine ⟨(hZ l2 hl2).1, fun x2 hx2 hno => ?_⟩
      by_cases e2 : x2 = k * 16 + i * 4 + j
      · refine absurd ?_ hno
        subst e2
        rw [show (k * 16 + i * 4 + j) / 16 = k by omega, show (k * 16 + i * 4 + j) % 16 / 4 = i by omega, show (k * 16 + i * 4 + j) % 4 = j by omega]
        exact ⟨by omega, h7, h8⟩
      · rw [up_n _ _ e2]; exact (hZ l2 hl2).2 x2 hx2 hno
    · rw [up_n _ _ e]; exact hZ l2 hl2
/-! span -/
theorem span_rel {p N : Nat} (hP : isP p) {S T : Nat → Nat → Int} {Sm Tm S1 T1 : Nat → Int} {W : Nat → Nat} (hR : RelL S T Sm Tm) (hS : inSm Sm) (hT : inTm Tm p) (hZ : ZC N S T W) {x w : Nat} (hx : x < 8) (hN : N ≤ 8) {u v : Nat} (huv : u ≤ v) (hv : v < N) {s1 n1 : Nat → Int}
    (a1 : ∀ j, j < 8 → s1 j = if u ≤ j ∧ j ≤ v then 1 else 0) (a2 : ∀ j, u ≤ j → j < v → n1 (j * 16) = 1) (a3 : ∀ i, i < 112 → (∀ j, u ≤ j → j < v → i ≠ j * 16) → n1 i = 0)
    (b1 : ∀ q, S1 q = if 8 * x ≤ q ∧ q < 8 * x + 8 then (if 8 * x + u ≤ q ∧ q ≤ 8 * x + v then 1 else 0) else Sm q) (b2 : ∀ j, u ≤ j → j < v → T1 (x * 128 + j * 16) = 1) (b3 : ∀ q, (∀ j, u ≤ j → j < v → q ≠ x * 128 + j * 16) → T1 q = if 128 * x ≤ q ∧ q < 128 * x + 128 then 0 else Tm q) :
    RelL (up S x s1) (up T x n1) S1 T1 ∧ inSm S1 ∧ inTm T1 p ∧ ZC N (up S x s1) (up T x n1) (up W x w) := by
  have hp := hP.le
  refine ⟨hR.up (fun j hj => ?_) (fun i hi => ?_) (fun y hy => ?_) (fun i hi => ?_), fun y hy => ?_, fun y hy => ?_, hZ.up ⟨fun j h1 h2 => ?_, fun y hy hno => ?_⟩⟩
  · rw [a1 j hj, b1, if_pos (show 8 * x ≤ 8 * x + j ∧ 8 * x + j < 8 * x + 8 by omega)]
    by_cases e : u ≤ j ∧ j ≤ v
    · rw [if_pos e, if_pos (by omega)]
    · rw [if_neg e, if_neg (by omega)]
  · rw [b1, if_neg (by omega)]
  · by_cases e : ∃ j, u ≤ j ∧ j < v ∧ y = j * 16
    · obtain ⟨j, e1, e2, e3⟩ := e
      rw [e3, a2 j e1 e2, show 128 * x + j * 16 = x * 128 + j * 16 by omega, b2 j e1 e2]
    · rw [a3 y hy (fun j e1 e2 e3 => e ⟨j, e1, e2, e3⟩), b3 _ (fun j e1 e2 e3 => e ⟨j, e1, e2, by omega⟩), if_pos (by omega)]
  · rw [b3 i (fun j e1 e2 e3 => by omega), if_neg (by omega)]
  · rw [b1]
    split
    · split <;> omega
    · exact hS y hy
  · by_cases e : ∃ j, u ≤ j ∧ j < v ∧ y = x * 128 + j * 16
    · obtain ⟨j, e1, e2, e3⟩ := e
      rw [e3, b2 j e1 e2]; omega
    · rw [b3 y (fun j e1 e2 e3 => e ⟨j, e1, e2, e3⟩)]
      split
      · omega
      · exact hT y hy
  · rw [a1 j h2, if_neg (by omega)]
  · refine a3 y hy (fun j e1 e2 e3 => hno ?_)
    subst e3
    rw [show j * 16 / 16 = j by omega, show j * 16 % 16 / 4 = 0 by omega, show j * 16 % 4 = 0 by omega]
    have q1 := a1 j (by omega)
    have q2 := a1 (j + 1) (by omega)
    rw [if_pos (by omega)] at q1 q2
    unfold ta so
    refine ⟨by omega, ?_, ?_⟩
    · split
      · rw [q1]; decide
      · rw [q2]; decide
    · split
      · rw [q2]; decide
      · rw [q1]; decide
