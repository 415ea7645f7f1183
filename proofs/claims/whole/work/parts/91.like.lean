def szs (S : Nat → Int) (l : Nat) : Nat → Nat := fun k => if k < 8 then (S (8 * l + k)).toNat else 0
theorem szs_8 {S : Nat → Int} (hS : inSm S) {l : Nat} (hl : l < 8) : sz8 S l (szs S l) := fun k hk => by
  have := hS (8 * l + k) (by omega)
  unfold szs
  rw [if_pos hk]
  omega
theorem szs_4 {S : Nat → Int} (hS : inSm S) {l : Nat} (hl : l < 8) (k : Nat) : szs S l k ≤ 4 := by
  by_cases h : k < 8
  · exact (szs_8 hS hl k h).2
  · unfold szs
    rw [if_neg h]
    omega
/-- the spans, one behind another: those of start a from the j-th last post on, and those of the j last starts -/
def rB (μ : Nat → Nat → Nat) (N a : Nat) : Nat → List (Nat × Nat)
  | 0 => []
  | j + 1 => List.replicate (μ a (N - (j + 1))) (a, N - (j + 1)) ++ rB μ N a j
def rA (μ : Nat → Nat → Nat) (N : Nat) : Nat → List (Nat × Nat)
  | 0 => []
  | j + 1 => rB μ N (N - (j + 1)) (j + 1) ++ rA μ N j
theorem rB_s {μ : Nat → Nat → Nat} {N a b : Nat} (h : b < N) : rB μ N a (N - b) = List.replicate (μ a b) (a, b) ++ rB μ N a (N - (b + 1)) := by
  rw [show N - b = (N - (b + 1)) + 1 by omega]
  show List.replicate (μ a (N - (N - (b + 1) + 1))) (a, N - (N - (b + 1) + 1)) ++ _ = _
  rw [show N - (N - (b + 1) + 1) = b by omega]
theorem rA_s {μ : Nat → Nat → Nat} {N a : Nat} (h : a < N) : rA μ N (N - a) = rB μ N a (N - a) ++ rA μ N (N - (a + 1)) := by
  rw [show N - a = (N - (a + 1)) + 1 by omega]
  show rB μ N (N - (N - (a + 1) + 1)) _ ++ _ = _
  rw [show N - (N - (a + 1) + 1) = a by omega]

set_option maxRecDepth 4000 in
theorem m_spans {K : Type} [Lean.Grind.CommRing K] {f : Int → K} {G : GL} {d : Nat} {sz p N : Nat} (hf : Iot p f) (hz : 615 ≤ sz) (hN : 1 ≤ N ∧ N ≤ 8) (hP : isP p) {W : Nat → Nat} {S T : Nat → Int} (hS : inSm S) (hT : inTm T p) {Rb : Nat → Nat} {st en : Nat → Nat → Nat} {xb : Nat → Nat → Nat → Nat → K} (hBs : ∀ l, l < 8 → Bar N 4 (szs S l) (Lw (W l)) (TK f T (Lw (W l)) (szs S l) l) (Rb l) (st l) (en l) (xb l)) {hp : HP} (tx : TX hp p N W S T) {x : Int} (hx : -2147483648 ≤ x ∧ x < 2147483648) {y : Int} (hy : -2147483648 ≤ y ∧ y < 2147483648) {z : Int} (hz1 : -2147483648 ≤ z ∧ z < 2147483648) : Ct G (d + 5) 0 0 mX7_spans [vr 92, vi x, vi y, vi z] hp sz (Vs (fun v h => v = vi (if 0 ≤ x ∧ x < 8 ∧ 0 ≤ y ∧ y ≤ z ∧ z < N then (mul (Rb x.toNat) (st x.toNat) (en x.toNat) y.toNat z.toNat : Nat) else -1) ∧ TX h p N W S T ∧ Ft hp h) sz) := by
  show Ex _ _ _ _ _ _ [vr 92, vi x, vi y, vi z] _ _ _ _
  have C := tx.C
  obtain ⟨C0, C1, C2, C3, C4, C5, C6, C7, C8, C11, C12, C13, C14, C15, C16, C17, C18, C19, C20, C21, C22, C23⟩ := id C
  have hob := C0.ob
  refine x_iload_n (pc := 0) dX7_spans_0 rfl ?_
  refine x_t1 (pc := 1) dX7_spans_1 wX7_isLaying sX7_isLaying kX7_104 (by decide) rfl (Nat.le_of_ble_eq_true rfl) (m_isLaying hx) ?_
  refine x_if_eq (pc := 4) (tgt := 38) dX7_spans_4 (by decide) (bz_rg _) (fun c4 => ?_) (fun c4 => ?_)
  · have d1 := bz_e c4
    refine x_iconst (pc := 38) dX7_spans_38 ?_
    refine x_iret (pc := 39) dX7_spans_39 rfl (by first | exact ⟨_, rfl, rfl, by rw [if_pos (by omega)]; rfl, tx1, f1⟩ | exact ⟨_, rfl, rfl, by rw [if_neg (by omega)], tx, Ft.rf⟩)
  · have d1 := bz_n c4
    refine x_aload_n (pc := 7) dX7_spans_7 rfl ?_
    refine x_iload_n (pc := 8) dX7_spans_8 rfl ?_
    refine x_w1 (pc := 9) dX7_spans_9 wX7_isPost iX7_isPost kX7_136 (by decide) rfl (Nat.le_of_ble_eq_true rfl) (by assumption) (by omega) (m_isPost C hz hN hy) ?_
    refine x_if_eq (pc := 12) (tgt := 38) dX7_spans_12 (by decide) (bz_rg _) (fun c12 => ?_) (fun c12 => ?_)
    · have d2 := bz_e c12
      refine x_iconst (pc := 38) dX7_spans_38 ?_
      refine x_iret (pc := 39) dX7_spans_39 rfl (by first | exact ⟨_, rfl, rfl, by rw [if_pos (by omega)]; rfl, tx1, f1⟩ | exact ⟨_, rfl, rfl, by rw [if_neg (by omega)], tx, Ft.rf⟩)
    · have d2 := bz_n c12
      refine x_aload_n (pc := 15) dX7_spans_15 rfl ?_
      refine x_iload_n (pc := 16) dX7_spans_16 rfl ?_
      refine x_w1 (pc := 17) dX7_spans_17 wX7_isPost iX7_isPost kX7_136 (by decide) rfl (Nat.le_of_ble_eq_true rfl) (by assumption) (by omega) (m_isPost C hz hN hz1) ?_
      refine x_if_eq (pc := 20) (tgt := 38) dX7_spans_20 (by decide) (bz_rg _) (fun c20 => ?_) (fun c20 => ?_)
      · have d3 := bz_e c20
        refine x_iconst (pc := 38) dX7_spans_38 ?_
        refine x_iret (pc := 39) dX7_spans_39 rfl (by first | exact ⟨_, rfl, rfl, by rw [if_pos (by omega)]; rfl, tx1, f1⟩ | exact ⟨_, rfl, rfl, by rw [if_neg (by omega)], tx, Ft.rf⟩)
      · have d3 := bz_n c20
        refine x_iload_n (pc := 23) dX7_spans_23 rfl ?_
        refine x_iload_n (pc := 24) dX7_spans_24 rfl ?_
        refine x_icmp_gt (pc := 25) (tgt := 38) dX7_spans_25 (by decide) (by omega) (by omega) (fun c25 => ?_) (fun c25 => ?_)
        · refine x_iconst (pc := 38) dX7_spans_38 ?_
          refine x_iret (pc := 39) dX7_spans_39 rfl (by first | exact ⟨_, rfl, rfl, by rw [if_pos (by omega)]; rfl, tx1, f1⟩ | exact ⟨_, rfl, rfl, by rw [if_neg (by omega)], tx, Ft.rf⟩)
        · obtain ⟨l, rfl⟩ : ∃ l : Nat, x = (l : Int) := ⟨x.toNat, by omega⟩
          obtain ⟨a, rfl⟩ : ∃ l : Nat, y = (l : Int) := ⟨y.toNat, by omega⟩
          obtain ⟨b, rfl⟩ : ∃ l : Nat, z = (l : Int) := ⟨z.toNat, by omega⟩
          refine x_aload_n (pc := 28) dX7_spans_28 rfl ?_
          refine x_iload_n (pc := 29) dX7_spans_29 rfl ?_
          refine x_iload_n (pc := 30) dX7_spans_30 rfl ?_
          refine x_iload_n (pc := 31) dX7_spans_31 rfl ?_
          refine x_y3 (pc := 32) dX7_spans_32 wX7_times iX7_times kX7_184 (by decide) rfl (Nat.le_of_ble_eq_true rfl) (by assumption) (by omega) (m_times (d := d) hf hz hN hP hT (l := l) (by omega) (szs_8 hS (by omega)) (hBs l (by omega)) (a := a) (b := b) (by omega) (by omega) tx) (fun v32 h32 e32 => ?_)
          obtain ⟨rfl, tx1, f1⟩ := e32
          refine x_goto (pc := 35) (tgt := 39) dX7_spans_35 (by decide) ?_
          refine x_iret (pc := 39) dX7_spans_39 rfl (by first | exact ⟨_, rfl, rfl, by rw [if_pos (by omega)]; rfl, tx1, f1⟩ | exact ⟨_, rfl, rfl, by rw [if_neg (by omega)], tx, Ft.rf⟩)

theorem k_like2 {K : Type} [Lean.Grind.CommRing K] {f : Int → K} {G : GL} {d : Nat} {sz p N : Nat} (hf : Iot p f) (hz : 615 ≤ sz) (hN : 1 ≤ N ∧ N ≤ 8) (hP : isP p) {W : Nat → Nat} {S T : Nat → Int} (hS : inSm S) (hT : inTm T p) {Rb : Nat → Nat} {st en : Nat → Nat → Nat} {xb : Nat → Nat → Nat → Nat → K} (hBs : ∀ l, l < 8 → Bar N 4 (szs S l) (Lw (W l)) (TK f T (Lw (W l)) (szs S l) l) (Rb l) (st l) (en l) (xb l)) {q r : Nat} (hq8 : q < 8) (hr8 : r < 8) (hRb : ∀ l, l < 8 → Rb l ≤ 32) {Q : Option AV → HP → Nat → Prop} {i : Nat} : ∀ k, k ≤ N → i ≤ k → ∀ (hp : HP), TX hp p N W S T → (∀ h, TX h p N W S T → Ft hp h → (∃ i k, i ≤ k ∧ k < N ∧ ¬ mul (Rb q) (st q) (en q) i k = mul (Rb r) (st r) (en r) i k) → Q (some (vi 0)) h sz) → (∀ h, TX h p N W S T → Ft hp h → (∀ j, k ≤ j → j < N → mul (Rb q) (st q) (en q) i j = mul (Rb r) (st r) (en r) i j) → Ex G (d + 5) 0 0 mX7_like 60 [vr 92, vi q, vi r, vi i, vi N] [] h sz Q) → Ex G (d + 5) 0 0 mX7_like 24 [vr 92, vi q, vi r, vi i, vi k] [] hp sz Q := by
  refine down (fun hik hp tx hno hq => ?_) (fun k hk ih hik hp tx hno hq => ?_)
  · have C := TX.C tx
    obtain ⟨C0, C1, C2, C3, C4, C5, C6, C7, C8, C11, C12, C13, C14, C15, C16, C17, C18, C19, C20, C21, C22, C23⟩ := id C
    have hob := C0.ob
    refine x_iload (pc := 24) dX7_like_24 rfl ?_
    refine x_aload_n (pc := 26) dX7_like_26 rfl ?_
    refine x_gf (pc := 27) dX7_like_27 fX7_93 (by assumption) (by omega) ?_
    refine x_icmp_ge (pc := 30) (tgt := 60) dX7_like_30 (by decide) (by omega) (by omega) (fun c30 => ?_) (fun c30 => ?_)
    · exact hq hp tx Ft.rf (fun j h1 h2 => absurd h2 (by omega))
    · exact absurd c30 (by omega)
  · have C := TX.C tx
    obtain ⟨C0, C1, C2, C3, C4, C5, C6, C7, C8, C11, C12, C13, C14, C15, C16, C17, C18, C19, C20, C21, C22, C23⟩ := id C
    have hob := C0.ob
    refine x_iload (pc := 24) dX7_like_24 rfl ?_
    refine x_aload_n (pc := 26) dX7_like_26 rfl ?_
    refine x_gf (pc := 27) dX7_like_27 fX7_93 (by assumption) (by omega) ?_
    refine x_icmp_ge (pc := 30) (tgt := 60) dX7_like_30 (by decide) (by omega) (by omega) (fun c30 => ?_) (fun c30 => ?_)
    · exact absurd c30 (by omega)
    · refine x_aload_n (pc := 33) dX7_like_33 rfl ?_
      refine x_iload_n (pc := 34) dX7_like_34 rfl ?_
      refine x_iload_n (pc := 35) dX7_like_35 rfl ?_
      refine x_iload (pc := 36) dX7_like_36 rfl ?_
      refine x_y3 (pc := 38) dX7_like_38 wX7_times iX7_times kX7_184 (by decide) rfl (Nat.le_of_ble_eq_true rfl) (by assumption) (by omega) (m_times (d := d) hf hz hN hP hT (l := q) hq8 (szs_8 hS hq8) (hBs q hq8) (a := i) (b := k) hik hk tx) (fun v38 h38 e38 => ?_)
      obtain ⟨rfl, tx1, f1⟩ := e38
      have hob1 := tx1.C.1.ob
      refine x_aload_n (pc := 41) dX7_like_41 rfl ?_
      refine x_iload_n (pc := 42) dX7_like_42 rfl ?_
      refine x_iload_n (pc := 43) dX7_like_43 rfl ?_
      refine x_iload (pc := 44) dX7_like_44 rfl ?_
      refine x_y3 (pc := 46) dX7_like_46 wX7_times iX7_times kX7_184 (by decide) rfl (Nat.le_of_ble_eq_true rfl) hob1 (by omega) (m_times (d := d) hf hz hN hP hT (l := r) hr8 (szs_8 hS hr8) (hBs r hr8) (a := i) (b := k) hik hk tx1) (fun v46 h46 e46 => ?_)
      obtain ⟨rfl, tx2, f2⟩ := e46
      refine x_icmp_eq (pc := 49) (tgt := 54) dX7_like_49 (by decide) (by have := cnt_le (fun r => decide (st q r = i ∧ en q r = k)) (Rb q); unfold mul; have := hRb q hq8; omega) (by have := cnt_le (fun z => decide (st r z = i ∧ en r z = k)) (Rb r); unfold mul; have := hRb r hr8; omega) (fun c49 => ?_) (fun c49 => ?_)
      · refine x_iinc (pc := 54) dX7_like_54 rfl (by decide) rfl ?_
        show Ex _ _ _ _ _ _ [_, _, _, _, _] _ _ _ _
        refine x_goto (pc := 57) (tgt := 24) dX7_like_57 (by decide) ?_
        exact ih (by omega) _ tx2 (fun h t f => hno h t ((f1.tr f2).tr f)) (fun h t f e => hq h t ((f1.tr f2).tr f) (fun j h1 h2 => by
          by_cases e9 : j = k
          · rw [e9]; omega
          · exact e j (by omega) h2))
      · refine x_iconst (pc := 52) dX7_like_52 ?_
        refine x_zret (pc := 53) dX7_like_53 rfl (Or.inl rfl) (hno _ tx2 (f1.tr f2) ⟨i, k, hik, hk, fun e => c49 (by rw [e])⟩)

theorem k_like1 {K : Type} [Lean.Grind.CommRing K] {f : Int → K} {G : GL} {d : Nat} {sz p N : Nat} (hf : Iot p f) (hz : 615 ≤ sz) (hN : 1 ≤ N ∧ N ≤ 8) (hP : isP p) {W : Nat → Nat} {S T : Nat → Int} (hS : inSm S) (hT : inTm T p) {Rb : Nat → Nat} {st en : Nat → Nat → Nat} {xb : Nat → Nat → Nat → Nat → K} (hBs : ∀ l, l < 8 → Bar N 4 (szs S l) (Lw (W l)) (TK f T (Lw (W l)) (szs S l) l) (Rb l) (st l) (en l) (xb l)) {q r : Nat} (hq8 : q < 8) (hr8 : r < 8) (hRb : ∀ l, l < 8 → Rb l ≤ 32) {Q : Option AV → HP → Nat → Prop} : ∀ i, i ≤ N → ∀ (hp : HP) (v4 : AV), TX hp p N W S T → (∀ h, TX h p N W S T → Ft hp h → (∃ i k, i ≤ k ∧ k < N ∧ ¬ mul (Rb q) (st q) (en q) i k = mul (Rb r) (st r) (en r) i k) → Q (some (vi 0)) h sz) → (∀ h, TX h p N W S T → Ft hp h → (∀ i' k, i ≤ i' → i' ≤ k → k < N → mul (Rb q) (st q) (en q) i' k = mul (Rb r) (st r) (en r) i' k) → Q (some (vi 1)) h sz) → Ex G (d + 5) 0 0 mX7_like 13 [vr 92, vi q, vi r, vi i, v4] [] hp sz Q := by
  refine down (fun hp v4 tx hno hq => ?_) (fun i hi ih hp v4 tx hno hq => ?_)
  · have C := TX.C tx
    obtain ⟨C0, C1, C2, C3, C4, C5, C6, C7, C8, C11, C12, C13, C14, C15, C16, C17, C18, C19, C20, C21, C22, C23⟩ := id C
    have hob := C0.ob
    refine x_iload_n (pc := 13) dX7_like_13 rfl ?_
    refine x_aload_n (pc := 14) dX7_like_14 rfl ?_
    refine x_gf (pc := 15) dX7_like_15 fX7_93 (by assumption) (by omega) ?_
    refine x_icmp_ge (pc := 18) (tgt := 66) dX7_like_18 (by decide) (by omega) (by omega) (fun c18 => ?_) (fun c18 => ?_)
    · refine x_iconst (pc := 66) dX7_like_66 ?_
      refine x_zret (pc := 67) dX7_like_67 rfl (Or.inr rfl) (hq hp tx Ft.rf (fun i j h1 h2 h3 => absurd h3 (by omega)))
    · exact absurd c18 (by omega)
  · have C := TX.C tx
    obtain ⟨C0, C1, C2, C3, C4, C5, C6, C7, C8, C11, C12, C13, C14, C15, C16, C17, C18, C19, C20, C21, C22, C23⟩ := id C
    have hob := C0.ob
    refine x_iload_n (pc := 13) dX7_like_13 rfl ?_
    refine x_aload_n (pc := 14) dX7_like_14 rfl ?_
    refine x_gf (pc := 15) dX7_like_15 fX7_93 (by assumption) (by omega) ?_
    refine x_icmp_ge (pc := 18) (tgt := 66) dX7_like_18 (by decide) (by omega) (by omega) (fun c18 => ?_) (fun c18 => ?_)
    · exact absurd c18 (by omega)
    · refine x_iload_n (pc := 21) dX7_like_21 rfl ?_
      refine x_istore (pc := 22) dX7_like_22 (by decide) rfl ?_
      show Ex _ _ _ _ _ _ [_, _, _, _, _] _ _ _ _
      refine k_like2 (d := d) hf hz hN hP hS hT hBs hq8 hr8 hRb i (by omega) (Nat.le_refl _) hp tx hno (fun h1 t1 f1 e1 => ?_)
      refine x_iinc (pc := 60) dX7_like_60 rfl (by decide) rfl ?_
      show Ex _ _ _ _ _ _ [_, _, _, _, _] _ _ _ _
      refine x_goto (pc := 63) (tgt := 13) dX7_like_63 (by decide) ?_
      exact ih h1 _ t1 (fun h t f => hno h t (f1.tr f)) (fun h t f e => hq h t (f1.tr f) (fun j k h2 h3 h4 => by
        by_cases e9 : j = i
        · rw [e9]; exact e1 k (by omega) h4
        · exact e j k (by omega) h3 h4))

set_option maxRecDepth 4000 in
theorem m_like {K : Type} [Lean.Grind.CommRing K] {f : Int → K} {G : GL} {d : Nat} {sz p N : Nat} (hf : Iot p f) (hz : 615 ≤ sz) (hN : 1 ≤ N ∧ N ≤ 8) (hP : isP p) {W : Nat → Nat} {S T : Nat → Int} (hS : inSm S) (hT : inTm T p) {Rb : Nat → Nat} {st en : Nat → Nat → Nat} {xb : Nat → Nat → Nat → Nat → K} (hBs : ∀ l, l < 8 → Bar N 4 (szs S l) (Lw (W l)) (TK f T (Lw (W l)) (szs S l) l) (Rb l) (st l) (en l) (xb l)) (hRb : ∀ l, l < 8 → Rb l ≤ 32) {hp : HP} (tx : TX hp p N W S T) {x : Int} (hx : -2147483648 ≤ x ∧ x < 2147483648) {y : Int} (hy : -2147483648 ≤ y ∧ y < 2147483648) : Ct G (d + 5) 0 0 mX7_like [vr 92, vi x, vi y] hp sz (Vs (fun v h => ∃ r : Bool, v = vi (bz r) ∧ (r = true ↔ 0 ≤ x ∧ x < 8 ∧ 0 ≤ y ∧ y < 8 ∧ W x.toNat = W y.toNat ∧ ∀ i k, i ≤ k → k < N → mul (Rb x.toNat) (st x.toNat) (en x.toNat) i k = mul (Rb y.toNat) (st y.toNat) (en y.toNat) i k) ∧ TX h p N W S T ∧ Ft hp h) sz) := by
  show Ex _ _ _ _ _ _ [vr 92, vi x, vi y, vu, vu] _ _ _ _
  have C := tx.C
  obtain ⟨C0, C1, C2, C3, C4, C5, C6, C7, C8, C11, C12, C13, C14, C15, C16, C17, C18, C19, C20, C21, C22, C23⟩ := id C
  have hob := C0.ob
  refine x_aload_n (pc := 0) dX7_like_0 rfl ?_
  refine x_iload_n (pc := 1) dX7_like_1 rfl ?_
  refine x_iload_n (pc := 2) dX7_like_2 rfl ?_
  refine x_w2 (pc := 3) dX7_like_3 wX7_areAlong iX7_areAlong kX7_169 (by decide) rfl (Nat.le_of_ble_eq_true rfl) (by assumption) (by omega) (m_areAlong C hz hN tx.D hx hy) ?_
  refine x_if_ne (pc := 6) (tgt := 11) dX7_like_6 (by decide) (bz_rg _) (fun c6 => ?_) (fun c6 => ?_)
  · have d1 := bz_n c6
    refine x_iconst (pc := 11) dX7_like_11 ?_
    refine x_istore_n (pc := 12) dX7_like_12 (by decide) rfl ?_
    show Ex _ _ _ _ _ _ [_, _, _, _, _] _ _ _ _
    obtain ⟨q, rfl⟩ : ∃ l : Nat, x = (l : Int) := ⟨x.toNat, by omega⟩
    obtain ⟨r, rfl⟩ : ∃ l : Nat, y = (l : Int) := ⟨y.toNat, by omega⟩
    simp only [Int.toNat_natCast] at d1 ⊢
    exact k_like1 (d := d) hf hz hN hP hS hT hBs (q := q) (r := r) (by omega) (by omega) hRb 0 (by omega) hp _ tx (fun h t f e => ⟨_, rfl, rfl, false, rfl, ⟨fun h => absurd h (by decide), fun h => by
      obtain ⟨i, k, e1, e2, e3⟩ := e
      exact absurd (h.2.2.2.2.2 i k e1 e2) e3⟩, t, f⟩) (fun h t f e => ⟨_, rfl, rfl, true, rfl, ⟨fun _ => ⟨d1.1, d1.2.1, d1.2.2.1, d1.2.2.2.1, d1.2.2.2.2, fun i k => e i k (by omega)⟩, fun _ => rfl⟩, t, f⟩)
  · have d1 := bz_e c6
    refine x_iconst (pc := 9) dX7_like_9 ?_
    refine x_zret (pc := 10) dX7_like_10 rfl (Or.inl rfl) ⟨_, rfl, rfl, false, rfl, ⟨fun h => absurd h (by decide), fun h => absurd ⟨h.1, h.2.1, h.2.2.1, h.2.2.2.1, h.2.2.2.2.1⟩ d1⟩, tx, Ft.rf⟩
