/-! beside and mix -/
theorem tal {N : Nat} {Lf : Nat → Bool} {k : Nat} : ta Lf k ≤ k + 1 ∧ so Lf k ≤ k + 1 := by
  unfold ta so
  constructor <;> split <;> omega
theorem beside_rel {p N : Nat} (hN : 1 ≤ N ∧ N ≤ 8) {S T : Nat → Nat → Int} {Sm Tm S1 T1 : Nat → Int} {W : Nat → Nat} (hR : RelL S T Sm Tm) (hS : inSm Sm) (hT : inTm Tm p) (hZ : ZC N S T W) {a b z : Nat} (ha : a < 8) (hb : b < 8) (hfit : ∀ j, j < N → S a j + S b j ≤ 4) {s3 n3 : Nat → Int}
    (a1 : ∀ j, j < 8 → s3 j = if j < N then S a j + S b j else 0) (a2 : ∀ i, i < 112 → n3 i = besT N (Lw (W a)) (szc S a) (szc S b) (T a) (T b) i)
    (b1 : ∀ j, j < 8 → S1 (8 * z + j) = if j < N then Sm (8 * a + j) + Sm (8 * b + j) else Sm (8 * a + j)) (b2 : ∀ i, (i < 8 * z ∨ 8 * z + 8 ≤ i) → S1 i = Sm i)
    (b3 : ∀ i, i < 128 → T1 (128 * z + i) = bE (Lw (W a)) (szs Sm a) (szs Sm b) Tm (fun i => Tm (128 * a + i)) b (N - 1) 0 0 i) (b4 : ∀ i, (i < 128 * z ∨ 128 * z + 128 ≤ i) → T1 i = Tm i) :
    RelL (up S z s3) (up T z n3) S1 T1 ∧ inSm S1 ∧ inTm T1 p ∧ ZC N (up S z s3) (up T z n3) (up W z (W a)) := by
  have iS := hR.inS hS
  have zero : ∀ x, x < 112 → ¬ (x / 16 + 1 < N ∧ x % 16 / 4 < szc S a (ta (Lw (W a)) (x / 16)) ∧ x % 4 < szc S a (so (Lw (W a)) (x / 16))) → T a x = 0 := fun x hx hno => (hZ a ha).2 x hx (fun q => hno (by
    have t := tal (N := N) (Lf := Lw (W a)) (k := x / 16)
    unfold szc
    rw [if_pos (by omega), if_pos (by omega)]
    omega))
  refine ⟨hR.up (fun j hj => ?_) b2 (fun y hy => ?_) b4, fun y hy => ?_, fun y hy => ?_, hZ.up ⟨fun j h1 h2 => ?_, fun y hy hno => ?_⟩⟩
  · rw [a1 j hj, b1 j hj]
    by_cases e : j < N
    · rw [if_pos e, if_pos e, hR.1 a j ha hj, hR.1 b j hb hj]
    · rw [if_neg e, if_neg e, ← hR.1 a j ha hj]; exact ((hZ a ha).1 j (by omega) hj).symm
  · rw [a2 y hy, b3 y (by omega), ← hR.sz ha, ← hR.sz hb]
    have t := tal (N := N) (Lf := Lw (W a)) (k := y / 16)
    have zy := zero y hy
    have ra := hR.2 a y ha hy
    unfold besT bE
    by_cases e : y / 16 + 1 < N
    · rw [if_pos e]
      by_cases e1 : y % 16 / 4 < szc S a (ta (Lw (W a)) (y / 16)) ∧ y % 4 < szc S a (so (Lw (W a)) (y / 16))
      · rw [if_pos e1, if_neg (fun q => by have := q.1.1; omega)]
        exact ra
      · rw [if_neg e1]
        by_cases e2 : szc S a (ta (Lw (W a)) (y / 16)) ≤ y % 16 / 4 ∧ y % 16 / 4 < szc S a (ta (Lw (W a)) (y / 16)) + szc S b (ta (Lw (W a)) (y / 16)) ∧ szc S a (so (Lw (W a)) (y / 16)) ≤ y % 4 ∧ y % 4 < szc S a (so (Lw (W a)) (y / 16)) + szc S b (so (Lw (W a)) (y / 16))
        · rw [if_pos e2, if_pos ⟨e2, Or.inl (by omega)⟩, hR.2 b _ hb (by omega)]
          congr 1
          omega
        · rw [if_neg e2, if_neg (fun q => e2 q.1)]
          rw [← zy (fun q => e1 q.2)]
          exact ra
    · rw [if_neg e, if_neg (fun q => by
        obtain ⟨⟨q1, q2, q3, q4⟩, q5⟩ := q
        omega), ← zy (fun q => e q.1)]
      exact ra
  · by_cases q : 8 * z ≤ y ∧ y < 8 * z + 8
    · have e : y = 8 * z + (y - 8 * z) := by omega
      rw [e, b1 _ (by omega)]
      have k1 := hS (8 * a + (y - 8 * z)) (by omega)
      have k2 := hS (8 * b + (y - 8 * z)) (by omega)
      by_cases l : y - 8 * z < N
      · have k3 := hfit _ l
        rw [hR.1 a _ ha (by omega), hR.1 b _ hb (by omega)] at k3
        rw [if_pos l]; omega
      · rw [if_neg l]; exact k1
    · rw [b2 y (by omega)]; exact hS y hy
  · by_cases q : 128 * z ≤ y ∧ y < 128 * z + 128
    · have e : y = 128 * z + (y - 128 * z) := by omega
      rw [e, b3 _ (by omega)]
      unfold bE
      split
      · exact hT _ (by omega)
      · exact hT _ (by omega)
    · rw [b4 y (by omega)]; exact hT y hy
  · rw [a1 j h2, if_neg (by omega)]
  · rw [a2 y hy]
    have t := tal (N := N) (Lf := Lw (W a)) (k := y / 16)
    unfold besT
    by_cases e : y / 16 + 1 < N
    · rw [if_pos e]
      have u1 := iS a (ta (Lw (W a)) (y / 16)) ha (by omega)
      have u2 := iS b (ta (Lw (W a)) (y / 16)) hb (by omega)
      have u3 := iS a (so (Lw (W a)) (y / 16)) ha (by omega)
      have u4 := iS b (so (Lw (W a)) (y / 16)) hb (by omega)
      have v1 := a1 (ta (Lw (W a)) (y / 16)) (by omega)
      have v2 := a1 (so (Lw (W a)) (y / 16)) (by omega)
      rw [if_pos (by omega)] at v1 v2
      rw [v1, v2] at hno
      have w1 : szc S a (ta (Lw (W a)) (y / 16)) = (S a (ta (Lw (W a)) (y / 16))).toNat := if_pos (by omega)
      have w2 : szc S b (ta (Lw (W a)) (y / 16)) = (S b (ta (Lw (W a)) (y / 16))).toNat := if_pos (by omega)
      have w3 : szc S a (so (Lw (W a)) (y / 16)) = (S a (so (Lw (W a)) (y / 16))).toNat := if_pos (by omega)
      have w4 : szc S b (so (Lw (W a)) (y / 16)) = (S b (so (Lw (W a)) (y / 16))).toNat := if_pos (by omega)
      rw [w1, w2, w3, w4]
      rw [if_neg (fun q => hno ⟨e, by omega, by omega⟩), if_neg (fun q => hno ⟨e, by omega, by omega⟩)]
    · rw [if_neg e]
theorem mix_one {p N l w : Nat} (hN : N ≤ 8) {s n n' Tm T' : Nat → Int} {sz : Nat → Nat} (hsz : ∀ k, k < 8 → sz k = (s k).toNat) (hs : ∀ k, k < 8 → 0 ≤ s k ∧ s k ≤ 4) {k post i j : Nat} {c : Int} (hk : k + 1 = post ∨ k = post) (hpost : post < N) (hi : (i : Int) < s post) (hj : (j : Int) < s post)
    (hr : ∀ x, x < 112 → n x = Tm (128 * l + x)) (hZ : ZL N s n w) (h1 : mixStep p N w s k post i j c n n') (h2 : mixSm p N l w sz k post i j c Tm T') :
    (∀ x, x < 112 → n' x = T' (128 * l + x)) ∧ (∀ y, (y < 128 * l ∨ 128 * l + 128 ≤ y) → T' y = Tm y) ∧ ZL N s n' w := by
  have bp := hs post (by omega)
  unfold mixStep at h1
  unfold mixSm at h2
  by_cases e : k + 1 < N
  · rw [if_pos (by omega)] at h1
    rw [if_pos e] at h2
    have et : (if w.testBit k = true then k else k + 1) = ta (Lw w) k := rfl
    have es : (if w.testBit k = true then k + 1 else k) = so (Lw w) k := rfl
    rw [et, es] at h1
    have tt := tal (N := N) (Lf := Lw w) (k := k)
    have bt := hs (ta (Lw w) k) (by omega)
    have bs := hs (so (Lw w) k) (by omega)
    by_cases e2 : ta (Lw w) k = post
    · rw [if_pos e2] at h1 h2
      rw [hsz _ (by omega)] at h2
      obtain ⟨r1, r2⟩ := h1
      obtain ⟨m1, m2⟩ := h2
      refine ⟨fun x hx => ?_, fun y hy => m2 y (fun q hq z => by omega), hZ.1, fun x hx hno => ?_⟩
      · by_cases z : ∃ q, q < (s (so (Lw w) k)).toNat ∧ x = k * 16 + i * 4 + q
        · obtain ⟨q, hq, rfl⟩ := z
          rw [r1 q hq, show 128 * l + (k * 16 + i * 4 + q) = l * 128 + k * 16 + i * 4 + q by omega, m1 q hq, hr _ hx, hr _ (by omega), show 128 * l + (k * 16 + i * 4 + q) = l * 128 + k * 16 + i * 4 + q by omega, show 128 * l + (k * 16 + j * 4 + q) = l * 128 + k * 16 + j * 4 + q by omega]
        · rw [r2 x (fun q hq e => z ⟨q, hq, e⟩), m2 _ (fun q hq e => z ⟨q, hq, by omega⟩)]
          exact hr x hx
      · by_cases z : ∃ q, q < (s (so (Lw w) k)).toNat ∧ x = k * 16 + i * 4 + q
        · obtain ⟨q, hq, rfl⟩ := z
          refine absurd ?_ hno
          rw [show (k * 16 + i * 4 + q) / 16 = k by omega, show (k * 16 + i * 4 + q) % 16 / 4 = i by omega, show (k * 16 + i * 4 + q) % 4 = q by omega, e2]
          exact ⟨e, hi, by omega⟩
        · rw [r2 x (fun q hq e => z ⟨q, hq, e⟩)]
          exact hZ.2 x hx hno
    · rw [if_neg e2] at h1 h2
      rw [hsz _ (by omega)] at h2
      have eso : so (Lw w) k = post := by
        unfold ta at e2
        unfold so
        split at e2
        · rename_i q; rw [if_pos q]; omega
        · rename_i q; rw [if_neg q]; omega
      obtain ⟨r1, r2⟩ := h1
      obtain ⟨m1, m2⟩ := h2
      refine ⟨fun x hx => ?_, fun y hy => m2 y (fun q hq z => by omega), hZ.1, fun x hx hno => ?_⟩
      · by_cases z : ∃ q, q < (s (ta (Lw w) k)).toNat ∧ x = k * 16 + q * 4 + j
        · obtain ⟨q, hq, rfl⟩ := z
          rw [r1 q hq, show 128 * l + (k * 16 + q * 4 + j) = l * 128 + k * 16 + q * 4 + j by omega, m1 q hq, hr _ hx, hr _ (by omega), show 128 * l + (k * 16 + q * 4 + j) = l * 128 + k * 16 + q * 4 + j by omega, show 128 * l + (k * 16 + q * 4 + i) = l * 128 + k * 16 + q * 4 + i by omega]
          rw [show Tm (l * 128 + k * 16 + q * 4 + j) + ((p : Int) - c) * Tm (l * 128 + k * 16 + q * 4 + i) = (Tm (l * 128 + k * 16 + q * 4 + j) - c * Tm (l * 128 + k * 16 + q * 4 + i)) + p * Tm (l * 128 + k * 16 + q * 4 + i) from by grind, Int.add_mul_emod_self_left]
        · rw [r2 x (fun q hq e => z ⟨q, hq, e⟩), m2 _ (fun q hq e => z ⟨q, hq, by omega⟩)]
          exact hr x hx
      · by_cases z : ∃ q, q < (s (ta (Lw w) k)).toNat ∧ x = k * 16 + q * 4 + j
        · obtain ⟨q, hq, rfl⟩ := z
          refine absurd ?_ hno
          rw [show (k * 16 + q * 4 + j) / 16 = k by omega, show (k * 16 + q * 4 + j) % 16 / 4 = q by omega, show (k * 16 + q * 4 + j) % 4 = j by omega, eso]
          exact ⟨e, by omega, hj⟩
        · rw [r2 x (fun q hq e => z ⟨q, hq, e⟩)]
          exact hZ.2 x hx hno
  · rw [if_neg (by omega)] at h1
    rw [if_neg e] at h2
    subst h1
    subst h2
    exact ⟨hr, fun _ _ => rfl, hZ⟩
theorem mix_rel {p N : Nat} (hP : isP p) (hN : 1 ≤ N ∧ N ≤ 8) {S T : Nat → Nat → Int} {Sm Tm T1 T2 : Nat → Int} {W : Nat → Nat} (hR : RelL S T Sm Tm) (hS : inSm Sm) (hT : inTm Tm p) (hZ : ZC N S T W) {l y u v : Nat} {c : Int} (hl : l < 8) (hy : y < N) (hu : (u : Int) < S l y) (hv : (v : Int) < S l y) {n1 n2 : Nat → Int}
    (a1 : if 0 < y then mixStep p N (W l) (S l) (y - 1) y u v c (T l) n1 else n1 = T l) (a2 : mixStep p N (W l) (S l) y y u v c n1 n2)
    (b1 : if 0 < y then mixSm p N l (W l) (szs Sm l) (y - 1) y u v c Tm T1 else T1 = Tm) (b2 : mixSm p N l (W l) (szs Sm l) y y u v c T1 T2) :
    RelL S (up T l n2) Sm T2 ∧ inTm T2 p ∧ ZC N S (up T l n2) W := by
  have hp := hP.le
  have hsz : ∀ k, k < 8 → szs Sm l k = (S l k).toNat := fun k hk => by
    rw [← hR.sz hl]; exact if_pos hk
  have hs : ∀ k, k < 8 → 0 ≤ S l k ∧ S l k ≤ 4 := fun k hk => (hR.inS hS) l k hl hk
  have one : (∀ x, x < 112 → n1 x = T1 (128 * l + x)) ∧ (∀ y, (y < 128 * l ∨ 128 * l + 128 ≤ y) → T1 y = Tm y) ∧ ZL N (S l) n1 (W l) ∧ inTm T1 p := by
    by_cases z : 0 < y
    · rw [if_pos z] at a1 b1
      have := mix_one hN.2 hsz hs (by omega) hy hu hv (fun x hx => hR.2 l x hl hx) (hZ l hl) a1 b1
      exact ⟨this.1, this.2.1, this.2.2, b1.inT hT (by omega)⟩
    · rw [if_neg z] at a1 b1
      subst a1
      subst b1
      exact ⟨fun x hx => hR.2 l x hl hx, fun _ _ => rfl, hZ l hl, hT⟩
  have two := mix_one hN.2 hsz hs (by omega) hy hu hv one.1 one.2.2.1 a2 b2
  refine ⟨⟨hR.1, fun l2 x hl2 hx => ?_⟩, b2.inT one.2.2.2 (by omega), fun l2 hl2 => ?_⟩
  · by_cases e : l2 = l
    · subst e; rw [up_s]; exact two.1 x hx
    · rw [up_n _ _ e, two.2.1 _ (by omega), one.2.1 _ (by omega)]; exact hR.2 l2 x hl2 hx
  · by_cases e : l2 = l
    · subst e; rw [up_s]; exact two.2.2
    · rw [up_n _ _ e]; exact hZ l2 hl2
