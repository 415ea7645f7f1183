/-! turn keeps the two sides together -/
def RelL (S T : Nat → Nat → Int) (Sm Tm : Nat → Int) : Prop := (∀ l j, l < 8 → j < 8 → S l j = Sm (8 * l + j)) ∧ ∀ l x, l < 8 → x < 112 → T l x = Tm (128 * l + x)
theorem RelL.sz {S T : Nat → Nat → Int} {Sm Tm : Nat → Int} (h : RelL S T Sm Tm) {l : Nat} (hl : l < 8) : szc S l = szs Sm l := by
  funext k
  unfold szc szs
  by_cases e : k < 8
  · rw [if_pos e, if_pos e, h.1 l k hl e]
  · rw [if_neg e, if_neg e]
theorem RelL.up {S T : Nat → Nat → Int} {Sm Tm S1 T1 : Nat → Int} (h : RelL S T Sm Tm) {z : Nat} {s n : Nat → Int} (h1 : ∀ j, j < 8 → s j = S1 (8 * z + j)) (h2 : ∀ i, (i < 8 * z ∨ 8 * z + 8 ≤ i) → S1 i = Sm i) (h3 : ∀ x, x < 112 → n x = T1 (128 * z + x)) (h4 : ∀ i, (i < 128 * z ∨ 128 * z + 128 ≤ i) → T1 i = Tm i) : RelL (up S z s) (up T z n) S1 T1 := by
  constructor
  · intro l j hl hj
    by_cases e : l = z
    · rw [e, up_s]; exact h1 j hj
    · rw [up_n _ _ e, h2 _ (by omega)]; exact h.1 l j hl hj
  · intro l x hl hx
    by_cases e : l = z
    · rw [e, up_s]; exact h3 x hx
    · rw [up_n _ _ e, h4 _ (by omega)]; exact h.2 l x hl hx
theorem pos_sur {b : Bool} {k x : Nat} (h : x / 16 = k) : ∃ pl ix, pl < 4 ∧ ix < 4 ∧ pos b k pl ix = x := by
  cases b
  · exact ⟨x % 4, x % 16 / 4, by omega, by omega, by show k * 16 + (x % 16 / 4) * 4 + x % 4 = x; omega⟩
  · exact ⟨x % 16 / 4, x % 4, by omega, by omega, by show k * 16 + (x % 16 / 4) * 4 + x % 4 = x; omega⟩
