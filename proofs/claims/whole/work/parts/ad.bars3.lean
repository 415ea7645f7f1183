/-! one set of bars for both sides -/
theorem Bar.cgT {K : Type} [Lean.Grind.CommRing K] {n D : Nat} {s : Nat → Nat} {Lf : Nat → Bool} {T T' : Nat → Nat → Nat → K} {R : Nat} {st en : Nat → Nat} {x : Nat → Nat → Nat → K} (h : Bar n D s Lf T R st en x) (e : ∀ k, k + 1 < n → T' k = T k) : Bar n D s Lf T' R st en x := by
  obtain ⟨h1, h2, h3, h4, h5, h6, h7⟩ := h
  refine ⟨h1, h2, h3, h4, h5, fun k hk hl r hr hs i => ?_, fun k hk hl r hr hs i => ?_⟩
  · unfold Fk; rw [e k hk]; exact h6 k hk hl r hr hs i
  · unfold Fk; rw [e k hk]; exact h7 k hk hl r hr hs i
theorem Bar.cgs {K : Type} [Lean.Grind.CommRing K] {n D : Nat} {s s' : Nat → Nat} {Lf : Nat → Bool} {T : Nat → Nat → Nat → K} {R : Nat} {st en : Nat → Nat} {x : Nat → Nat → Nat → K} (h : Bar n D s Lf T R st en x) (e : s = s') : Bar n D s' Lf T R st en x := by
  subst e; exact h
theorem TK_rel {K : Type} [Lean.Grind.CommRing K] {f : Int → K} {S T : Nat → Nat → Int} {Sm Tm : Nat → Int} {W : Nat → Nat} (hR : RelL S T Sm Tm) (hS : inSm Sm) {l : Nat} (hl : l < 8) {k : Nat} (hk : k < 7) : TK f Tm (Lw (W l)) (szs Sm l) l k = TK f (T l) (Lw (W l)) (szc S l) 0 k := by
  funext i j
  unfold TK
  rw [hR.sz hl]
  have a := szs_4 hS hl (ta (Lw (W l)) k)
  have b := szs_4 hS hl (so (Lw (W l)) k)
  by_cases e : i < szs Sm l (ta (Lw (W l)) k) ∧ j < szs Sm l (so (Lw (W l)) k)
  · rw [if_pos e, if_pos e, show 0 * 128 + k * 16 + i * 4 + j = k * 16 + i * 4 + j by omega, hR.2 l _ hl (by omega), show 128 * l + (k * 16 + i * 4 + j) = l * 128 + k * 16 + i * 4 + j by omega]
  · rw [if_neg e, if_neg e]
theorem bars_both {K : Type} [Lean.Grind.CommRing K] {p : Nat} {f : Int → K} (hf : Iot p f) (hP : isP p) {N : Nat} (hN : 1 ≤ N ∧ N ≤ 8) {S T : Nat → Nat → Int} {Sm Tm : Nat → Int} (W : Nat → Nat) (hR : RelL S T Sm Tm) (hS : inSm Sm) : ∃ (Rb : Nat → Nat) (st en : Nat → Nat → Nat) (xb : Nat → Nat → Nat → Nat → K), (∀ l, l < 8 → Bar N 4 (szc S l) (Lw (W l)) (TK f (T l) (Lw (W l)) (szc S l) 0) (Rb l) (st l) (en l) (xb l)) ∧ ∀ l, l < 8 → Bar N 4 (szs Sm l) (Lw (W l)) (TK f Tm (Lw (W l)) (szs Sm l) l) (Rb l) (st l) (en l) (xb l) := by
  have hex : ∀ l, ∃ q : Nat × (Nat → Nat) × (Nat → Nat) × (Nat → Nat → Nat → K), Bar N 4 (szc S l) (Lw (W l)) (TK f (T l) (Lw (W l)) (szc S l) 0) q.1 q.2.1 q.2.2.1 q.2.2.2 := fun l => by
    obtain ⟨R, st, en, x, L, h, -⟩ := Bar.all (hf.inv hP) (D := 4) (s := szc S l) (Lf := Lw (W l)) (T := TK f (T l) (Lw (W l)) (szc S l) 0) TK_out (N - 1)
    rw [show N - 1 + 1 = N by omega] at h
    exact ⟨(R, st, en, x), h⟩
  refine ⟨fun l => (Classical.choose (hex l)).1, fun l => (Classical.choose (hex l)).2.1, fun l => (Classical.choose (hex l)).2.2.1, fun l => (Classical.choose (hex l)).2.2.2, fun l _ => Classical.choose_spec (hex l), fun l hl => ?_⟩
  have h := Classical.choose_spec (hex l)
  have h2 := h.cgT (T' := TK f Tm (Lw (W l)) (szs Sm l) l) (fun k hk => TK_rel hR hS hl (by omega))
  exact h2.cgs (hR.sz hl)
theorem RelL.inS {S T : Nat → Nat → Int} {Sm Tm : Nat → Int} (hR : RelL S T Sm Tm) (hS : inSm Sm) : inS S := fun l j hl hj => by
  rw [hR.1 l j hl hj]; exact hS _ (by omega)
theorem RelL.inL {S T : Nat → Nat → Int} {Sm Tm : Nat → Int} {p : Nat} (hR : RelL S T Sm Tm) (hT : inTm Tm p) : ∀ l, l < 8 → inL (T l) p := fun l hl j hj => by
  rw [hR.2 l j hl hj]; exact hT _ (by omega)
