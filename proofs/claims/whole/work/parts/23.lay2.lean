/-! loops, frames -/
theorem down {P : Nat → Prop} {n : Nat} (hn : P n) (hs : ∀ i, i < n → P (i + 1) → P i) : ∀ i, i ≤ n → P i := by
  intro i hi
  obtain ⟨k, rfl⟩ := Nat.exists_eq_add_of_le hi
  clear hi
  induction k generalizing i with
  | zero => exact hn
  | succ k ih => exact hs i (by omega) (ih (i + 1) (by rw [show i + 1 + k = i + (k + 1) by omega]; exact hn) (fun j hj => hs j (by omega)))
theorem up_up {α : Type} (f : Nat → α) (a : Nat) (x y : α) : up (up f a x) a y = up f a y := by
  funext b
  by_cases h : b = a <;> simp [up, h]
def Fr (hp hp' : HP) (lo hi : Nat) : Prop := ∀ x, (x < lo ∨ hi < x) → hp' x = hp x
theorem Fr.rf {hp : HP} {lo hi : Nat} : Fr hp hp lo hi := fun _ _ => rfl
theorem Fr.tr {h1 h2 h3 : HP} {lo hi : Nat} (a : Fr h1 h2 lo hi) (b : Fr h2 h3 lo hi) : Fr h1 h3 lo hi := fun x hx => (b x hx).trans (a x hx)
theorem Fr.up {hp hp' : HP} {lo hi a : Nat} {c : AC} (h : Fr hp hp' lo hi) (h1 : lo ≤ a) (h2 : a ≤ hi) : Fr hp (up hp' a c) lo hi := fun x hx => (up_n _ _ (by omega)).trans (h x hx)
theorem Fr.pf {hp h1 h2 : HP} {lo hi a c j : Nat} {v : AV} (h : Fr hp h1 lo hi) (e : pf h1 a c j v h2) (g1 : lo ≤ a) (g2 : a ≤ hi) : Fr hp h2 lo hi := fun x hx => (e.1 x (by omega)).trans (h x hx)
theorem Fr.wide {hp hp' : HP} {lo hi lo' hi' : Nat} (h : Fr hp hp' lo hi) (a : lo' ≤ lo) (b : hi ≤ hi') : Fr hp hp' lo' hi' := fun x hx => h x (by omega)

theorem l_fill {G : GL} {d : Nat} {sz a n : Nat} {v : Int} {Q : Option AV → HP → Nat → Prop} (ha : a < sz) (hn : n < 100000) : ∀ i, i ≤ n → ∀ (hp : HP) (f : Nat → Int), hp a = ar 0 n f → Q none (up hp a (ar 0 n (fun j => if i ≤ j ∧ j < n then v else f j))) sz → Ex G d 0 0 mJ7_fill_53178 5 [vr a, vi v, vi i, vi n] [] hp sz Q := by
  refine down (fun hp f hf hq => ?_) (fun i hi ih hp f hf hq => ?_)
  · refine x_iload_n (pc := 5) dJ7_fill_53178_5 rfl ?_
    refine x_iload_n (pc := 6) dJ7_fill_53178_6 rfl ?_
    refine x_icmp_ge (pc := 7) (tgt := 20) dJ7_fill_53178_7 (by decide) (by omega) (by omega) (fun c7 => ?_) (fun c7 => ?_)
    · refine x_vret (pc := 20) dJ7_fill_53178_20 rfl (by
        refine (congrArg (fun g => Q none g sz) ?_).mp hq
        funext b
        by_cases h : b = a
        · subst h
          rw [up_s, hf]
          refine congrArg _ (funext fun j => ?_)
          simp [show ¬ (n ≤ j ∧ j < n) by omega]
        · rw [up_n _ _ h])
    · exact absurd c7 (by omega)
  · refine x_iload_n (pc := 5) dJ7_fill_53178_5 rfl ?_
    refine x_iload_n (pc := 6) dJ7_fill_53178_6 rfl ?_
    refine x_icmp_ge (pc := 7) (tgt := 20) dJ7_fill_53178_7 (by decide) (by omega) (by omega) (fun c7 => ?_) (fun c7 => ?_)
    · exact absurd c7 (by omega)
    · refine x_aload_n (pc := 10) dJ7_fill_53178_10 rfl ?_
      refine x_iload_n (pc := 11) dJ7_fill_53178_11 rfl ?_
      refine x_iload_n (pc := 12) dJ7_fill_53178_12 rfl ?_
      refine x_is (pc := 13) dJ7_fill_53178_13 (by assumption) (by omega) rfl (by omega) ?_
      refine x_iinc (pc := 14) dJ7_fill_53178_14 rfl (by decide) rfl ?_
      show Ex _ _ _ _ _ _ [_, _, _, _] _ _ _ _
      refine x_goto (pc := 17) (tgt := 5) dJ7_fill_53178_17 (by decide) ?_
      exact ih (up hp a (ar 0 n (up f i v))) (up f i v) (up_s _ _ _) (by
        rw [up_up]
        refine (congrArg (fun g => Q none (up hp a (ar 0 n g)) sz) (funext fun j => ?_)).mp hq
        by_cases h1 : j = i
        · subst h1; simp [up, hi]
        · by_cases h2 : i + 1 ≤ j
          · simp [up, h1, h2, show i ≤ j by omega]
          · simp [up, h1, h2, show ¬ i ≤ j by omega])
theorem t_fill {G : GL} {d : Nat} {hp : HP} {sz a n : Nat} {f : Nat → Int} {v : Int} (hf : hp a = ar 0 n f) (ha : a < sz) (hn : n < 100000) : Ct G d 0 0 mJ7_fill_53178 [vr a, vi v] hp sz (Vd (fun h => h = up hp a (ar 0 n (fun j => if j < n then v else f j))) sz) := by
  show Ex _ _ _ _ _ _ [vr a, vi v, vu, vu] _ _ _ _
  refine x_iconst (pc := 0) dJ7_fill_53178_0 ?_
  refine x_istore_n (pc := 1) dJ7_fill_53178_1 (by decide) rfl ?_
  show Ex _ _ _ _ _ _ [_, _, _, _] _ _ _ _
  refine x_aload_n (pc := 2) dJ7_fill_53178_2 rfl ?_
  refine x_alen (pc := 3) dJ7_fill_53178_3 (by assumption) (by omega) ?_
  refine x_istore_n (pc := 4) dJ7_fill_53178_4 (by decide) rfl ?_
  show Ex _ _ _ _ _ _ [_, _, _, _] _ _ _ _
  exact l_fill ha hn 0 (by omega) hp f hf ⟨rfl, rfl, by simp⟩
