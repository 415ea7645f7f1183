section XI
variable {G : GL} {d rc rs : Nat} {M : MD} {pc : Nat} {ls st : List AV} {hp : HP} {sz : Nat} {Q : Option AV → HP → Nat → Prop}
theorem x_il {a n j : Nat} {f : Nat → Int} {i : Int} (hd : decode M.2.1 pc = .ok (.iaload, 1)) (hc : hp a = ar 0 n f) (ha : a < sz) (hj : i = (j : Int)) (h1 : j < n) (k : Ex G d rc rs M (pc + 1) ls (vi (f j) :: st) hp sz Q) : Ex G d rc rs M pc ls (vi i :: vr a :: st) hp sz Q := by
  subst hj
  refine x_iald hd hc ha (by omega) (by omega) ?_
  rw [Int.toNat_natCast]
  exact k
theorem x_ll {a n j : Nat} {f : Nat → Int} {i : Int} (hd : decode M.2.1 pc = .ok (.laload, 1)) (hc : hp a = ar 1 n f) (ha : a < sz) (hj : i = (j : Int)) (h1 : j < n) (k : Ex G d rc rs M (pc + 1) ls (vl (f j) :: st) hp sz Q) : Ex G d rc rs M pc ls (vi i :: vr a :: st) hp sz Q := by
  subst hj
  refine x_lald hd hc ha (by omega) (by omega) ?_
  rw [Int.toNat_natCast]
  exact k
theorem x_bl {a n j : Nat} {f : Nat → Int} {i : Int} (hd : decode M.2.1 pc = .ok (.baload, 1)) (hc : hp a = ar 2 n f) (ha : a < sz) (hj : i = (j : Int)) (h1 : j < n) (k : Ex G d rc rs M (pc + 1) ls (vi (f j) :: st) hp sz Q) : Ex G d rc rs M pc ls (vi i :: vr a :: st) hp sz Q := by
  subst hj
  refine x_bald hd hc ha (by omega) (by omega) ?_
  rw [Int.toNat_natCast]
  exact k
theorem x_zl {a n j : Nat} {f : Nat → Int} {i : Int} (hd : decode M.2.1 pc = .ok (.baload, 1)) (hc : hp a = ar 3 n f) (ha : a < sz) (hj : i = (j : Int)) (h1 : j < n) (k : Ex G d rc rs M (pc + 1) ls (vi (f j) :: st) hp sz Q) : Ex G d rc rs M pc ls (vi i :: vr a :: st) hp sz Q := by
  subst hj
  refine x_zald hd hc ha (by omega) (by omega) ?_
  rw [Int.toNat_natCast]
  exact k
theorem x_al {a kk n b j : Nat} {f : Nat → Option Nat} {i : Int} (hd : decode M.2.1 pc = .ok (.aaload, 1)) (hc : hp a = rr kk n f) (ha : a < sz) (hj : i = (j : Int)) (h1 : j < n) (hb : f j = some b) (k : Ex G d rc rs M (pc + 1) ls (vr b :: st) hp sz Q) : Ex G d rc rs M pc ls (vi i :: vr a :: st) hp sz Q := by
  subst hj
  exact x_aald hd hc ha (by omega) (by omega) (by rw [Int.toNat_natCast]; exact hb) k
theorem x_is {a n j : Nat} {f : Nat → Int} {i x : Int} (hd : decode M.2.1 pc = .ok (.iastore, 1)) (hc : hp a = ar 0 n f) (ha : a < sz) (hj : i = (j : Int)) (h1 : j < n) (k : Ex G d rc rs M (pc + 1) ls st (up hp a (ar 0 n (up f j x))) sz Q) : Ex G d rc rs M pc ls (vi x :: vi i :: vr a :: st) hp sz Q := by
  subst hj
  refine x_iast hd hc ha (by omega) (by omega) ?_
  rw [Int.toNat_natCast]
  exact k
theorem x_ls {a n j : Nat} {f : Nat → Int} {i x : Int} (hd : decode M.2.1 pc = .ok (.lastore, 1)) (hc : hp a = ar 1 n f) (ha : a < sz) (hj : i = (j : Int)) (h1 : j < n) (k : Ex G d rc rs M (pc + 1) ls st (up hp a (ar 1 n (up f j x))) sz Q) : Ex G d rc rs M pc ls (vl x :: vi i :: vr a :: st) hp sz Q := by
  subst hj
  refine x_last hd hc ha (by omega) (by omega) ?_
  rw [Int.toNat_natCast]
  exact k
theorem x_bs {a n j : Nat} {f : Nat → Int} {i x : Int} (hd : decode M.2.1 pc = .ok (.bastore, 1)) (hc : hp a = ar 2 n f) (ha : a < sz) (hj : i = (j : Int)) (h1 : j < n) (hx : -128 ≤ x ∧ x < 128) (k : Ex G d rc rs M (pc + 1) ls st (up hp a (ar 2 n (up f j x))) sz Q) : Ex G d rc rs M pc ls (vi x :: vi i :: vr a :: st) hp sz Q := by
  subst hj
  refine x_bast hd hc ha (by omega) (by omega) hx ?_
  rw [Int.toNat_natCast]
  exact k
theorem x_zs {a n j : Nat} {f : Nat → Int} {i x : Int} (hd : decode M.2.1 pc = .ok (.bastore, 1)) (hc : hp a = ar 3 n f) (ha : a < sz) (hj : i = (j : Int)) (h1 : j < n) (hx : x = 0 ∨ x = 1) (k : Ex G d rc rs M (pc + 1) ls st (up hp a (ar 3 n (up f j x))) sz Q) : Ex G d rc rs M pc ls (vi x :: vi i :: vr a :: st) hp sz Q := by
  subst hj
  refine x_zast hd hc ha (by omega) (by omega) hx ?_
  rw [Int.toNat_natCast]
  exact k
theorem x_as {a kk n b j : Nat} {f : Nat → Option Nat} {i : Int} (hd : decode M.2.1 pc = .ok (.aastore, 1)) (hc : hp a = rr kk n f) (ha : a < sz) (hj : i = (j : Int)) (h1 : j < n) (hb : b < sz) (hk : asg kk (hp b)) (k : Ex G d rc rs M (pc + 1) ls st (up hp a (rr kk n (up f j (some b)))) sz Q) : Ex G d rc rs M pc ls (vr b :: vi i :: vr a :: st) hp sz Q := by
  subst hj
  refine x_aast hd hc ha (by omega) (by omega) hb hk ?_
  rw [Int.toNat_natCast]
  exact k
end XI
/-! small numbers of the program -/
def bz (b : Bool) : Int := if b then 1 else 0
theorem bz_t : bz true = 1 := rfl
theorem bz_f : bz false = 0 := rfl
theorem bz_01 (b : Bool) : bz b = 0 ∨ bz b = 1 := by cases b <;> simp [bz]
theorem lb_eq (w k : Nat) : ((w : Int) / 2 ^ ((k : Int)).toNat) % 2 ^ 1 = bz (w.testBit k) := by
  rw [Int.toNat_natCast, Nat.testBit_eq_decide_div_mod_eq]
  have h : ((w : Int) / 2 ^ k) % 2 ^ 1 = ((w / 2 ^ k % 2 : Nat) : Int) := by
    simp
  rw [h]
  unfold bz
  have := Nat.mod_two_eq_zero_or_one (w / 2 ^ k)
  rcases this with h | h <;> simp [h]
/-- Laying at a: sizes at a + 1, numbers at a + 2 -/
def Lay (hp : HP) (a : Nat) (s n : Nat → Int) (w : Nat) : Prop := fld hp a 0 0 (vr (a + 1)) ∧ fld hp a 0 1 (vr (a + 2)) ∧ fld hp a 0 2 (vi w) ∧ hp (a + 1) = ar 0 8 s ∧ hp (a + 2) = ar 0 112 n
theorem Lay.ob {hp : HP} {a : Nat} {s n : Nat → Int} {w : Nat} (h : Lay hp a s n w) : isob hp a 0 := h.1.ob
theorem Lay.keep {hp hp' : HP} {a : Nat} {s n : Nat → Int} {w : Nat} (h : Lay hp a s n w) (e : ∀ b, a ≤ b → b ≤ a + 2 → hp' b = hp b) : Lay hp' a s n w := by
  obtain ⟨h1, h2, h3, h4, h5⟩ := h
  exact ⟨h1.keep (e _ (by omega) (by omega)), h2.keep (e _ (by omega) (by omega)), h3.keep (e _ (by omega) (by omega)), (e _ (by omega) (by omega)).trans h4, (e _ (by omega) (by omega)).trans h5⟩
