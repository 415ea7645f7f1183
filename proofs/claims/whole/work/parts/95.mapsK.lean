theorem rM2_K {K : Type} [Lean.Grind.CommRing K] {p : Nat} {f : Int → K} (hf : Iot p f) {sA sB : Nat → Nat} {T : Nat → Int} {Lf : Nat → Bool} {la lb k i j : Nat} : ∀ X c, f (rM2 sA sB T Lf p la lb k i j X c) = f (rM1 sA sB T Lf la k i j (sA (ta Lf k)) c) - su X (fun x => f (T (lb * 128 + k * 16 + i * 4 + x)) * e1 (frm sA sB (so Lf k) + (x * sA (so Lf k) + j)) c)
  | 0, c => by rw [su_0]; show f (rM1 sA sB T Lf la k i j (sA (ta Lf k)) c) = _; grind
  | X + 1, c => by
    rw [su_s]
    have ih := rM2_K hf (sA := sA) (sB := sB) (T := T) (Lf := Lf) (la := la) (lb := lb) (k := k) (i := i) (j := j) X c
    show f (up (rM2 sA sB T Lf p la lb k i j X) (frm sA sB (so Lf k) + (X * sA (so Lf k) + j)) ((rM2 sA sB T Lf p la lb k i j X (frm sA sB (so Lf k) + (X * sA (so Lf k) + j)) - T (lb * 128 + k * 16 + i * 4 + X)) % p) c) = _
    by_cases e : c = frm sA sB (so Lf k) + (X * sA (so Lf k) + j)
    · have h1 : (e1 (frm sA sB (so Lf k) + (X * sA (so Lf k) + j)) : Nat → K) c = 1 := if_pos e
      rw [h1, ← e, up_s, hf.mod, hf.sub, ih]
      grind
    · rw [up_n _ _ e, ih]
      have : (e1 (frm sA sB (so Lf k) + (X * sA (so Lf k) + j)) : Nat → K) c = 0 := if_neg e
      rw [this]; grind
theorem su_e1v {K : Type} [Lean.Grind.CommRing K] {w c0 : Nat} (h : c0 < w) (v : Nat → K) : su w (fun c => e1 c0 c * v c) = v c0 := by
  rw [su_one h _ (fun c _ hne => by unfold e1; rw [if_neg hne]; grind)]
  unfold e1
  rw [if_pos rfl]; grind
theorem rowM_dot {K : Type} [Lean.Grind.CommRing K] {p : Nat} {f : Int → K} (hf : Iot p f) {sA sB : Nat → Nat} {T : Nat → Int} {Lf : Nat → Bool} {la lb k i j N : Nat} (hk : k + 1 < N) (hi : i < sB (ta Lf k)) (hj : j < sA (so Lf k)) (v : Nat → K) : su (frm sA sB N) (fun c => f (rM2 sA sB T Lf p la lb k i j (sB (so Lf k)) c) * v c) = su (sA (ta Lf k)) (fun z => f (T (la * 128 + k * 16 + z * 4 + j)) * v (frm sA sB (ta Lf k) + (i * sA (ta Lf k) + z))) - su (sB (so Lf k)) (fun x => f (T (lb * 128 + k * 16 + i * 4 + x)) * v (frm sA sB (so Lf k) + (x * sA (so Lf k) + j))) := by
  have hst := so_ta (Lf := Lf) (k := k)
  have hso8 := frm_mono (sA := sA) (sB := sB) (so Lf k) N (by omega)
  have hta8 := frm_mono (sA := sA) (sB := sB) (ta Lf k) N (by omega)
  have hpt : i * sA (ta Lf k) + sA (ta Lf k) ≤ sB (ta Lf k) * sA (ta Lf k) := by
    have := Nat.mul_le_mul_right (sA (ta Lf k)) hi
    rw [Nat.succ_mul] at this
    omega
  rw [su_cg (frm sA sB N) (g := fun c => (if frm sA sB (ta Lf k) + i * sA (ta Lf k) ≤ c ∧ c < frm sA sB (ta Lf k) + i * sA (ta Lf k) + sA (ta Lf k) then f (T (la * 128 + k * 16 + (c - (frm sA sB (ta Lf k) + i * sA (ta Lf k))) * 4 + j)) * v c else 0) - su (sB (so Lf k)) (fun x => f (T (lb * 128 + k * 16 + i * 4 + x)) * (e1 (frm sA sB (so Lf k) + (x * sA (so Lf k) + j)) c * v c))) (fun c hc => by
    rw [rM2_K hf, show su (sB (so Lf k)) (fun x => f (T (lb * 128 + k * 16 + i * 4 + x)) * (e1 (frm sA sB (so Lf k) + (x * sA (so Lf k) + j)) c * v c)) = su (sB (so Lf k)) (fun x => f (T (lb * 128 + k * 16 + i * 4 + x)) * e1 (frm sA sB (so Lf k) + (x * sA (so Lf k) + j)) c) * v c from by
      rw [← su_mulr]
      exact su_cg _ (fun x _ => by grind)]
    unfold rM1
    by_cases e : frm sA sB (ta Lf k) + i * sA (ta Lf k) ≤ c ∧ c < frm sA sB (ta Lf k) + i * sA (ta Lf k) + sA (ta Lf k)
    · rw [if_pos e, if_pos e]; grind
    · rw [if_neg e, if_neg e, hf.zero]; grind), su_sub, su_win (by omega), su_swap]
  congr 1
  · refine su_cg _ (fun z _ => ?_)
    rw [show frm sA sB (ta Lf k) + i * sA (ta Lf k) + z - (frm sA sB (ta Lf k) + i * sA (ta Lf k)) = z by omega, Nat.add_assoc (frm sA sB (ta Lf k))]
  · refine su_cg _ (fun x hx => ?_)
    have hps : x * sA (so Lf k) + sA (so Lf k) ≤ sB (so Lf k) * sA (so Lf k) := by
      have := Nat.mul_le_mul_right (sA (so Lf k)) hx
      rw [Nat.succ_mul] at this
      omega
    rw [su_mul, su_e1v (by omega)]
theorem maps_K {K : Type} [Lean.Grind.CommRing K] {p : Nat} {f : Int → K} (hf : Iot p f) (hP : isP p) {sA sB : Nat → Nat} {T : Nat → Int} {Lf : Nat → Bool} {la lb N : Nat} (hsA : ∀ k, sA k ≤ 4) (hsB : ∀ k, sB k ≤ 4) {RA RB : Nat} {stA enA stB enB : Nat → Nat} {x y : Nat → Nat → Nat → K} (hA : Bar N 4 sA Lf (TK f T Lf sA la) RA stA enA x) (hB : Bar N 4 sB Lf (TK f T Lf sB lb) RB stB enB y)
    {m : Nat} {M : Nat → Nat → Int} (hR : RwB m (frm sA sB N) M (dnM N sA sB Lf (N - 1) 0 0) (rowM sA sB T Lf p la lb))
    {k1 : Nat} {M1 : Nat → Nat → Int} {ld : Nat → Int} (hK : RK (frm sA sB N) k1 (fun i => tr (frm sA sB N) f (M1 i)) (fun r => (ld r).toNat)) (hSp : ∀ v, Spn k1 (fun _ => True) (fun i => tr (frm sA sB N) f (M1 i)) v ↔ Spn m (fun _ => True) (fun i => tr (frm sA sB N) f (M i)) v) : frm sA sB N - k1 = cnt (RA * RB) (fun t => vdm Lf (stA (t / RB)) (enA (t / RB)) (stB (t % RB)) (enB (t % RB))) := by
  refine Bar.hom (hf.inv hP) (hf.ne hP.le.1) hA hB hsA hsB (fr := frm sA sB) rfl (fun k _ => rfl) hK (fun v hv => ?_)
  have hdot : ∀ k i j, k + 1 < N → i < sB (ta Lf k) → j < sA (so Lf k) → su (frm sA sB N) (fun c => f (rM2 sA sB T Lf p la lb k i j (sB (so Lf k)) c) * v c) = su (sA (ta Lf k)) (fun z => TK f T Lf sA la k z j * v (frm sA sB (ta Lf k) + (i * sA (ta Lf k) + z))) - su (sB (so Lf k)) (fun z => TK f T Lf sB lb k i z * v (frm sA sB (so Lf k) + (z * sA (so Lf k) + j))) := fun k i j hk hi hj => by
    rw [rowM_dot hf hk hi hj]
    congr 1
    · exact su_cg _ (fun z hz => by unfold TK; rw [if_pos ⟨hz, hj⟩])
    · exact su_cg _ (fun z hz => by unfold TK; rw [if_pos ⟨hi, hz⟩])
  have hmid : (∀ r, r < k1 → su (frm sA sB N) (fun c => tr (frm sA sB N) f (M1 r) c * v c) = 0) ↔ ∀ j, j < m → su (frm sA sB N) (fun c => tr (frm sA sB N) f (M j) c * v c) = 0 :=
    ⟨fun h => sol_le (fun j hj => (hSp _).mpr (Spn.one hj trivial)) h, fun h => sol_le (fun j hj => (hSp _).mp (Spn.one hj trivial)) h⟩
  rw [hmid]
  constructor
  · intro h k i j hk hi hj
    have h4 := hsA (so Lf k)
    have hq1 : (i * 4 + j) / 4 = i := by omega
    have hq2 : (i * 4 + j) % 4 = j := by omega
    obtain ⟨r, r1, r2⟩ := hR.2 k (i * 4 + j) ⟨hk, by rw [hq1]; exact hi, by rw [hq2]; exact hj, Or.inl (by omega)⟩
    have := h r r1
    rw [su_cg _ (g := fun c => f (rM2 sA sB T Lf p la lb k i j (sB (so Lf k)) c) * v c) (fun c hc => by
      rw [tr_lt hc, r2 c hc]
      unfold rowM
      rw [hq1, hq2]), hdot k i j hk hi hj] at this
    grind
  · intro h r hr
    obtain ⟨k, q, ⟨q1, q2, q3, q4⟩, j2⟩ := hR.1 r hr
    rw [su_cg _ (g := fun c => f (rM2 sA sB T Lf p la lb k (q / 4) (q % 4) (sB (so Lf k)) c) * v c) (fun c hc => by
      rw [tr_lt hc, j2 c hc]
      rfl), hdot k _ _ q1 q2 q3, h k _ _ q1 q2 q3]
    grind
