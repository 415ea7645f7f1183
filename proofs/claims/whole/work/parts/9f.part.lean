theorem tbc_all {N R : Nat} {st en : Nat → Nat} (hen : ∀ r, r < R → en r < N) {i0 i1 : Nat} (h01 : i0 ≤ i1) (hi1 : i1 < N) {K1 : Nat → Nat → Int} (ha : (∀ i, i < N → ∀ j, j < 10 → K1 (i + 1) j = if i + 1 ≤ j ∧ j ≤ N then (cov R st en i (j - 1) : Int) else 0)) (h0 : ∀ j, j < 10 → K1 0 j = 0) (hN : N ≤ 8) : K1 (i0 + 1) (i1 + 1) - K1 i0 (i1 + 1) - K1 (i0 + 1) (i1 + 2) + K1 i0 (i1 + 2) = (mul R st en i0 i1 : Nat) := by
  have hA : ∀ a', a' ≤ i1 → K1 (a' + 1) (i1 + 1) = cov R st en a' i1 ∧ K1 (a' + 1) (i1 + 2) = cov R st en a' (i1 + 1) := fun a' hle => by
    refine ⟨by rw [ha a' (by omega) _ (by omega), if_pos (by omega), show i1 + 1 - 1 = i1 by omega], ?_⟩
    rw [ha a' (by omega) _ (by omega)]
    by_cases e : i1 + 1 = N
    · rw [if_neg (by omega), e, cov_top hen]; rfl
    · rw [if_pos (by omega), show i1 + 2 - 1 = i1 + 1 by omega]
  obtain ⟨a1, a2⟩ := hA i0 h01
  cases i0 with
  | zero =>
    rw [a1, a2, h0 _ (by omega), h0 _ (by omega), mul_0]
    omega
  | succ a' =>
    obtain ⟨b1, b2⟩ := hA a' (by omega)
    rw [a1, a2, b1, b2, mul_s]
def Fq (hp h : HP) (bs : Nat) : Prop := ∀ x, (x < 36 ∨ (75 < x ∧ (x < bs ∨ bs + 2 < x))) → h x = hp x
theorem Fq.rf {hp : HP} {bs : Nat} : Fq hp hp bs := fun _ _ => rfl
theorem Fq.tr {h1 h2 h3 : HP} {bs : Nat} (a : Fq h1 h2 bs) (b : Fq h2 h3 bs) : Fq h1 h3 bs := fun x e => (b x e).trans (a x e)

theorem k_part1 {K : Type} [Lean.Grind.CommRing K] {f : Int → K} {G : GL} {d : Nat} {sz p N : Nat} (hf : Iot p f) (hz : 92 ≤ sz) (hP : isP p) {a w : Nat} (ha : 2 ≤ a ∧ a ≤ 26) (hw : w < 128) {s' n : Nat → Int} {s : Nat → Nat} (hs : cs8 s' s) (hn : inL n p) {R : Nat} {st en : Nat → Nat} {x : Nat → Nat → Nat → K} (hB : Bar N 4 s (Lw w) (TK f n (Lw w) s 0) R st en x) (hN : 1 ≤ N ∧ N ≤ 8) {bs : Nat} {v4 v5 v6 : AV} {Q : Option AV → HP → Nat → Prop} : ∀ q, q ≤ N → ∀ (hp : HP) (Kc : Nat → Nat → Int), Lay hp a s' n w → PaX hp p N Kc → (∀ i, i < q → ∀ j, j < 10 → Kc (i + 1) j = if i + 1 ≤ j ∧ j ≤ N then (cov R st en i (j - 1) : Int) else 0) → (∀ j, j < 10 → Kc 0 j = 0) → (∀ h K1, Lay h a s' n w → PaX h p N K1 → Fr hp h 36 75 → (∀ i, i < N → ∀ j, j < 10 → K1 (i + 1) j = if i + 1 ≤ j ∧ j ≤ N then (cov R st en i (j - 1) : Int) else 0) → (∀ j, j < 10 → K1 0 j = 0) → Ex G (d + 5) 0 0 mX2_part 28 [vr 36, vr a, vr bs, vi N, v4, v5, v6] [] h sz Q) → Ex G (d + 5) 0 0 mX2_part 2 [vr 36, vr a, vr bs, vi q, v4, v5, v6] [] hp sz Q := by
  refine down (fun hp Kc L PX hK h0 hq => ?_) (fun q hq9 ih hp Kc L PX hK h0 hq => ?_)
  · have hob := PX.ob
    have F1 : fld hp 36 2 1 (vi N) := by obtain ⟨bw, bn, bx, P, -⟩ := id PX; exact P.2.1
    refine x_iload_n (pc := 2) dX2_part_2 rfl ?_
    refine x_aload_n (pc := 3) dX2_part_3 rfl ?_
    refine x_gf (pc := 4) dX2_part_4 fX2_20 (by assumption) (by omega) ?_
    refine x_icmp_ge (pc := 7) (tgt := 28) dX2_part_7 (by decide) (by omega) (by omega) (fun c7 => ?_) (fun c7 => ?_)
    · exact hq hp Kc L PX Fr.rf hK h0
    · exact absurd c7 (by omega)
  · have hob := PX.ob
    have F1 : fld hp 36 2 1 (vi N) := by obtain ⟨bw, bn, bx, P, -⟩ := id PX; exact P.2.1
    refine x_iload_n (pc := 2) dX2_part_2 rfl ?_
    refine x_aload_n (pc := 3) dX2_part_3 rfl ?_
    refine x_gf (pc := 4) dX2_part_4 fX2_20 (by assumption) (by omega) ?_
    refine x_icmp_ge (pc := 7) (tgt := 28) dX2_part_7 (by decide) (by omega) (by omega) (fun c7 => ?_) (fun c7 => ?_)
    · exact absurd c7 (by omega)
    · refine x_aload_n (pc := 10) dX2_part_10 rfl ?_
      refine x_aload_n (pc := 11) dX2_part_11 rfl ?_
      refine x_iload_n (pc := 12) dX2_part_12 rfl ?_
      refine x_aload_n (pc := 13) dX2_part_13 rfl ?_
      refine x_gf (pc := 14) dX2_part_14 fX2_20 (by assumption) (by omega) ?_
      refine x_iconst (pc := 17) dX2_part_17 ?_
      refine x_isub (pc := 18) dX2_part_18 ?_
      rw [show (N : Int) - 1 = ((N - 1 : Nat) : Int) by omega]
      refine x_p3 (pc := 19) dX2_part_19 wX2_coverFrom iX2_coverFrom kX2_41 (by decide) rfl (Nat.le_of_ble_eq_true rfl) (by assumption) (by omega) (t_coverFrom (d := d) hf hz hP ha hw hs hn hB hN (i0 := q) (la := N - 1) (by omega) (by omega) L PX) (fun h19 e19 => ?_)
      obtain ⟨f19, K1, PX1, k1, k2⟩ := e19
      refine x_iinc (pc := 22) dX2_part_22 rfl (by decide) rfl ?_
      show Ex _ _ _ _ _ _ [_, _, _, _, _, _, _] _ _ _ _
      refine x_goto (pc := 25) (tgt := 2) dX2_part_25 (by decide) ?_
      exact ih _ K1 (L.keep (fun x h1 h2 => f19 x (by omega))) PX1 (fun i hi j hj => by
        by_cases e : i = q
        · subst e; rw [k2 j hj, show N - 1 + 1 = N by omega]
        · rw [k1 (i + 1) (by omega)]; exact hK i (by omega) j hj) (fun j hj => by rw [k1 0 (by omega)]; exact h0 j hj) (fun h K2 L2 p2 f2 => hq h K2 L2 p2 (f19.tr f2))

theorem k_part4 {G : GL} {d : Nat} {sz p N : Nat} (hz : 92 ≤ sz) (hN : 1 ≤ N ∧ N ≤ 8) {R : Nat} {st en : Nat → Nat} (hen : ∀ r, r < R → en r < N) {a bs : Nat} (hbs : 76 ≤ bs ∧ bs + 2 < 92) {Kc : Nat → Nat → Int} (hK : (∀ i, i < N → ∀ j, j < 10 → Kc (i + 1) j = if i + 1 ≤ j ∧ j ≤ N then (cov R st en i (j - 1) : Int) else 0)) (h0 : ∀ j, j < 10 → Kc 0 j = 0) {Q : Option AV → HP → Nat → Prop} {i0 i1 mm : Nat} (hmm : mm ≤ 32) : ∀ k, k ≤ mm → ∀ (hp : HP) (L : List (Nat × Nat)) (u v : Nat → Int), PaX hp p N Kc → SpA hp bs u v L.length → Lk L 0 u v → L.length + (mm - k) ≤ 32 → (∀ h u1 v1, PaX h p N Kc → SpA h bs u1 v1 (L ++ List.replicate (mm - k) (i0, i1)).length → Lk (L ++ List.replicate (mm - k) (i0, i1)) 0 u1 v1 → Fq hp h bs → Ex G (d + 5) 0 0 mX2_part 86 [vr 36, vr a, vr bs, vi i0, vi i1, vi mm, vi mm] [] h sz Q) → Ex G (d + 5) 0 0 mX2_part 66 [vr 36, vr a, vr bs, vi i0, vi i1, vi mm, vi k] [] hp sz Q := by
  refine down (fun hp L u v PX Sp Lk0 hlen hq => ?_) (fun k hk ih hp L u v PX Sp Lk0 hlen hq => ?_)
  · have hob := PX.ob
    have F1 : fld hp 36 2 1 (vi N) := by obtain ⟨bw, bn, bx, P, -⟩ := id PX; exact P.2.1
    have hobs := Sp.ob
    refine x_iload (pc := 66) dX2_part_66 rfl ?_
    refine x_iload (pc := 68) dX2_part_68 rfl ?_
    refine x_icmp_ge (pc := 70) (tgt := 86) dX2_part_70 (by decide) (by omega) (by omega) (fun c70 => ?_) (fun c70 => ?_)
    · exact hq hp u v PX (by rw [Nat.sub_self, List.replicate_zero, List.append_nil]; exact Sp) (by rw [Nat.sub_self, List.replicate_zero, List.append_nil]; exact Lk0) Fq.rf
    · exact absurd c70 (by omega)
  · have hob := PX.ob
    have F1 : fld hp 36 2 1 (vi N) := by obtain ⟨bw, bn, bx, P, -⟩ := id PX; exact P.2.1
    have hobs := Sp.ob
    refine x_iload (pc := 66) dX2_part_66 rfl ?_
    refine x_iload (pc := 68) dX2_part_68 rfl ?_
    refine x_icmp_ge (pc := 70) (tgt := 86) dX2_part_70 (by decide) (by omega) (by omega) (fun c70 => ?_) (fun c70 => ?_)
    · exact absurd c70 (by omega)
    · refine x_aload_n (pc := 73) dX2_part_73 rfl ?_
      refine x_iload_n (pc := 74) dX2_part_74 rfl ?_
      refine x_iload (pc := 75) dX2_part_75 rfl ?_
      refine x_p2 (pc := 77) dX2_part_77 wX4_add iX4_add kX2_54 (by decide) rfl (Nat.le_of_ble_eq_true rfl) hobs (by omega) (t_Sadd Sp (by omega) (by omega)) (fun h77 e77 => ?_)
      obtain ⟨f77, s77, -⟩ := e77
      have S1 := s77 (by omega)
      refine x_iinc (pc := 80) dX2_part_80 rfl (by decide) rfl ?_
      show Ex _ _ _ _ _ _ [_, _, _, _, _, _, _] _ _ _ _
      refine x_goto (pc := 83) (tgt := 66) dX2_part_83 (by decide) ?_
      have hL : L.length + 1 = (L ++ [(i0, i1)]).length := by rw [List.length_append, List.length_singleton]
      have e3 : L ++ [(i0, i1)] ++ List.replicate (mm - (k + 1)) (i0, i1) = L ++ List.replicate (mm - k) (i0, i1) := by
        rw [List.append_assoc, show mm - k = (mm - (k + 1)) + 1 by omega, List.replicate_succ]
        rfl
      have lk1 := Lk0.push i0 i1
      rw [Nat.zero_add] at lk1
      exact ih h77 (L ++ [(i0, i1)]) _ _ (PX.keep (fun x h1 h2 => f77 x (by omega))) (by rw [← hL]; exact S1) lk1 (by omega) (fun h u1 v1 p1 s1 e1 f1 => by
        rw [e3] at s1 e1
        exact hq h u1 v1 p1 s1 e1 (fun x hx => (f1 x hx).trans (f77 x (by omega))))

theorem k_part3 {G : GL} {d : Nat} {sz p N : Nat} (hz : 92 ≤ sz) (hN : 1 ≤ N ∧ N ≤ 8) {R : Nat} {st en : Nat → Nat} (hen : ∀ r, r < R → en r < N) {a bs : Nat} (hbs : 76 ≤ bs ∧ bs + 2 < 92) {Kc : Nat → Nat → Int} (hK : (∀ i, i < N → ∀ j, j < 10 → Kc (i + 1) j = if i + 1 ≤ j ∧ j ≤ N then (cov R st en i (j - 1) : Int) else 0)) (h0 : ∀ j, j < 10 → Kc 0 j = 0) {Q : Option AV → HP → Nat → Prop} {i0 : Nat} : ∀ i1, i1 ≤ N → i0 ≤ i1 → ∀ (hp : HP) (L : List (Nat × Nat)) (u v : Nat → Int) (v5 v6 : AV), PaX hp p N Kc → SpA hp bs u v L.length → Lk L 0 u v → (L ++ rB (mul R st en) N i0 (N - i1)).length ≤ 32 → (∀ h u1 v1 v5 v6, PaX h p N Kc → SpA h bs u1 v1 (L ++ rB (mul R st en) N i0 (N - i1)).length → Lk (L ++ rB (mul R st en) N i0 (N - i1)) 0 u1 v1 → Fq hp h bs → Ex G (d + 5) 0 0 mX2_part 92 [vr 36, vr a, vr bs, vi i0, vi N, v5, v6] [] h sz Q) → Ex G (d + 5) 0 0 mX2_part 45 [vr 36, vr a, vr bs, vi i0, vi i1, v5, v6] [] hp sz Q := by
  refine down (fun hi01 hp L u v v5 v6 PX Sp Lk0 hlen hq => ?_) (fun i1 hi1 ih hi01 hp L u v v5 v6 PX Sp Lk0 hlen hq => ?_)
  · have hob := PX.ob
    have F1 : fld hp 36 2 1 (vi N) := by obtain ⟨bw, bn, bx, P, -⟩ := id PX; exact P.2.1
    have hobs := Sp.ob
    refine x_iload (pc := 45) dX2_part_45 rfl ?_
    refine x_aload_n (pc := 47) dX2_part_47 rfl ?_
    refine x_gf (pc := 48) dX2_part_48 fX2_20 (by assumption) (by omega) ?_
    refine x_icmp_ge (pc := 51) (tgt := 92) dX2_part_51 (by decide) (by omega) (by omega) (fun c51 => ?_) (fun c51 => ?_)
    · exact hq hp u v _ _ PX (by rw [Nat.sub_self, show rB (mul R st en) N i0 0 = [] from rfl, List.append_nil]; exact Sp) (by rw [Nat.sub_self, show rB (mul R st en) N i0 0 = [] from rfl, List.append_nil]; exact Lk0) Fq.rf
    · exact absurd c51 (by omega)
  · have hob := PX.ob
    have F1 : fld hp 36 2 1 (vi N) := by obtain ⟨bw, bn, bx, P, -⟩ := id PX; exact P.2.1
    have hobs := Sp.ob
    obtain ⟨bw, bn, bx, P, CA, prest⟩ := id PX
    have F2 := P.2.2.1
    refine x_iload (pc := 45) dX2_part_45 rfl ?_
    refine x_aload_n (pc := 47) dX2_part_47 rfl ?_
    refine x_gf (pc := 48) dX2_part_48 fX2_20 (by assumption) (by omega) ?_
    refine x_icmp_ge (pc := 51) (tgt := 92) dX2_part_51 (by decide) (by omega) (by omega) (fun c51 => ?_) (fun c51 => ?_)
    · exact absurd c51 (by omega)
    · refine x_aload_n (pc := 54) dX2_part_54 rfl ?_
      refine x_iload_n (pc := 55) dX2_part_55 rfl ?_
      refine x_iload (pc := 56) dX2_part_56 rfl ?_
      refine x_w2 (pc := 58) dX2_part_58 wX2_timesByCovers iX2_timesByCovers kX2_50 (by decide) rfl (Nat.le_of_ble_eq_true rfl) (by assumption) (by omega) (t_tbc F2 CA (by omega) (by omega) (by omega)) ?_
      rw [tbc_all hen hi01 hi1 hK h0 hN.2]
      refine x_istore (pc := 61) dX2_part_61 (by decide) rfl ?_
      show Ex _ _ _ _ _ _ [_, _, _, _, _, _, _] _ _ _ _
      refine x_iconst (pc := 63) dX2_part_63 ?_
      refine x_istore (pc := 64) dX2_part_64 (by decide) rfl ?_
      show Ex _ _ _ _ _ _ [_, _, _, _, _, _, _] _ _ _ _
      rw [rB_s hi1, List.length_append, List.length_append, List.length_replicate] at hlen
      refine k_part4 (d := d) hz hN hen hbs hK h0 (i0 := i0) (i1 := i1) (mm := mul R st en i0 i1) (by omega) 0 (by omega) hp L u v PX Sp Lk0 (by omega) (fun h2 u2 v2 p2 s2 e2 f2 => ?_)
      rw [Nat.sub_zero] at s2 e2
      refine x_iinc (pc := 86) dX2_part_86 rfl (by decide) rfl ?_
      show Ex _ _ _ _ _ _ [_, _, _, _, _, _, _] _ _ _ _
      refine x_goto (pc := 89) (tgt := 45) dX2_part_89 (by decide) ?_
      have e5 : L ++ List.replicate (mul R st en i0 i1) (i0, i1) ++ rB (mul R st en) N i0 (N - (i1 + 1)) = L ++ rB (mul R st en) N i0 (N - i1) := by rw [List.append_assoc, ← rB_s hi1]
      exact ih (by omega) h2 (L ++ List.replicate (mul R st en i0 i1) (i0, i1)) u2 v2 _ _ p2 s2 e2 (by rw [List.length_append, List.length_append, List.length_replicate]; omega) (fun h3 u3 v3 w5 w6 p3 s3 e3 f3 => by
        rw [e5] at s3 e3
        exact hq h3 u3 v3 w5 w6 p3 s3 e3 (f2.tr f3))

theorem k_part2 {G : GL} {d : Nat} {sz p N : Nat} (hz : 92 ≤ sz) (hN : 1 ≤ N ∧ N ≤ 8) {R : Nat} {st en : Nat → Nat} (hen : ∀ r, r < R → en r < N) {a bs : Nat} (hbs : 76 ≤ bs ∧ bs + 2 < 92) {Kc : Nat → Nat → Int} (hK : (∀ i, i < N → ∀ j, j < 10 → Kc (i + 1) j = if i + 1 ≤ j ∧ j ≤ N then (cov R st en i (j - 1) : Int) else 0)) (h0 : ∀ j, j < 10 → Kc 0 j = 0) {Q : Option AV → HP → Nat → Prop} : ∀ i0, i0 ≤ N → ∀ (hp : HP) (L : List (Nat × Nat)) (u v : Nat → Int) (v4 v5 v6 : AV), PaX hp p N Kc → SpA hp bs u v L.length → Lk L 0 u v → (L ++ rA (mul R st en) N (N - i0)).length ≤ 32 → (∀ h u1 v1, PaX h p N Kc → SpA h bs u1 v1 (L ++ rA (mul R st en) N (N - i0)).length → Lk (L ++ rA (mul R st en) N (N - i0)) 0 u1 v1 → Fq hp h bs → Q none h sz) → Ex G (d + 5) 0 0 mX2_part 34 [vr 36, vr a, vr bs, vi i0, v4, v5, v6] [] hp sz Q := by
  refine down (fun hp L u v v4 v5 v6 PX Sp Lk0 hlen hq => ?_) (fun i0 hi0 ih hp L u v v4 v5 v6 PX Sp Lk0 hlen hq => ?_)
  · have hob := PX.ob
    have F1 : fld hp 36 2 1 (vi N) := by obtain ⟨bw, bn, bx, P, -⟩ := id PX; exact P.2.1
    have hobs := Sp.ob
    refine x_iload_n (pc := 34) dX2_part_34 rfl ?_
    refine x_aload_n (pc := 35) dX2_part_35 rfl ?_
    refine x_gf (pc := 36) dX2_part_36 fX2_20 (by assumption) (by omega) ?_
    refine x_icmp_ge (pc := 39) (tgt := 98) dX2_part_39 (by decide) (by omega) (by omega) (fun c39 => ?_) (fun c39 => ?_)
    · refine x_vret (pc := 98) dX2_part_98 rfl (hq hp u v PX (by rw [Nat.sub_self, show rA (mul R st en) N 0 = [] from rfl, List.append_nil]; exact Sp) (by rw [Nat.sub_self, show rA (mul R st en) N 0 = [] from rfl, List.append_nil]; exact Lk0) Fq.rf)
    · exact absurd c39 (by omega)
  · have hob := PX.ob
    have F1 : fld hp 36 2 1 (vi N) := by obtain ⟨bw, bn, bx, P, -⟩ := id PX; exact P.2.1
    have hobs := Sp.ob
    refine x_iload_n (pc := 34) dX2_part_34 rfl ?_
    refine x_aload_n (pc := 35) dX2_part_35 rfl ?_
    refine x_gf (pc := 36) dX2_part_36 fX2_20 (by assumption) (by omega) ?_
    refine x_icmp_ge (pc := 39) (tgt := 98) dX2_part_39 (by decide) (by omega) (by omega) (fun c39 => ?_) (fun c39 => ?_)
    · exact absurd c39 (by omega)
    · refine x_iload_n (pc := 42) dX2_part_42 rfl ?_
      refine x_istore (pc := 43) dX2_part_43 (by decide) rfl ?_
      show Ex _ _ _ _ _ _ [_, _, _, _, _, _, _] _ _ _ _
      rw [rA_s hi0, ← List.append_assoc, List.length_append] at hlen
      refine k_part3 (d := d) hz hN hen hbs hK h0 (i0 := i0) i0 (by omega) (Nat.le_refl _) hp L u v _ _ PX Sp Lk0 (by omega) (fun h2 u2 v2 w5 w6 p2 s2 e2 f2 => ?_)
      refine x_iinc (pc := 92) dX2_part_92 rfl (by decide) rfl ?_
      show Ex _ _ _ _ _ _ [_, _, _, _, _, _, _] _ _ _ _
      refine x_goto (pc := 95) (tgt := 34) dX2_part_95 (by decide) ?_
      have e5 : L ++ rB (mul R st en) N i0 (N - i0) ++ rA (mul R st en) N (N - (i0 + 1)) = L ++ rA (mul R st en) N (N - i0) := by rw [List.append_assoc, ← rA_s hi0]
      exact ih h2 (L ++ rB (mul R st en) N i0 (N - i0)) u2 v2 _ _ _ p2 s2 e2 (by rw [List.length_append]; omega) (fun h3 u3 v3 p3 s3 e3 f3 => by
        rw [e5] at s3 e3
        exact hq h3 u3 v3 p3 s3 e3 (f2.tr f3))

set_option maxRecDepth 4000 in
theorem t_part {K : Type} [Lean.Grind.CommRing K] {f : Int → K} {G : GL} {d : Nat} {sz p N : Nat} (hf : Iot p f) (hz : 92 ≤ sz) (hP : isP p) {a w : Nat} (ha : 2 ≤ a ∧ a ≤ 26) (hw : w < 128) {s' n : Nat → Int} {s : Nat → Nat} (hs : cs8 s' s) (hn : inL n p) {R : Nat} {st en : Nat → Nat} {x : Nat → Nat → Nat → K} (hB : Bar N 4 s (Lw w) (TK f n (Lw w) s 0) R st en x) (hN : 1 ≤ N ∧ N ≤ 8) {bs : Nat} (hbs : 76 ≤ bs ∧ bs + 2 < 92) {hp : HP} (L : Lay hp a s' n w) {Kc : Nat → Nat → Int} (PX : PaX hp p N Kc) (h0 : ∀ j, j < 10 → Kc 0 j = 0) {u v : Nat → Int} {cc : Nat} (Sp : SpA hp bs u v cc) (hlen : (rA (mul R st en) N N).length ≤ 32) : Ct G (d + 5) 0 0 mX2_part [vr 36, vr a, vr bs] hp sz (Vd (fun h => Fq hp h bs ∧ (∃ K1, PaX h p N K1 ∧ ∀ j, j < 10 → K1 0 j = 0) ∧ ∃ u1 v1, SpA h bs u1 v1 (rA (mul R st en) N N).length ∧ Lk (rA (mul R st en) N N) 0 u1 v1) sz) := by
  show Ex _ _ _ _ _ _ [vr 36, vr a, vr bs, vu, vu, vu, vu] _ _ _ _
  refine x_iconst (pc := 0) dX2_part_0 ?_
  refine x_istore_n (pc := 1) dX2_part_1 (by decide) rfl ?_
  show Ex _ _ _ _ _ _ [_, _, _, _, _, _, _] _ _ _ _
  refine k_part1 (d := d) hf hz hP ha hw hs hn hB hN 0 (by omega) hp Kc L PX (fun i hi => absurd hi (Nat.not_lt_zero _)) h0 (fun h1 K1 L1 p1 f1 hK1 h01 => ?_)
  have Sp1 := Sp.keep (hp' := h1) (fun x h1 h2 => f1 x (by omega))
  have hobs := Sp1.ob
  refine x_aload_n (pc := 28) dX2_part_28 rfl ?_
  refine x_p0 (pc := 29) dX2_part_29 wX4_clear iX4_clear kX2_45 (by decide) rfl (Nat.le_of_ble_eq_true rfl) hobs (by omega) (t_Sclear Sp1 (by omega)) (fun h29 e29 => ?_)
  obtain ⟨f29, S2⟩ := e29
  refine x_iconst (pc := 32) dX2_part_32 ?_
  refine x_istore_n (pc := 33) dX2_part_33 (by decide) rfl ?_
  show Ex _ _ _ _ _ _ [_, _, _, _, _, _, _] _ _ _ _
  refine k_part2 (d := d) hz hN (fun r hr => (hB.1 r hr).2) hbs hK1 h01 0 (by omega) h29 [] u v _ _ _ (p1.keep (fun x h1 h2 => f29 x (by omega))) S2 (fun i hi => absurd hi (Nat.not_lt_zero _)) (by rw [Nat.sub_zero, List.nil_append]; exact hlen) (fun h3 u3 v3 p3 s3 e3 f3 => ?_)
  rw [Nat.sub_zero, List.nil_append] at s3 e3
  exact ⟨rfl, rfl, fun x hx => (f3 x hx).trans ((f29 x (by omega)).trans (f1 x (by omega))), ⟨K1, p3, h01⟩, u3, v3, s3, e3⟩
