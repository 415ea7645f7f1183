/-! beside, in the model -/
abbrev dB (Lf : Nat → Bool) (sA sB : Nat → Nat) (k i j x : Nat) : Prop := (sA (ta Lf (x / 16)) ≤ x % 16 / 4 ∧ x % 16 / 4 < sA (ta Lf (x / 16)) + sB (ta Lf (x / 16)) ∧ sA (so Lf (x / 16)) ≤ x % 4 ∧ x % 4 < sA (so Lf (x / 16)) + sB (so Lf (x / 16))) ∧ (x / 16 < k ∨ (x / 16 = k ∧ (x % 16 / 4 < sA (ta Lf (x / 16)) + i ∨ (x % 16 / 4 = sA (ta Lf (x / 16)) + i ∧ x % 4 < sA (so Lf (x / 16)) + j))))
def bE (Lf : Nat → Bool) (sA sB : Nat → Nat) (T E0 : Nat → Int) (b k i j : Nat) : Nat → Int := fun x => if dB Lf sA sB k i j x then T (b * 128 + x / 16 * 16 + (x % 16 / 4 - sA (ta Lf (x / 16))) * 4 + (x % 4 - sA (so Lf (x / 16)))) else E0 x
theorem bE_cg {Lf : Nat → Bool} {sA sB : Nat → Nat} {T E0 : Nat → Int} {b k i j k' i' j' : Nat} (h : ∀ x, dB Lf sA sB k i j x ↔ dB Lf sA sB k' i' j' x) : bE Lf sA sB T E0 b k i j = bE Lf sA sB T E0 b k' i' j' := by
  funext x
  unfold bE
  by_cases e : dB Lf sA sB k i j x
  · rw [if_pos e, if_pos ((h x).mp e)]
  · rw [if_neg e, if_neg (fun q => e ((h x).mpr q))]
theorem bE_j {Lf : Nat → Bool} {sA sB : Nat → Nat} {T E0 : Nat → Int} {b k i j : Nat} (hi : i < sB (ta Lf k)) (hj : j < sB (so Lf k)) (h1 : sA (ta Lf k) + sB (ta Lf k) ≤ 4) (h2 : sA (so Lf k) + sB (so Lf k) ≤ 4) : up (bE Lf sA sB T E0 b k i j) (0 * 128 + k * 16 + (sA (ta Lf k) + i) * 4 + (sA (so Lf k) + j)) (T (b * 128 + k * 16 + i * 4 + j)) = bE Lf sA sB T E0 b k i (j + 1) := by
  funext x
  by_cases e : x = 0 * 128 + k * 16 + (sA (ta Lf k) + i) * 4 + (sA (so Lf k) + j)
  · rw [e, up_s]
    unfold bE
    have q1 : (0 * 128 + k * 16 + (sA (ta Lf k) + i) * 4 + (sA (so Lf k) + j)) / 16 = k := by omega
    have q2 : (0 * 128 + k * 16 + (sA (ta Lf k) + i) * 4 + (sA (so Lf k) + j)) % 16 / 4 = sA (ta Lf k) + i := by omega
    have q3 : (0 * 128 + k * 16 + (sA (ta Lf k) + i) * 4 + (sA (so Lf k) + j)) % 4 = sA (so Lf k) + j := by omega
    have hd : dB Lf sA sB k i (j + 1) (0 * 128 + k * 16 + (sA (ta Lf k) + i) * 4 + (sA (so Lf k) + j)) := by
      unfold dB
      rw [q1, q2, q3]
      exact ⟨⟨by omega, by omega, by omega, by omega⟩, Or.inr ⟨rfl, Or.inr ⟨rfl, by omega⟩⟩⟩
    rw [if_pos hd, q1, q2, q3]
    congr 1
    omega
  · rw [up_n _ _ e]
    unfold bE
    by_cases q : dB Lf sA sB k i j x
    · rw [if_pos q, if_pos]
      refine ⟨q.1, ?_⟩
      rcases q.2 with z | ⟨z1, z2 | z2⟩
      · exact Or.inl z
      · exact Or.inr ⟨z1, Or.inl z2⟩
      · exact Or.inr ⟨z1, Or.inr ⟨z2.1, by omega⟩⟩
    · rw [if_neg q, if_neg]
      intro z
      refine q ⟨z.1, ?_⟩
      rcases z.2 with z | ⟨z1, z2 | z2⟩
      · exact Or.inl z
      · exact Or.inr ⟨z1, Or.inl z2⟩
      · refine Or.inr ⟨z1, Or.inr ⟨z2.1, ?_⟩⟩
        rw [z1] at z2 ⊢
        omega
theorem bE_i {Lf : Nat → Bool} {sA sB : Nat → Nat} {T E0 : Nat → Int} {b k i : Nat} : bE Lf sA sB T E0 b k i (sB (so Lf k)) = bE Lf sA sB T E0 b k (i + 1) 0 := bE_cg (fun x => by
  constructor
  · rintro ⟨q1, q2 | ⟨q2, q3⟩⟩
    · exact ⟨q1, Or.inl q2⟩
    · exact ⟨q1, Or.inr ⟨q2, by omega⟩⟩
  · rintro ⟨q1, q2 | ⟨q2, q3⟩⟩
    · exact ⟨q1, Or.inl q2⟩
    · refine ⟨q1, Or.inr ⟨q2, ?_⟩⟩
      rw [q2] at q1 q3 ⊢
      omega)
theorem bE_k {Lf : Nat → Bool} {sA sB : Nat → Nat} {T E0 : Nat → Int} {b k : Nat} : bE Lf sA sB T E0 b k (sB (ta Lf k)) 0 = bE Lf sA sB T E0 b (k + 1) 0 0 := bE_cg (fun x => by
  constructor
  · rintro ⟨q1, q2 | ⟨q2, q3⟩⟩
    · exact ⟨q1, Or.inl (by omega)⟩
    · exact ⟨q1, Or.inl (by omega)⟩
  · rintro ⟨q1, q2 | ⟨q2, q3⟩⟩
    · by_cases e : x / 16 = k
      · refine ⟨q1, Or.inr ⟨e, ?_⟩⟩
        rw [e] at q1 ⊢
        omega
      · exact ⟨q1, Or.inl (by omega)⟩
    · omega)
theorem bE_0 {Lf : Nat → Bool} {sA sB : Nat → Nat} {T E0 : Nat → Int} {b : Nat} : bE Lf sA sB T E0 b 0 0 0 = E0 := by
  funext x
  unfold bE
  refine if_neg (fun q => ?_)
  rcases q.2 with z | ⟨z1, z2 | z2⟩
  · omega
  · have := q.1; omega
  · have := q.1; omega

theorem k_mb5 {G : GL} {d : Nat} {hp : HP} {sz p N : Nat} (C0 : ModA hp p N) (hz : 615 ≤ sz) (hN : 1 ≤ N ∧ N ≤ 8) {W : Nat → Nat} {S T : Nat → Int} (D0 : MdS hp W S T) {a b t : Nat} (ha : a < 8) (hb : b < 8) {sA sB : Nat → Nat} (hsA : sz8 S a sA) (hsB : sz8 S b sB) (hfit : ∀ j, j < N → sA j + sB j ≤ 4) {E0 : Nat → Int} {Q : Option AV → HP → Nat → Prop} {k i : Nat} (hk : k + 1 < N) (hi : i < sB (ta (Lw (W a)) k)) (hq : Ex G (d + 2) 0 0 mX7_beside 231 [vr 92, vi a, vi b, vi t, vi k, vi ((so (Lw (W a)) k) : Nat), vi ((ta (Lw (W a)) k) : Nat), vi i, vi (sB (so (Lw (W a)) k) : Nat)] [] (up hp 97 (ar 0 128 (bE (Lw (W a)) sA sB T E0 b k (i + 1) 0))) sz Q) : ∀ j, j ≤ sB (so (Lw (W a)) k) → Ex G (d + 2) 0 0 mX7_beside 167 [vr 92, vi a, vi b, vi t, vi k, vi ((so (Lw (W a)) k) : Nat), vi ((ta (Lw (W a)) k) : Nat), vi i, vi j] [] (up hp 97 (ar 0 128 (bE (Lw (W a)) sA sB T E0 b k i j))) sz Q := by
  have hst := so_ta (Lf := (Lw (W a))) (k := k)
  have hft := hfit (ta (Lw (W a)) k) (by omega)
  have hfs := hfit (so (Lw (W a)) k) (by omega)
  refine down ?_ (fun j hj ih => ?_)
  · have C := C0.keep (hp' := (up hp 97 (ar 0 128 (bE (Lw (W a)) sA sB T E0 b k i (sB (so (Lw (W a)) k)))))) (up_n _ _ (by omega))
    have D := D0.keep (hp' := (up hp 97 (ar 0 128 (bE (Lw (W a)) sA sB T E0 b k i (sB (so (Lw (W a)) k)))))) (fun x h1 h2 => up_n _ _ (by omega))
    have hE := up_s hp 97 (ar 0 128 (bE (Lw (W a)) sA sB T E0 b k i (sB (so (Lw (W a)) k))))
    obtain ⟨CX0, C1, C2, C3, C4, C5, C6, C7, C8, C11, C12, C13, C14, C15, C16, C17, C18, C19, C20, C21, C22, C23⟩ := id C
    have hob := CX0.ob
    obtain ⟨D1, D2, D3, D4⟩ := id D
    refine x_iload (pc := 167) dX7_beside_167 rfl ?_
    refine x_aload_n (pc := 169) dX7_beside_169 rfl ?_
    refine x_iload_n (pc := 170) dX7_beside_170 rfl ?_
    refine x_iload (pc := 171) dX7_beside_171 rfl ?_
    refine x_w2 (pc := 173) dX7_beside_173 wX7_at iX7_at kX7_118 (by decide) rfl (Nat.le_of_ble_eq_true rfl) (by assumption) (by omega) (m_at C hz hN D hb (by omega)) ?_
    rw [(hsB _ (by omega)).1]
    refine x_icmp_ge (pc := 176) (tgt := 231) dX7_beside_176 (by decide) (by omega) (by omega) (fun c176 => ?_) (fun c176 => ?_)
    · rw [bE_i]
      exact hq
    · exact absurd c176 (by omega)
  · have C := C0.keep (hp' := (up hp 97 (ar 0 128 (bE (Lw (W a)) sA sB T E0 b k i j)))) (up_n _ _ (by omega))
    have D := D0.keep (hp' := (up hp 97 (ar 0 128 (bE (Lw (W a)) sA sB T E0 b k i j)))) (fun x h1 h2 => up_n _ _ (by omega))
    have hE := up_s hp 97 (ar 0 128 (bE (Lw (W a)) sA sB T E0 b k i j))
    obtain ⟨CX0, C1, C2, C3, C4, C5, C6, C7, C8, C11, C12, C13, C14, C15, C16, C17, C18, C19, C20, C21, C22, C23⟩ := id C
    have hob := CX0.ob
    obtain ⟨D1, D2, D3, D4⟩ := id D
    refine x_iload (pc := 167) dX7_beside_167 rfl ?_
    refine x_aload_n (pc := 169) dX7_beside_169 rfl ?_
    refine x_iload_n (pc := 170) dX7_beside_170 rfl ?_
    refine x_iload (pc := 171) dX7_beside_171 rfl ?_
    refine x_w2 (pc := 173) dX7_beside_173 wX7_at iX7_at kX7_118 (by decide) rfl (Nat.le_of_ble_eq_true rfl) (by assumption) (by omega) (m_at C hz hN D hb (by omega)) ?_
    rw [(hsB _ (by omega)).1]
    refine x_icmp_ge (pc := 176) (tgt := 231) dX7_beside_176 (by decide) (by omega) (by omega) (fun c176 => ?_) (fun c176 => ?_)
    · exact absurd c176 (by omega)
    · refine x_aload_n (pc := 179) dX7_beside_179 rfl ?_
      refine x_gf (pc := 180) dX7_beside_180 fX7_22 (by assumption) (by omega) ?_
      refine x_iconst (pc := 183) dX7_beside_183 ?_
      refine x_iload (pc := 184) dX7_beside_184 rfl ?_
      refine x_aload_n (pc := 186) dX7_beside_186 rfl ?_
      refine x_iload_n (pc := 187) dX7_beside_187 rfl ?_
      refine x_iload (pc := 188) dX7_beside_188 rfl ?_
      refine x_w2 (pc := 190) dX7_beside_190 wX7_at iX7_at kX7_118 (by decide) rfl (Nat.le_of_ble_eq_true rfl) (by assumption) (by omega) (m_at C hz hN D ha (by omega)) ?_
      rw [(hsA _ (by omega)).1]
      refine x_iload (pc := 193) dX7_beside_193 rfl ?_
      refine x_iadd (pc := 195) dX7_beside_195 ?_
      refine x_aload_n (pc := 196) dX7_beside_196 rfl ?_
      refine x_iload_n (pc := 197) dX7_beside_197 rfl ?_
      refine x_iload (pc := 198) dX7_beside_198 rfl ?_
      refine x_w2 (pc := 200) dX7_beside_200 wX7_at iX7_at kX7_118 (by decide) rfl (Nat.le_of_ble_eq_true rfl) (by assumption) (by omega) (m_at C hz hN D ha (by omega)) ?_
      rw [(hsA _ (by omega)).1]
      refine x_iload (pc := 203) dX7_beside_203 rfl ?_
      refine x_iadd (pc := 205) dX7_beside_205 ?_
      rw [show (0 : Int) = ((0 : Nat) : Int) from rfl, show ((sA (ta (Lw (W a)) k) : Nat) : Int) + (i : Int) = ((sA (ta (Lw (W a)) k) + i : Nat) : Int) by omega, show ((sA (so (Lw (W a)) k) : Nat) : Int) + (j : Int) = ((sA (so (Lw (W a)) k) + j : Nat) : Int) by omega]
      refine x_t4 (pc := 206) dX7_beside_206 wX7_cell sX7_cell kX7_128 (by decide) rfl (Nat.le_of_ble_eq_true rfl) (m_cell (l := 0) (k := k) (r := sA (ta (Lw (W a)) k) + i) (c := sA (so (Lw (W a)) k) + j)) ?_
      refine x_aload_n (pc := 209) dX7_beside_209 rfl ?_
      refine x_gf (pc := 210) dX7_beside_210 fX7_16 (by assumption) (by omega) ?_
      refine x_iload_n (pc := 213) dX7_beside_213 rfl ?_
      refine x_iload (pc := 214) dX7_beside_214 rfl ?_
      refine x_iload (pc := 216) dX7_beside_216 rfl ?_
      refine x_iload (pc := 218) dX7_beside_218 rfl ?_
      refine x_t4 (pc := 220) dX7_beside_220 wX7_cell sX7_cell kX7_128 (by decide) rfl (Nat.le_of_ble_eq_true rfl) (m_cell (l := b) (k := k) (r := i) (c := j)) ?_
      refine x_il (pc := 223) dX7_beside_223 (by assumption) (by omega) rfl (by omega) ?_
      refine x_is (pc := 224) dX7_beside_224 (by assumption) (by omega) rfl (by omega) ?_
      refine x_iinc (pc := 225) dX7_beside_225 rfl (by decide) rfl ?_
      show Ex _ _ _ _ _ _ [_, _, _, _, _, _, _, _, _] _ _ _ _
      refine x_goto (pc := 228) (tgt := 167) dX7_beside_228 (by decide) ?_
      rw [up_up, bE_j hi hj hft hfs]
      exact ih

theorem k_mb4 {G : GL} {d : Nat} {hp : HP} {sz p N : Nat} (C0 : ModA hp p N) (hz : 615 ≤ sz) (hN : 1 ≤ N ∧ N ≤ 8) {W : Nat → Nat} {S T : Nat → Int} (D0 : MdS hp W S T) {a b t : Nat} (ha : a < 8) (hb : b < 8) {sA sB : Nat → Nat} (hsA : sz8 S a sA) (hsB : sz8 S b sB) (hfit : ∀ j, j < N → sA j + sB j ≤ 4) {E0 : Nat → Int} {Q : Option AV → HP → Nat → Prop} {k : Nat} (hk : k + 1 < N) (hq : ∀ v8, Ex G (d + 2) 0 0 mX7_beside 237 [vr 92, vi a, vi b, vi t, vi k, vi ((so (Lw (W a)) k) : Nat), vi ((ta (Lw (W a)) k) : Nat), vi (sB (ta (Lw (W a)) k) : Nat), v8] [] (up hp 97 (ar 0 128 (bE (Lw (W a)) sA sB T E0 b (k + 1) 0 0))) sz Q) : ∀ i, i ≤ sB (ta (Lw (W a)) k) → ∀ v8, Ex G (d + 2) 0 0 mX7_beside 152 [vr 92, vi a, vi b, vi t, vi k, vi ((so (Lw (W a)) k) : Nat), vi ((ta (Lw (W a)) k) : Nat), vi i, v8] [] (up hp 97 (ar 0 128 (bE (Lw (W a)) sA sB T E0 b k i 0))) sz Q := by
  have hst := so_ta (Lf := (Lw (W a))) (k := k)
  have hft := hfit (ta (Lw (W a)) k) (by omega)
  have hfs := hfit (so (Lw (W a)) k) (by omega)
  refine down (fun v8 => ?_) (fun i hi ih v8 => ?_)
  · have C := C0.keep (hp' := (up hp 97 (ar 0 128 (bE (Lw (W a)) sA sB T E0 b k (sB (ta (Lw (W a)) k)) 0)))) (up_n _ _ (by omega))
    have D := D0.keep (hp' := (up hp 97 (ar 0 128 (bE (Lw (W a)) sA sB T E0 b k (sB (ta (Lw (W a)) k)) 0)))) (fun x h1 h2 => up_n _ _ (by omega))
    have hE := up_s hp 97 (ar 0 128 (bE (Lw (W a)) sA sB T E0 b k (sB (ta (Lw (W a)) k)) 0))
    obtain ⟨CX0, C1, C2, C3, C4, C5, C6, C7, C8, C11, C12, C13, C14, C15, C16, C17, C18, C19, C20, C21, C22, C23⟩ := id C
    have hob := CX0.ob
    obtain ⟨D1, D2, D3, D4⟩ := id D
    refine x_iload (pc := 152) dX7_beside_152 rfl ?_
    refine x_aload_n (pc := 154) dX7_beside_154 rfl ?_
    refine x_iload_n (pc := 155) dX7_beside_155 rfl ?_
    refine x_iload (pc := 156) dX7_beside_156 rfl ?_
    refine x_w2 (pc := 158) dX7_beside_158 wX7_at iX7_at kX7_118 (by decide) rfl (Nat.le_of_ble_eq_true rfl) (by assumption) (by omega) (m_at C hz hN D hb (by omega)) ?_
    rw [(hsB _ (by omega)).1]
    refine x_icmp_ge (pc := 161) (tgt := 237) dX7_beside_161 (by decide) (by omega) (by omega) (fun c161 => ?_) (fun c161 => ?_)
    · rw [bE_k]
      exact hq _
    · exact absurd c161 (by omega)
  · have C := C0.keep (hp' := (up hp 97 (ar 0 128 (bE (Lw (W a)) sA sB T E0 b k i 0)))) (up_n _ _ (by omega))
    have D := D0.keep (hp' := (up hp 97 (ar 0 128 (bE (Lw (W a)) sA sB T E0 b k i 0)))) (fun x h1 h2 => up_n _ _ (by omega))
    have hE := up_s hp 97 (ar 0 128 (bE (Lw (W a)) sA sB T E0 b k i 0))
    obtain ⟨CX0, C1, C2, C3, C4, C5, C6, C7, C8, C11, C12, C13, C14, C15, C16, C17, C18, C19, C20, C21, C22, C23⟩ := id C
    have hob := CX0.ob
    obtain ⟨D1, D2, D3, D4⟩ := id D
    refine x_iload (pc := 152) dX7_beside_152 rfl ?_
    refine x_aload_n (pc := 154) dX7_beside_154 rfl ?_
    refine x_iload_n (pc := 155) dX7_beside_155 rfl ?_
    refine x_iload (pc := 156) dX7_beside_156 rfl ?_
    refine x_w2 (pc := 158) dX7_beside_158 wX7_at iX7_at kX7_118 (by decide) rfl (Nat.le_of_ble_eq_true rfl) (by assumption) (by omega) (m_at C hz hN D hb (by omega)) ?_
    rw [(hsB _ (by omega)).1]
    refine x_icmp_ge (pc := 161) (tgt := 237) dX7_beside_161 (by decide) (by omega) (by omega) (fun c161 => ?_) (fun c161 => ?_)
    · exact absurd c161 (by omega)
    · refine x_iconst (pc := 164) dX7_beside_164 ?_
      refine x_istore (pc := 165) dX7_beside_165 (by decide) rfl ?_
      show Ex _ _ _ _ _ _ [_, _, _, _, _, _, _, _, _] _ _ _ _
      refine k_mb5 (d := d) C0 hz hN D0 ha hb hsA hsB hfit hk hi ?_ 0 (by omega)
      refine x_iinc (pc := 231) dX7_beside_231 rfl (by decide) rfl ?_
      show Ex _ _ _ _ _ _ [_, _, _, _, _, _, _, _, _] _ _ _ _
      refine x_goto (pc := 234) (tgt := 152) dX7_beside_234 (by decide) ?_
      exact ih _

theorem k_mb3 {G : GL} {d : Nat} {hp : HP} {sz p N : Nat} (C0 : ModA hp p N) (hz : 615 ≤ sz) (hN : 1 ≤ N ∧ N ≤ 8) {W : Nat → Nat} {S T : Nat → Int} (D0 : MdS hp W S T) {a b t : Nat} (ha : a < 8) (hb : b < 8) {sA sB : Nat → Nat} (hsA : sz8 S a sA) (hsB : sz8 S b sB) (hfit : ∀ j, j < N → sA j + sB j ≤ 4) {E0 : Nat → Int} {Q : Option AV → HP → Nat → Prop} (hq : ∀ v5 v6 v7 v8, Ex G (d + 2) 0 0 mX7_beside 243 [vr 92, vi a, vi b, vi t, vi (N - 1 : Nat), v5, v6, v7, v8] [] (up hp 97 (ar 0 128 (bE (Lw (W a)) sA sB T E0 b (N - 1) 0 0))) sz Q) : ∀ k, k ≤ N - 1 → ∀ v5 v6 v7 v8, Ex G (d + 2) 0 0 mX7_beside 120 [vr 92, vi a, vi b, vi t, vi k, v5, v6, v7, v8] [] (up hp 97 (ar 0 128 (bE (Lw (W a)) sA sB T E0 b k 0 0))) sz Q := by
  refine down (fun v5 v6 v7 v8 => ?_) (fun k hk ih v5 v6 v7 v8 => ?_)
  · have C := C0.keep (hp' := (up hp 97 (ar 0 128 (bE (Lw (W a)) sA sB T E0 b (N - 1) 0 0)))) (up_n _ _ (by omega))
    have D := D0.keep (hp' := (up hp 97 (ar 0 128 (bE (Lw (W a)) sA sB T E0 b (N - 1) 0 0)))) (fun x h1 h2 => up_n _ _ (by omega))
    have hE := up_s hp 97 (ar 0 128 (bE (Lw (W a)) sA sB T E0 b (N - 1) 0 0))
    obtain ⟨CX0, C1, C2, C3, C4, C5, C6, C7, C8, C11, C12, C13, C14, C15, C16, C17, C18, C19, C20, C21, C22, C23⟩ := id C
    have hob := CX0.ob
    obtain ⟨D1, D2, D3, D4⟩ := id D
    refine x_iload (pc := 120) dX7_beside_120 rfl ?_
    refine x_aload_n (pc := 122) dX7_beside_122 rfl ?_
    refine x_gf (pc := 123) dX7_beside_123 fX7_93 (by assumption) (by omega) ?_
    refine x_iconst (pc := 126) dX7_beside_126 ?_
    refine x_isub (pc := 127) dX7_beside_127 ?_
    refine x_icmp_ge (pc := 128) (tgt := 243) dX7_beside_128 (by decide) (by omega) (by omega) (fun c128 => ?_) (fun c128 => ?_)
    · exact hq _ _ _ _
    · exact absurd c128 (by omega)
  · have C := C0.keep (hp' := (up hp 97 (ar 0 128 (bE (Lw (W a)) sA sB T E0 b k 0 0)))) (up_n _ _ (by omega))
    have D := D0.keep (hp' := (up hp 97 (ar 0 128 (bE (Lw (W a)) sA sB T E0 b k 0 0)))) (fun x h1 h2 => up_n _ _ (by omega))
    have hE := up_s hp 97 (ar 0 128 (bE (Lw (W a)) sA sB T E0 b k 0 0))
    obtain ⟨CX0, C1, C2, C3, C4, C5, C6, C7, C8, C11, C12, C13, C14, C15, C16, C17, C18, C19, C20, C21, C22, C23⟩ := id C
    have hob := CX0.ob
    obtain ⟨D1, D2, D3, D4⟩ := id D
    refine x_iload (pc := 120) dX7_beside_120 rfl ?_
    refine x_aload_n (pc := 122) dX7_beside_122 rfl ?_
    refine x_gf (pc := 123) dX7_beside_123 fX7_93 (by assumption) (by omega) ?_
    refine x_iconst (pc := 126) dX7_beside_126 ?_
    refine x_isub (pc := 127) dX7_beside_127 ?_
    refine x_icmp_ge (pc := 128) (tgt := 243) dX7_beside_128 (by decide) (by omega) (by omega) (fun c128 => ?_) (fun c128 => ?_)
    · exact absurd c128 (by omega)
    · refine x_aload_n (pc := 131) dX7_beside_131 rfl ?_
      refine x_iload_n (pc := 132) dX7_beside_132 rfl ?_
      refine x_iload (pc := 133) dX7_beside_133 rfl ?_
      refine x_w2 (pc := 135) dX7_beside_135 wX7_source iX7_source kX7_121 (by decide) rfl (Nat.le_of_ble_eq_true rfl) (by assumption) (by omega) (m_source C hz hN D ha (k := k) (by omega)) ?_
      rw [show (if (W a).testBit k = true then k + 1 else k) = so (Lw (W a)) k from rfl]
      refine x_istore (pc := 138) dX7_beside_138 (by decide) rfl ?_
      show Ex _ _ _ _ _ _ [_, _, _, _, _, _, _, _, _] _ _ _ _
      refine x_aload_n (pc := 140) dX7_beside_140 rfl ?_
      refine x_iload_n (pc := 141) dX7_beside_141 rfl ?_
      refine x_iload (pc := 142) dX7_beside_142 rfl ?_
      refine x_w2 (pc := 144) dX7_beside_144 wX7_target iX7_target kX7_115 (by decide) rfl (Nat.le_of_ble_eq_true rfl) (by assumption) (by omega) (m_target C hz hN D ha (k := k) (by omega)) ?_
      rw [show (if (W a).testBit k = true then k else k + 1) = ta (Lw (W a)) k from rfl]
      refine x_istore (pc := 147) dX7_beside_147 (by decide) rfl ?_
      show Ex _ _ _ _ _ _ [_, _, _, _, _, _, _, _, _] _ _ _ _
      refine x_iconst (pc := 149) dX7_beside_149 ?_
      refine x_istore (pc := 150) dX7_beside_150 (by decide) rfl ?_
      show Ex _ _ _ _ _ _ [_, _, _, _, _, _, _, _, _] _ _ _ _
      refine k_mb4 (d := d) C0 hz hN D0 ha hb hsA hsB hfit (by omega) (fun v8 => ?_) 0 (by omega) _
      refine x_iinc (pc := 237) dX7_beside_237 rfl (by decide) rfl ?_
      show Ex _ _ _ _ _ _ [_, _, _, _, _, _, _, _, _] _ _ _ _
      refine x_goto (pc := 240) (tgt := 120) dX7_beside_240 (by decide) ?_
      exact ih _ _ _ _

theorem k_mb2 {G : GL} {d : Nat} {hp : HP} {sz p N : Nat} (C0 : ModA hp p N) (hz : 615 ≤ sz) (hN : 1 ≤ N ∧ N ≤ 8) {W : Nat → Nat} {S T : Nat → Int} (D0 : MdS hp W S T) {a b t : Nat} (ha : a < 8) (hb : b < 8) {sA sB : Nat → Nat} (hsA : sz8 S a sA) (hsB : sz8 S b sB) (hfit : ∀ j, j < N → sA j + sB j ≤ 4) {A0 : Nat → Int} {Q : Option AV → HP → Nat → Prop} {v5 v6 v7 v8 : AV} (hq : Ex G (d + 2) 0 0 mX7_beside 117 [vr 92, vi a, vi b, vi t, vi N, v5, v6, v7, v8] [] (up hp 96 (ar 0 8 (fun j => if j < N then A0 j + S (8 * b + j) else A0 j))) sz Q) : ∀ k, k ≤ N → Ex G (d + 2) 0 0 mX7_beside 85 [vr 92, vi a, vi b, vi t, vi k, v5, v6, v7, v8] [] (up hp 96 (ar 0 8 (fun j => if j < k then A0 j + S (8 * b + j) else A0 j))) sz Q := by
  refine down ?_ (fun k hk ih => ?_)
  · have C := C0.keep (hp' := (up hp 96 (ar 0 8 (fun j => if j < N then A0 j + S (8 * b + j) else A0 j)))) (up_n _ _ (by omega))
    have D := D0.keep (hp' := (up hp 96 (ar 0 8 (fun j => if j < N then A0 j + S (8 * b + j) else A0 j)))) (fun x h1 h2 => up_n _ _ (by omega))
    have hA := up_s hp 96 (ar 0 8 (fun j => if j < N then A0 j + S (8 * b + j) else A0 j))
    obtain ⟨CX0, C1, C2, C3, C4, C5, C6, C7, C8, C11, C12, C13, C14, C15, C16, C17, C18, C19, C20, C21, C22, C23⟩ := id C
    have hob := CX0.ob
    obtain ⟨D1, D2, D3, D4⟩ := id D
    refine x_iload (pc := 85) dX7_beside_85 rfl ?_
    refine x_aload_n (pc := 87) dX7_beside_87 rfl ?_
    refine x_gf (pc := 88) dX7_beside_88 fX7_93 (by assumption) (by omega) ?_
    refine x_icmp_ge (pc := 91) (tgt := 117) dX7_beside_91 (by decide) (by omega) (by omega) (fun c91 => ?_) (fun c91 => ?_)
    · exact hq
    · exact absurd c91 (by omega)
  · have C := C0.keep (hp' := (up hp 96 (ar 0 8 (fun j => if j < k then A0 j + S (8 * b + j) else A0 j)))) (up_n _ _ (by omega))
    have D := D0.keep (hp' := (up hp 96 (ar 0 8 (fun j => if j < k then A0 j + S (8 * b + j) else A0 j)))) (fun x h1 h2 => up_n _ _ (by omega))
    have hA := up_s hp 96 (ar 0 8 (fun j => if j < k then A0 j + S (8 * b + j) else A0 j))
    obtain ⟨CX0, C1, C2, C3, C4, C5, C6, C7, C8, C11, C12, C13, C14, C15, C16, C17, C18, C19, C20, C21, C22, C23⟩ := id C
    have hob := CX0.ob
    obtain ⟨D1, D2, D3, D4⟩ := id D
    refine x_iload (pc := 85) dX7_beside_85 rfl ?_
    refine x_aload_n (pc := 87) dX7_beside_87 rfl ?_
    refine x_gf (pc := 88) dX7_beside_88 fX7_93 (by assumption) (by omega) ?_
    refine x_icmp_ge (pc := 91) (tgt := 117) dX7_beside_91 (by decide) (by omega) (by omega) (fun c91 => ?_) (fun c91 => ?_)
    · exact absurd c91 (by omega)
    · refine x_aload_n (pc := 94) dX7_beside_94 rfl ?_
      refine x_gf (pc := 95) dX7_beside_95 fX7_19 (by assumption) (by omega) ?_
      refine x_iload (pc := 98) dX7_beside_98 rfl ?_
      refine x_dup2 (pc := 100) dX7_beside_100 ?_
      refine x_il (pc := 101) dX7_beside_101 (by assumption) (by omega) rfl (by omega) ?_
      rw [if_neg (by omega)]
      refine x_aload_n (pc := 102) dX7_beside_102 rfl ?_
      refine x_iload_n (pc := 103) dX7_beside_103 rfl ?_
      refine x_iload (pc := 104) dX7_beside_104 rfl ?_
      refine x_w2 (pc := 106) dX7_beside_106 wX7_at iX7_at kX7_118 (by decide) rfl (Nat.le_of_ble_eq_true rfl) (by assumption) (by omega) (m_at C hz hN D hb (by omega)) ?_
      refine x_iadd (pc := 109) dX7_beside_109 ?_
      refine x_is (pc := 110) dX7_beside_110 (by assumption) (by omega) rfl (by omega) ?_
      refine x_iinc (pc := 111) dX7_beside_111 rfl (by decide) rfl ?_
      show Ex _ _ _ _ _ _ [_, _, _, _, _, _, _, _, _] _ _ _ _
      refine x_goto (pc := 114) (tgt := 85) dX7_beside_114 (by decide) ?_
      have e9 := upIf (fun j => A0 j + S (8 * b + j)) A0 k
      try dsimp only at e9
      rw [up_up, e9]
      exact ih
