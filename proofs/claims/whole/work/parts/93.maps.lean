def frm (sA sB : Nat → Nat) : Nat → Nat
  | 0 => 0
  | k + 1 => frm sA sB k + sB k * sA k
theorem mul16 {a b : Nat} (ha : a ≤ 4) (hb : b ≤ 4) : a * b ≤ 16 := Nat.le_trans (Nat.mul_le_mul ha hb) (by decide)
theorem frm_le {sA sB : Nat → Nat} (hA : ∀ k, k < 8 → sA k ≤ 4) (hB : ∀ k, k < 8 → sB k ≤ 4) : ∀ k, k ≤ 8 → frm sA sB k ≤ 16 * k
  | 0, _ => Nat.le_refl _
  | k + 1, hk => by
    have ih := frm_le hA hB k (by omega)
    have := mul16 (hB k (by omega)) (hA k (by omega))
    show frm sA sB k + sB k * sA k ≤ _
    omega
theorem frm_mono {sA sB : Nat → Nat} : ∀ k j, k < j → frm sA sB k + sB k * sA k ≤ frm sA sB j := by
  intro k j hj
  obtain ⟨d, rfl⟩ : ∃ d, j = k + 1 + d := ⟨j - (k + 1), by omega⟩
  clear hj
  induction d with
  | zero => exact Nat.le_refl _
  | succ d ih =>
    rw [← Nat.add_assoc]
    show _ ≤ frm sA sB (k + 1 + d) + sB (k + 1 + d) * sA (k + 1 + d)
    omega
/-- a row of 'maps' when X of the first, then when x of the second numbers are set -/
def rM1 (sA sB : Nat → Nat) (T : Nat → Int) (Lf : Nat → Bool) (la k i j X c : Nat) : Int := if frm sA sB (ta Lf k) + i * sA (ta Lf k) ≤ c ∧ c < frm sA sB (ta Lf k) + i * sA (ta Lf k) + X then T (la * 128 + k * 16 + (c - (frm sA sB (ta Lf k) + i * sA (ta Lf k))) * 4 + j) else 0
def rM2 (sA sB : Nat → Nat) (T : Nat → Int) (Lf : Nat → Bool) (p la lb k i j : Nat) : Nat → Nat → Int
  | 0 => rM1 sA sB T Lf la k i j (sA (ta Lf k))
  | x + 1 => up (rM2 sA sB T Lf p la lb k i j x) (frm sA sB (so Lf k) + (x * sA (so Lf k) + j)) ((rM2 sA sB T Lf p la lb k i j x (frm sA sB (so Lf k) + (x * sA (so Lf k) + j)) - T (lb * 128 + k * 16 + i * 4 + x)) % p)
def rowM (sA sB : Nat → Nat) (T : Nat → Int) (Lf : Nat → Bool) (p la lb k q c : Nat) : Int := rM2 sA sB T Lf p la lb k (q / 4) (q % 4) (sB (so Lf k)) c
theorem rM2_rg {sA sB : Nat → Nat} {T : Nat → Int} {Lf : Nat → Bool} {p la lb k i j : Nat} (hp : 0 < p) (hT : inTm T p) (hla : la < 8) (hk : k < 7) (hj : j < 4) (hs : sA (ta Lf k) ≤ 4) : ∀ x c, 0 ≤ rM2 sA sB T Lf p la lb k i j x c ∧ rM2 sA sB T Lf p la lb k i j x c < p
  | 0, c => by
    show 0 ≤ rM1 sA sB T Lf la k i j (sA (ta Lf k)) c ∧ rM1 sA sB T Lf la k i j (sA (ta Lf k)) c < p
    unfold rM1
    split
    · exact hT _ (by omega)
    · omega
  | x + 1, c => by
    show 0 ≤ up (rM2 sA sB T Lf p la lb k i j x) _ _ c ∧ up (rM2 sA sB T Lf p la lb k i j x) _ _ c < p
    by_cases e : c = frm sA sB (so Lf k) + (x * sA (so Lf k) + j)
    · rw [e, up_s]; exact emod_rg hp
    · rw [up_n _ _ e]; exact rM2_rg hp hT hla hk hj hs x c
def dnM (N : Nat) (sA sB : Nat → Nat) (Lf : Nat → Bool) (k i j k' q' : Nat) : Prop := k' + 1 < N ∧ q' / 4 < sB (ta Lf k') ∧ q' % 4 < sA (so Lf k') ∧ (k' < k ∨ (k' = k ∧ (q' / 4 < i ∨ (q' / 4 = i ∧ q' % 4 < j))))

theorem k_maps1 {G : GL} {d : Nat} {sz p N : Nat} (hz : 615 ≤ sz) (hN : 1 ≤ N ∧ N ≤ 8) (hP : isP p) {W : Nat → Nat} {S T : Nat → Int} {la lb : Nat} (hla : la < 8) (hlb : lb < 8) {sA sB : Nat → Nat} (hsA : sz8 S la sA) (hsB : sz8 S lb sB) (hT : inTm T p) {Q : Option AV → HP → Nat → Prop} {M : Nat → Nat → Int} {ld : Nat → Int} {m w : Nat} {g : Nat → Option Nat} {σ : Nat → Nat} {Qs : Nat → Nat → Int} {v4 v5 v6 v7 v8 v9 v10 : AV} : ∀ k, k ≤ N → ∀ (hp : HP) (F : Nat → Int), TS hp p N W S T M ld m w g σ F Qs → (∀ j, j ≤ k → F j = (frm sA sB j : Int)) → (∀ h F1, TS h p N W S T M ld m w g σ F1 Qs → Ft hp h → (∀ j, j ≤ N → F1 j = (frm sA sB j : Int)) → Ex G (d + 2) 0 0 mX7_maps 62 [vr 92, vi la, vi lb, vi (N : Nat), v4, v5, v6, v7, v8, v9, v10] [] h sz Q) → Ex G (d + 2) 0 0 mX7_maps 20 [vr 92, vi la, vi lb, vi k, v4, v5, v6, v7, v8, v9, v10] [] hp sz Q := by
  refine down (fun hp F t hF hq => ?_) (fun k hk ih hp F t hF hq => ?_)
  · obtain ⟨C, D, Mo, FA, ⟨gq, SA, SB⟩, SC⟩ := id t
    obtain ⟨C0, C1, C2, C3, C4, C5, C6, C7, C8, C11, C12, C13, C14, C15, C16, C17, C18, C19, C20, C21, C22, C23⟩ := id C
    have hob := C0.ob
    obtain ⟨D1, D2, D3, D4⟩ := id D
    obtain ⟨O1, O2, O3, O4, O5, O6⟩ := id Mo
    refine x_iload_n (pc := 20) dX7_maps_20 rfl ?_
    refine x_aload_n (pc := 21) dX7_maps_21 rfl ?_
    refine x_gf (pc := 22) dX7_maps_22 fX7_93 (by assumption) (by omega) ?_
    refine x_icmp_ge (pc := 25) (tgt := 62) dX7_maps_25 (by decide) (by omega) (by omega) (fun c25 => ?_) (fun c25 => ?_)
    · exact hq hp F t Ft.rf (fun j h2 => hF j (by omega))
    · exact absurd c25 (by omega)
  · obtain ⟨C, D, Mo, FA, ⟨gq, SA, SB⟩, SC⟩ := id t
    obtain ⟨C0, C1, C2, C3, C4, C5, C6, C7, C8, C11, C12, C13, C14, C15, C16, C17, C18, C19, C20, C21, C22, C23⟩ := id C
    have hob := C0.ob
    obtain ⟨D1, D2, D3, D4⟩ := id D
    obtain ⟨O1, O2, O3, O4, O5, O6⟩ := id Mo
    refine x_iload_n (pc := 20) dX7_maps_20 rfl ?_
    refine x_aload_n (pc := 21) dX7_maps_21 rfl ?_
    refine x_gf (pc := 22) dX7_maps_22 fX7_93 (by assumption) (by omega) ?_
    refine x_icmp_ge (pc := 25) (tgt := 62) dX7_maps_25 (by decide) (by omega) (by omega) (fun c25 => ?_) (fun c25 => ?_)
    · exact absurd c25 (by omega)
    · refine x_aload_n (pc := 28) dX7_maps_28 rfl ?_
      refine x_gf (pc := 29) dX7_maps_29 fX7_36 (by assumption) (by omega) ?_
      refine x_iload_n (pc := 32) dX7_maps_32 rfl ?_
      refine x_iconst (pc := 33) dX7_maps_33 ?_
      refine x_iadd (pc := 34) dX7_maps_34 ?_
      refine x_aload_n (pc := 35) dX7_maps_35 rfl ?_
      refine x_gf (pc := 36) dX7_maps_36 fX7_36 (by assumption) (by omega) ?_
      refine x_iload_n (pc := 39) dX7_maps_39 rfl ?_
      refine x_il (pc := 40) dX7_maps_40 (by assumption) (by omega) rfl (by omega) ?_
      rw [hF k (Nat.le_refl _)]
      refine x_aload_n (pc := 41) dX7_maps_41 rfl ?_
      refine x_iload_n (pc := 42) dX7_maps_42 rfl ?_
      refine x_iload_n (pc := 43) dX7_maps_43 rfl ?_
      refine x_w2 (pc := 44) dX7_maps_44 wX7_at iX7_at kX7_118 (by decide) rfl (Nat.le_of_ble_eq_true rfl) (by assumption) (by omega) (m_at C hz hN D hla (by omega)) ?_
      rw [(hsA _ (by omega)).1]
      refine x_aload_n (pc := 47) dX7_maps_47 rfl ?_
      refine x_iload_n (pc := 48) dX7_maps_48 rfl ?_
      refine x_iload_n (pc := 49) dX7_maps_49 rfl ?_
      refine x_w2 (pc := 50) dX7_maps_50 wX7_at iX7_at kX7_118 (by decide) rfl (Nat.le_of_ble_eq_true rfl) (by assumption) (by omega) (m_at C hz hN D hlb (by omega)) ?_
      rw [(hsB _ (by omega)).1]
      refine x_imul (pc := 53) dX7_maps_53 ?_
      refine x_iadd (pc := 54) dX7_maps_54 ?_
      refine x_is (pc := 55) (j := k + 1) dX7_maps_55 (by assumption) (by omega) (by omega) (by omega) ?_
      refine x_iinc (pc := 56) dX7_maps_56 rfl (by decide) rfl ?_
      show Ex _ _ _ _ _ _ [_, _, _, _, _, _, _, _, _, _, _] _ _ _ _
      refine x_goto (pc := 59) (tgt := 20) dX7_maps_59 (by decide) ?_
      exact ih _ _ t.fr (fun j h2 => by
        by_cases e : j = k + 1
        · subst e
          rw [up_s]
          show _ = ((frm sA sB k + sB k * sA k : Nat) : Int)
          rw [Int.natCast_add, Int.natCast_mul, Int.mul_comm]
        · rw [up_n _ _ e]; exact hF j (by omega)) (fun h F1 t1 f1 e1 => hq h F1 t1 ((Ft.rf.up (by omega) (by omega) (by omega) (by omega)).tr f1) e1)

theorem k_maps5 {G : GL} {d : Nat} {sz p N : Nat} (hz : 615 ≤ sz) (hN : 1 ≤ N ∧ N ≤ 8) (hP : isP p) {W : Nat → Nat} {S T : Nat → Int} {la lb : Nat} (hla : la < 8) (hlb : lb < 8) {sA sB : Nat → Nat} (hsA : sz8 S la sA) (hsB : sz8 S lb sB) (hT : inTm T p) {Q : Option AV → HP → Nat → Prop} {F : Nat → Int} (hF : ∀ j, j ≤ N → F j = (frm sA sB j : Int)) {w : Nat} (hw : w = frm sA sB N) {ld : Nat → Int} {Qs : Nat → Nat → Int} {k i j m : Nat} (hk : k + 1 < N) (hi : i < sB (ta (Lw (W la)) k)) (hj : j < sA (so (Lw (W la)) k)) (hm : m < 260) {g : Nat → Option Nat} {σ : Nat → Nat} {v10 : AV} : ∀ x, x ≤ sA (ta (Lw (W la)) k) → ∀ (hp : HP) (M : Nat → Nat → Int), TS hp p N W S T M ld (m + 1) w g σ F Qs → (∀ c, c < w → M m c = rM1 sA sB T (Lw (W la)) la k i j x c) → (∀ h M1, TS h p N W S T M1 ld (m + 1) w g σ F Qs → Ft hp h → (∀ z, z ≠ m → M1 z = M z) → (∀ c, c < w → M1 m c = rM1 sA sB T (Lw (W la)) la k i j (sA (ta (Lw (W la)) k)) c) → Ex G (d + 2) 0 0 mX7_maps 198 [vr 92, vi la, vi lb, vi k, vi ((so (Lw (W la)) k) : Nat), vi ((ta (Lw (W la)) k) : Nat), vi i, vi j, vr (σ m), vi (sA (ta (Lw (W la)) k) : Nat), v10] [] h sz Q) → Ex G (d + 2) 0 0 mX7_maps 142 [vr 92, vi la, vi lb, vi k, vi ((so (Lw (W la)) k) : Nat), vi ((ta (Lw (W la)) k) : Nat), vi i, vi j, vr (σ m), vi x, v10] [] hp sz Q := by
  have hst := so_ta (Lf := (Lw (W la))) (k := k)
  have hso8 := frm_mono (sA := sA) (sB := sB) (so (Lw (W la)) k) N (by omega)
  have hta8 := frm_mono (sA := sA) (sB := sB) (ta (Lw (W la)) k) N (by omega)
  have hw8 := frm_le (sA := sA) (sB := sB) (fun k hk => (hsA k hk).2) (fun k hk => (hsB k hk).2) N (by omega)
  have hsA4 := (hsA (so (Lw (W la)) k) (by omega)).2
  have htA4 := (hsA (ta (Lw (W la)) k) (by omega)).2
  have hsB4 := (hsB (so (Lw (W la)) k) (by omega)).2
  have htB4 := (hsB (ta (Lw (W la)) k) (by omega)).2
  have hpt : i * sA (ta (Lw (W la)) k) + sA (ta (Lw (W la)) k) ≤ sB (ta (Lw (W la)) k) * sA (ta (Lw (W la)) k) := by have := Nat.mul_le_mul_right (sA (ta (Lw (W la)) k)) hi; rw [Nat.succ_mul] at this; omega
  refine down (fun hp M t hr hq => ?_) (fun x hx ih hp M t hr hq => ?_)
  · obtain ⟨C, D, Mo, FA, ⟨gq, SA, SB⟩, SC⟩ := id t
    obtain ⟨C0, C1, C2, C3, C4, C5, C6, C7, C8, C11, C12, C13, C14, C15, C16, C17, C18, C19, C20, C21, C22, C23⟩ := id C
    have hob := C0.ob
    obtain ⟨D1, D2, D3, D4⟩ := id D
    obtain ⟨O1, O2, O3, O4, O5, O6⟩ := id Mo
    refine x_iload (pc := 142) dX7_maps_142 rfl ?_
    refine x_aload_n (pc := 144) dX7_maps_144 rfl ?_
    refine x_iload_n (pc := 145) dX7_maps_145 rfl ?_
    refine x_iload (pc := 146) dX7_maps_146 rfl ?_
    refine x_w2 (pc := 148) dX7_maps_148 wX7_at iX7_at kX7_118 (by decide) rfl (Nat.le_of_ble_eq_true rfl) (by assumption) (by omega) (m_at C hz hN D hla (by omega)) ?_
    rw [(hsA _ (by omega)).1]
    refine x_icmp_ge (pc := 151) (tgt := 198) dX7_maps_151 (by decide) (by omega) (by omega) (fun c151 => ?_) (fun c151 => ?_)
    · exact hq hp M t Ft.rf (fun z _ => rfl) hr
    · exact absurd c151 (by omega)
  · obtain ⟨C, D, Mo, FA, ⟨gq, SA, SB⟩, SC⟩ := id t
    obtain ⟨C0, C1, C2, C3, C4, C5, C6, C7, C8, C11, C12, C13, C14, C15, C16, C17, C18, C19, C20, C21, C22, C23⟩ := id C
    have hob := C0.ob
    obtain ⟨D1, D2, D3, D4⟩ := id D
    obtain ⟨O1, O2, O3, O4, O5, O6⟩ := id Mo
    obtain ⟨a1, a2, a3, a4⟩ := Mo.lt (i := m) hm
    refine x_iload (pc := 142) dX7_maps_142 rfl ?_
    refine x_aload_n (pc := 144) dX7_maps_144 rfl ?_
    refine x_iload_n (pc := 145) dX7_maps_145 rfl ?_
    refine x_iload (pc := 146) dX7_maps_146 rfl ?_
    refine x_w2 (pc := 148) dX7_maps_148 wX7_at iX7_at kX7_118 (by decide) rfl (Nat.le_of_ble_eq_true rfl) (by assumption) (by omega) (m_at C hz hN D hla (by omega)) ?_
    rw [(hsA _ (by omega)).1]
    refine x_icmp_ge (pc := 151) (tgt := 198) dX7_maps_151 (by decide) (by omega) (by omega) (fun c151 => ?_) (fun c151 => ?_)
    · exact absurd c151 (by omega)
    · refine x_aload (pc := 154) dX7_maps_154 rfl ?_
      refine x_aload_n (pc := 156) dX7_maps_156 rfl ?_
      refine x_gf (pc := 157) dX7_maps_157 fX7_36 (by assumption) (by omega) ?_
      refine x_iload (pc := 160) dX7_maps_160 rfl ?_
      refine x_il (pc := 162) dX7_maps_162 (by assumption) (by omega) rfl (by omega) ?_
      rw [hF (ta (Lw (W la)) k) (by omega)]
      refine x_iload (pc := 163) dX7_maps_163 rfl ?_
      refine x_aload_n (pc := 165) dX7_maps_165 rfl ?_
      refine x_iload_n (pc := 166) dX7_maps_166 rfl ?_
      refine x_iload (pc := 167) dX7_maps_167 rfl ?_
      refine x_w2 (pc := 169) dX7_maps_169 wX7_at iX7_at kX7_118 (by decide) rfl (Nat.le_of_ble_eq_true rfl) (by assumption) (by omega) (m_at C hz hN D hla (by omega)) ?_
      rw [(hsA _ (by omega)).1]
      refine x_imul (pc := 172) dX7_maps_172 ?_
      refine x_iadd (pc := 173) dX7_maps_173 ?_
      refine x_iload (pc := 174) dX7_maps_174 rfl ?_
      refine x_iadd (pc := 176) dX7_maps_176 ?_
      refine x_aload_n (pc := 177) dX7_maps_177 rfl ?_
      refine x_gf (pc := 178) dX7_maps_178 fX7_16 (by assumption) (by omega) ?_
      refine x_iload_n (pc := 181) dX7_maps_181 rfl ?_
      refine x_iload_n (pc := 182) dX7_maps_182 rfl ?_
      refine x_iload (pc := 183) dX7_maps_183 rfl ?_
      refine x_iload (pc := 185) dX7_maps_185 rfl ?_
      refine x_t4 (pc := 187) dX7_maps_187 wX7_cell sX7_cell kX7_128 (by decide) rfl (Nat.le_of_ble_eq_true rfl) (m_cell (l := la) (k := k) (r := x) (c := j)) ?_
      refine x_il (pc := 190) dX7_maps_190 (by assumption) (by omega) rfl (by omega) ?_
      refine x_is (pc := 191) (j := frm sA sB (ta (Lw (W la)) k) + (i * sA (ta (Lw (W la)) k) + x)) dX7_maps_191 a4 (by omega) (by omega) (by omega) ?_
      refine x_iinc (pc := 192) dX7_maps_192 rfl (by decide) rfl ?_
      show Ex _ _ _ _ _ _ [_, _, _, _, _, _, _, _, _, _, _] _ _ _ _
      refine x_goto (pc := 195) (tgt := 142) dX7_maps_195 (by decide) ?_
      exact ih _ _ (t.row (i := m) hm) (fun c hc => by
        rw [up_s]
        unfold rM1
        by_cases e : c = frm sA sB (ta (Lw (W la)) k) + (i * sA (ta (Lw (W la)) k) + x)
        · rw [e, up_s, if_pos (by omega), show frm sA sB (ta (Lw (W la)) k) + (i * sA (ta (Lw (W la)) k) + x) - (frm sA sB (ta (Lw (W la)) k) + i * sA (ta (Lw (W la)) k)) = x by omega]
        · rw [up_n _ _ e, hr c hc]
          unfold rM1
          by_cases e2 : frm sA sB (ta (Lw (W la)) k) + i * sA (ta (Lw (W la)) k) ≤ c ∧ c < frm sA sB (ta (Lw (W la)) k) + i * sA (ta (Lw (W la)) k) + x
          · rw [if_pos e2, if_pos (by omega)]
          · rw [if_neg e2, if_neg (by omega)]) (fun h M1 t1 f1 e0 e1 => hq h M1 t1 ((Ft.rf.up (by omega) (by omega) (by omega) (by omega)).tr f1) (fun z hz9 => (e0 z hz9).trans (up_n _ _ hz9)) e1)

theorem k_maps6 {G : GL} {d : Nat} {sz p N : Nat} (hz : 615 ≤ sz) (hN : 1 ≤ N ∧ N ≤ 8) (hP : isP p) {W : Nat → Nat} {S T : Nat → Int} {la lb : Nat} (hla : la < 8) (hlb : lb < 8) {sA sB : Nat → Nat} (hsA : sz8 S la sA) (hsB : sz8 S lb sB) (hT : inTm T p) {Q : Option AV → HP → Nat → Prop} {F : Nat → Int} (hF : ∀ j, j ≤ N → F j = (frm sA sB j : Int)) {w : Nat} (hw : w = frm sA sB N) {ld : Nat → Int} {Qs : Nat → Nat → Int} {k i j m : Nat} (hk : k + 1 < N) (hi : i < sB (ta (Lw (W la)) k)) (hj : j < sA (so (Lw (W la)) k)) (hm : m < 260) {g : Nat → Option Nat} {σ : Nat → Nat} : ∀ x, x ≤ sB (so (Lw (W la)) k) → ∀ (hp : HP) (M : Nat → Nat → Int) (v10 : AV), TS hp p N W S T M ld (m + 1) w g σ F Qs → (∀ c, c < w → M m c = rM2 sA sB T (Lw (W la)) p la lb k i j x c) → (∀ h M1 v10, TS h p N W S T M1 ld (m + 1) w g σ F Qs → Ft hp h → (∀ z, z ≠ m → M1 z = M z) → (∀ c, c < w → M1 m c = rM2 sA sB T (Lw (W la)) p la lb k i j (sB (so (Lw (W la)) k)) c) → Ex G (d + 2) 0 0 mX7_maps 271 [vr 92, vi la, vi lb, vi k, vi ((so (Lw (W la)) k) : Nat), vi ((ta (Lw (W la)) k) : Nat), vi i, vi j, vr (σ m), vi (sB (so (Lw (W la)) k) : Nat), v10] [] h sz Q) → Ex G (d + 2) 0 0 mX7_maps 201 [vr 92, vi la, vi lb, vi k, vi ((so (Lw (W la)) k) : Nat), vi ((ta (Lw (W la)) k) : Nat), vi i, vi j, vr (σ m), vi x, v10] [] hp sz Q := by
  have hpl := hP.le
  have hst := so_ta (Lf := (Lw (W la))) (k := k)
  have hso8 := frm_mono (sA := sA) (sB := sB) (so (Lw (W la)) k) N (by omega)
  have hta8 := frm_mono (sA := sA) (sB := sB) (ta (Lw (W la)) k) N (by omega)
  have hw8 := frm_le (sA := sA) (sB := sB) (fun k hk => (hsA k hk).2) (fun k hk => (hsB k hk).2) N (by omega)
  have hsA4 := (hsA (so (Lw (W la)) k) (by omega)).2
  have htA4 := (hsA (ta (Lw (W la)) k) (by omega)).2
  have hsB4 := (hsB (so (Lw (W la)) k) (by omega)).2
  have htB4 := (hsB (ta (Lw (W la)) k) (by omega)).2
  have hpt : i * sA (ta (Lw (W la)) k) + sA (ta (Lw (W la)) k) ≤ sB (ta (Lw (W la)) k) * sA (ta (Lw (W la)) k) := by have := Nat.mul_le_mul_right (sA (ta (Lw (W la)) k)) hi; rw [Nat.succ_mul] at this; omega
  refine down (fun hp M v10 t hr hq => ?_) (fun x hx ih hp M v10 t hr hq => ?_)
  · obtain ⟨C, D, Mo, FA, ⟨gq, SA, SB⟩, SC⟩ := id t
    obtain ⟨C0, C1, C2, C3, C4, C5, C6, C7, C8, C11, C12, C13, C14, C15, C16, C17, C18, C19, C20, C21, C22, C23⟩ := id C
    have hob := C0.ob
    obtain ⟨D1, D2, D3, D4⟩ := id D
    obtain ⟨O1, O2, O3, O4, O5, O6⟩ := id Mo
    refine x_iload (pc := 201) dX7_maps_201 rfl ?_
    refine x_aload_n (pc := 203) dX7_maps_203 rfl ?_
    refine x_iload_n (pc := 204) dX7_maps_204 rfl ?_
    refine x_iload (pc := 205) dX7_maps_205 rfl ?_
    refine x_w2 (pc := 207) dX7_maps_207 wX7_at iX7_at kX7_118 (by decide) rfl (Nat.le_of_ble_eq_true rfl) (by assumption) (by omega) (m_at C hz hN D hlb (by omega)) ?_
    rw [(hsB _ (by omega)).1]
    refine x_icmp_ge (pc := 210) (tgt := 271) dX7_maps_210 (by decide) (by omega) (by omega) (fun c210 => ?_) (fun c210 => ?_)
    · exact hq hp M _ t Ft.rf (fun z _ => rfl) hr
    · exact absurd c210 (by omega)
  · obtain ⟨C, D, Mo, FA, ⟨gq, SA, SB⟩, SC⟩ := id t
    obtain ⟨C0, C1, C2, C3, C4, C5, C6, C7, C8, C11, C12, C13, C14, C15, C16, C17, C18, C19, C20, C21, C22, C23⟩ := id C
    have hob := C0.ob
    obtain ⟨D1, D2, D3, D4⟩ := id D
    obtain ⟨O1, O2, O3, O4, O5, O6⟩ := id Mo
    obtain ⟨a1, a2, a3, a4⟩ := Mo.lt (i := m) hm
    refine x_iload (pc := 201) dX7_maps_201 rfl ?_
    refine x_aload_n (pc := 203) dX7_maps_203 rfl ?_
    refine x_iload_n (pc := 204) dX7_maps_204 rfl ?_
    refine x_iload (pc := 205) dX7_maps_205 rfl ?_
    refine x_w2 (pc := 207) dX7_maps_207 wX7_at iX7_at kX7_118 (by decide) rfl (Nat.le_of_ble_eq_true rfl) (by assumption) (by omega) (m_at C hz hN D hlb (by omega)) ?_
    rw [(hsB _ (by omega)).1]
    refine x_icmp_ge (pc := 210) (tgt := 271) dX7_maps_210 (by decide) (by omega) (by omega) (fun c210 => ?_) (fun c210 => ?_)
    · exact absurd c210 (by omega)
    · have hps : x * sA (so (Lw (W la)) k) + sA (so (Lw (W la)) k) ≤ sB (so (Lw (W la)) k) * sA (so (Lw (W la)) k) := by have := Nat.mul_le_mul_right (sA (so (Lw (W la)) k)) hx; rw [Nat.succ_mul] at this; omega
      refine x_aload_n (pc := 213) dX7_maps_213 rfl ?_
      refine x_gf (pc := 214) dX7_maps_214 fX7_36 (by assumption) (by omega) ?_
      refine x_iload (pc := 217) dX7_maps_217 rfl ?_
      refine x_il (pc := 219) dX7_maps_219 (by assumption) (by omega) rfl (by omega) ?_
      rw [hF (so (Lw (W la)) k) (by omega)]
      refine x_iload (pc := 220) dX7_maps_220 rfl ?_
      refine x_aload_n (pc := 222) dX7_maps_222 rfl ?_
      refine x_iload_n (pc := 223) dX7_maps_223 rfl ?_
      refine x_iload (pc := 224) dX7_maps_224 rfl ?_
      refine x_w2 (pc := 226) dX7_maps_226 wX7_at iX7_at kX7_118 (by decide) rfl (Nat.le_of_ble_eq_true rfl) (by assumption) (by omega) (m_at C hz hN D hla (by omega)) ?_
      rw [(hsA _ (by omega)).1]
      refine x_imul (pc := 229) dX7_maps_229 ?_
      refine x_iadd (pc := 230) dX7_maps_230 ?_
      refine x_iload (pc := 231) dX7_maps_231 rfl ?_
      refine x_iadd (pc := 233) dX7_maps_233 ?_
      refine x_istore (pc := 234) dX7_maps_234 (by decide) rfl ?_
      show Ex _ _ _ _ _ _ [_, _, _, _, _, _, _, _, _, _, _] _ _ _ _
      refine x_aload (pc := 236) dX7_maps_236 rfl ?_
      refine x_iload (pc := 238) dX7_maps_238 rfl ?_
      refine x_aload_n (pc := 240) dX7_maps_240 rfl ?_
      refine x_aload (pc := 241) dX7_maps_241 rfl ?_
      refine x_iload (pc := 243) dX7_maps_243 rfl ?_
      refine x_il (pc := 245) (j := frm sA sB (so (Lw (W la)) k) + (x * sA (so (Lw (W la)) k) + j)) dX7_maps_245 a4 (by omega) (by omega) (by omega) ?_
      rw [hr _ (by omega)]
      refine x_aload_n (pc := 246) dX7_maps_246 rfl ?_
      refine x_gf (pc := 247) dX7_maps_247 fX7_16 (by assumption) (by omega) ?_
      refine x_iload_n (pc := 250) dX7_maps_250 rfl ?_
      refine x_iload_n (pc := 251) dX7_maps_251 rfl ?_
      refine x_iload (pc := 252) dX7_maps_252 rfl ?_
      refine x_iload (pc := 254) dX7_maps_254 rfl ?_
      refine x_t4 (pc := 256) dX7_maps_256 wX7_cell sX7_cell kX7_128 (by decide) rfl (Nat.le_of_ble_eq_true rfl) (m_cell (l := lb) (k := k) (r := i) (c := x)) ?_
      refine x_il (pc := 259) dX7_maps_259 (by assumption) (by omega) rfl (by omega) ?_
      refine x_isub (pc := 260) dX7_maps_260 ?_
      refine x_w1 (pc := 261) dX7_maps_261 wX7_rest iX7_rest kX7_132 (by decide) rfl (Nat.le_of_ble_eq_true rfl) (by assumption) (by omega) (m_rest C hz hN hP (by have h8 := rM2_rg (sB := sB) (lb := lb) (i := i) (p := p) (T := T) (Lf := (Lw (W la))) (la := la) (k := k) (j := j) (sA := sA) (by omega) hT hla (by omega) (by omega) htA4 x (frm sA sB (so (Lw (W la)) k) + (x * sA (so (Lw (W la)) k) + j)); have h9 := hT (lb * 128 + k * 16 + i * 4 + x) (by omega); omega)) ?_
      refine x_is (pc := 264) (j := frm sA sB (so (Lw (W la)) k) + (x * sA (so (Lw (W la)) k) + j)) dX7_maps_264 a4 (by omega) (by omega) (by omega) ?_
      refine x_iinc (pc := 265) dX7_maps_265 rfl (by decide) rfl ?_
      show Ex _ _ _ _ _ _ [_, _, _, _, _, _, _, _, _, _, _] _ _ _ _
      refine x_goto (pc := 268) (tgt := 201) dX7_maps_268 (by decide) ?_
      exact ih _ _ _ (t.row (i := m) hm) (fun c hc => by
        rw [up_s]
        show _ = up (rM2 sA sB T (Lw (W la)) p la lb k i j x) (frm sA sB (so (Lw (W la)) k) + (x * sA (so (Lw (W la)) k) + j)) ((rM2 sA sB T (Lw (W la)) p la lb k i j x (frm sA sB (so (Lw (W la)) k) + (x * sA (so (Lw (W la)) k) + j)) - T (lb * 128 + k * 16 + i * 4 + x)) % p) c
        by_cases e : c = frm sA sB (so (Lw (W la)) k) + (x * sA (so (Lw (W la)) k) + j)
        · rw [e, up_s, up_s]
        · rw [up_n _ _ e, up_n _ _ e, hr c hc]) (fun h M1 v10 t1 f1 e0 e1 => hq h M1 v10 t1 ((Ft.rf.up (by omega) (by omega) (by omega) (by omega)).tr f1) (fun z hz9 => (e0 z hz9).trans (up_n _ _ hz9)) e1)
