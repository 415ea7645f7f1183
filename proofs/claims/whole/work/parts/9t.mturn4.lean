theorem k_tuA1 {G : GL} {d : Nat} {hp : HP} {sz p N : Nat} (hz : 615 ≤ sz) (hN : 1 ≤ N ∧ N ≤ 8) {W : Nat → Nat} {S T : Nat → Int} (C : ModA hp p N) (D : MdS hp W S T) (hS : inSm S) {l t z : Nat} (hl : l < 8) (ht : t < N) {b : Bool} {Q : Option AV → HP → Nat → Prop} {v6 v7 v9 v10 v11 v12 v13 v14 v15 v16 v17 v18 v19 : AV} (hq : Ex G (d + 3) 0 0 mX7_turn 156 [vr 92, vi l, vi t, vi z, vi (bz (decide (0 < t))), vi (bz (decide (t + 1 < N))), v6, v7, vi (bz b), v9, v10, v11, v12, v13, v14, v15, v16, v17, v18, v19] [vi ((lx (szs S l) t) : Nat)] hp sz Q) : Ex G (d + 3) 0 0 mX7_turn 139 [vr 92, vi l, vi t, vi z, vi (bz (decide (0 < t))), vi (bz (decide (t + 1 < N))), v6, v7, vi (bz b), v9, v10, v11, v12, v13, v14, v15, v16, v17, v18, v19] [] hp sz Q := by
  obtain ⟨C0, C1, C2, C3, C4, C5, C6, C7, C8, C11, C12, C13, C14, C15, C16, C17, C18, C19, C20, C21, C22, C23⟩ := id C
  have hob := C0.ob
  obtain ⟨D1, D2, D3, D4⟩ := id D
  refine x_iload (pc := 139) dX7_turn_139 rfl ?_
  refine x_if_eq (pc := 141) (tgt := 155) dX7_turn_141 (by decide) (bz_rg _) (fun c141 => ?_) (fun c141 => ?_)
  · have hc9 := bz_e c141
    refine x_iconst (pc := 155) dX7_turn_155 ?_
    first
      | exact Ex.stk (show (((lx (szs S l) t) : Nat) : Int) = 0 from by unfold lx; rw [if_neg hc9]; rfl) hq
      | exact Ex.stk (show (((lx (szs S l) t) : Nat) : Int) = ((szs S l (t - 1) : Nat) : Int) from by unfold lx; rw [if_pos hc9]) hq
  · have hc9 := bz_n c141
    refine x_aload_n (pc := 144) dX7_turn_144 rfl ?_
    refine x_iload_n (pc := 145) dX7_turn_145 rfl ?_
    refine x_iload_n (pc := 146) dX7_turn_146 rfl ?_
    refine x_iconst (pc := 147) dX7_turn_147 ?_
    refine x_isub (pc := 148) dX7_turn_148 ?_
    rw [show (t : Int) - 1 = ((t - 1 : Nat) : Int) by omega]
    refine x_w2 (pc := 149) dX7_turn_149 wX7_at iX7_at kX7_118 (by decide) rfl (Nat.le_of_ble_eq_true rfl) (by assumption) (by omega) (m_at C hz hN D hl (k := (t - 1)) (by omega)) ?_
    rw [(szs_8 hS hl (t - 1) (by omega)).1]
    refine x_goto (pc := 152) (tgt := 156) dX7_turn_152 (by decide) ?_
    first
      | exact Ex.stk (show (((lx (szs S l) t) : Nat) : Int) = 0 from by unfold lx; rw [if_neg hc9]; rfl) hq
      | exact Ex.stk (show (((lx (szs S l) t) : Nat) : Int) = ((szs S l (t - 1) : Nat) : Int) from by unfold lx; rw [if_pos hc9]) hq

theorem k_tuA2 {G : GL} {d : Nat} {hp : HP} {sz p N : Nat} (hz : 615 ≤ sz) (hN : 1 ≤ N ∧ N ≤ 8) {W : Nat → Nat} {S T : Nat → Int} (C : ModA hp p N) (D : MdS hp W S T) (hS : inSm S) {l t z : Nat} (hl : l < 8) (ht : t < N) {b : Bool} {Q : Option AV → HP → Nat → Prop} {v6 v7 v9 v10 v11 v12 v13 v14 v15 v16 v17 v18 v19 : AV} (hq : Ex G (d + 3) 0 0 mX7_turn 175 [vr 92, vi l, vi t, vi z, vi (bz (decide (0 < t))), vi (bz (decide (t + 1 < N))), v6, v7, vi (bz b), v9, v10, v11, v12, v13, v14, v15, v16, v17, v18, v19] [vi ((ry N (szs S l) t) : Nat)] hp sz Q) : Ex G (d + 3) 0 0 mX7_turn 158 [vr 92, vi l, vi t, vi z, vi (bz (decide (0 < t))), vi (bz (decide (t + 1 < N))), v6, v7, vi (bz b), v9, v10, v11, v12, v13, v14, v15, v16, v17, v18, v19] [] hp sz Q := by
  obtain ⟨C0, C1, C2, C3, C4, C5, C6, C7, C8, C11, C12, C13, C14, C15, C16, C17, C18, C19, C20, C21, C22, C23⟩ := id C
  have hob := C0.ob
  obtain ⟨D1, D2, D3, D4⟩ := id D
  refine x_iload (pc := 158) dX7_turn_158 rfl ?_
  refine x_if_eq (pc := 160) (tgt := 174) dX7_turn_160 (by decide) (bz_rg _) (fun c160 => ?_) (fun c160 => ?_)
  · have hc9 := bz_e c160
    refine x_iconst (pc := 174) dX7_turn_174 ?_
    first
      | exact Ex.stk (show (((ry N (szs S l) t) : Nat) : Int) = 0 from by unfold ry; rw [if_neg hc9]; rfl) hq
      | exact Ex.stk (show (((ry N (szs S l) t) : Nat) : Int) = ((szs S l (t + 1) : Nat) : Int) from by unfold ry; rw [if_pos hc9]) hq
  · have hc9 := bz_n c160
    refine x_aload_n (pc := 163) dX7_turn_163 rfl ?_
    refine x_iload_n (pc := 164) dX7_turn_164 rfl ?_
    refine x_iload_n (pc := 165) dX7_turn_165 rfl ?_
    refine x_iconst (pc := 166) dX7_turn_166 ?_
    refine x_iadd (pc := 167) dX7_turn_167 ?_
    rw [show (t : Int) + 1 = ((t + 1 : Nat) : Int) by omega]
    refine x_w2 (pc := 168) dX7_turn_168 wX7_at iX7_at kX7_118 (by decide) rfl (Nat.le_of_ble_eq_true rfl) (by assumption) (by omega) (m_at C hz hN D hl (k := (t + 1)) (by omega)) ?_
    rw [(szs_8 hS hl (t + 1) (by omega)).1]
    refine x_goto (pc := 171) (tgt := 175) dX7_turn_171 (by decide) ?_
    first
      | exact Ex.stk (show (((ry N (szs S l) t) : Nat) : Int) = 0 from by unfold ry; rw [if_neg hc9]; rfl) hq
      | exact Ex.stk (show (((ry N (szs S l) t) : Nat) : Int) = ((szs S l (t + 1) : Nat) : Int) from by unfold ry; rw [if_pos hc9]) hq

theorem k_tuC1 {G : GL} {d : Nat} {hp : HP} {sz N : Nat} (hN : 1 ≤ N ∧ N ≤ 8) {l t z w : Nat} (ht : t < N) (hw : w < 128) {b : Bool} {Q : Option AV → HP → Nat → Prop} {v6 v7 v9 v10 v11 v12 v15 v16 v17 v18 v19 : AV} {i13 : Int} (hq : Ex G (d + 3) 0 0 mX7_turn 433 [vr 92, vi l, vi t, vi z, vi (bz (decide (0 < t))), vi (bz (decide (t + 1 < N))), v6, v7, vi (bz b), v9, v10, v11, v12, vi i13, vi ((w ^^^ (if 0 < t then 2 ^ (t - 1) else 0) : Nat) : Int), v15, v16, v17, v18, v19] [] hp sz Q) : Ex G (d + 3) 0 0 mX7_turn 418 [vr 92, vi l, vi t, vi z, vi (bz (decide (0 < t))), vi (bz (decide (t + 1 < N))), v6, v7, vi (bz b), v9, v10, v11, v12, vi i13, vi w, v15, v16, v17, v18, v19] [] hp sz Q := by
  refine x_iload (pc := 418) dX7_turn_418 rfl ?_
  refine x_if_eq (pc := 420) (tgt := 433) dX7_turn_420 (by decide) (bz_rg _) (fun c420 => ?_) (fun c420 => ?_)
  · have hc9 := bz_e c420
    first
      | (rw [show (w ^^^ (if 0 < t then 2 ^ (t - 1) else 0)) = w from by rw [if_neg hc9]; exact Nat.xor_zero _] at hq; exact hq)
      | (rw [show (w ^^^ (if 0 < t then 2 ^ (t - 1) else 0)) = w ^^^ 2 ^ (t - 1) from by rw [if_pos hc9]] at hq; exact hq)
  · have hc9 := bz_n c420
    refine x_iload (pc := 423) dX7_turn_423 rfl ?_
    refine x_iconst (pc := 425) dX7_turn_425 ?_
    refine x_iload_n (pc := 426) dX7_turn_426 rfl ?_
    refine x_iconst (pc := 427) dX7_turn_427 ?_
    refine x_isub (pc := 428) dX7_turn_428 ?_
    rw [show (t : Int) - 1 = ((t - 1 : Nat) : Int) by omega]
    refine x_ishl1 (pc := 429) dX7_turn_429 (by omega) ?_
    refine x_ixor (pc := 430) dX7_turn_430 ?_
    rw [xr_nat hw (by omega)]
    refine x_istore (pc := 431) dX7_turn_431 (by decide) rfl ?_
    show Ex _ _ _ _ _ _ [_, _, _, _, _, _, _, _, _, _, _, _, _, _, _, _, _, _, _, _] _ _ _ _
    first
      | (rw [show (w ^^^ (if 0 < t then 2 ^ (t - 1) else 0)) = w from by rw [if_neg hc9]; exact Nat.xor_zero _] at hq; exact hq)
      | (rw [show (w ^^^ (if 0 < t then 2 ^ (t - 1) else 0)) = w ^^^ 2 ^ (t - 1) from by rw [if_pos hc9]] at hq; exact hq)

theorem k_tuC2 {G : GL} {d : Nat} {hp : HP} {sz N : Nat} (hN : 1 ≤ N ∧ N ≤ 8) {l t z w : Nat} (ht : t < N) (hw : w < 128) {b : Bool} {Q : Option AV → HP → Nat → Prop} {v6 v7 v9 v10 v11 v12 v15 v16 v17 v18 v19 : AV} {i13 : Int} (hq : Ex G (d + 3) 0 0 mX7_turn 446 [vr 92, vi l, vi t, vi z, vi (bz (decide (0 < t))), vi (bz (decide (t + 1 < N))), v6, v7, vi (bz b), v9, v10, v11, v12, vi i13, vi ((w ^^^ (if t + 1 < N then 2 ^ t else 0) : Nat) : Int), v15, v16, v17, v18, v19] [] hp sz Q) : Ex G (d + 3) 0 0 mX7_turn 433 [vr 92, vi l, vi t, vi z, vi (bz (decide (0 < t))), vi (bz (decide (t + 1 < N))), v6, v7, vi (bz b), v9, v10, v11, v12, vi i13, vi w, v15, v16, v17, v18, v19] [] hp sz Q := by
  refine x_iload (pc := 433) dX7_turn_433 rfl ?_
  refine x_if_eq (pc := 435) (tgt := 446) dX7_turn_435 (by decide) (bz_rg _) (fun c435 => ?_) (fun c435 => ?_)
  · have hc9 := bz_e c435
    first
      | (rw [show (w ^^^ (if t + 1 < N then 2 ^ t else 0)) = w from by rw [if_neg hc9]; exact Nat.xor_zero _] at hq; exact hq)
      | (rw [show (w ^^^ (if t + 1 < N then 2 ^ t else 0)) = w ^^^ 2 ^ t from by rw [if_pos hc9]] at hq; exact hq)
  · have hc9 := bz_n c435
    refine x_iload (pc := 438) dX7_turn_438 rfl ?_
    refine x_iconst (pc := 440) dX7_turn_440 ?_
    refine x_iload_n (pc := 441) dX7_turn_441 rfl ?_
    refine x_ishl1 (pc := 442) dX7_turn_442 (by omega) ?_
    refine x_ixor (pc := 443) dX7_turn_443 ?_
    rw [xr_nat hw (by omega)]
    refine x_istore (pc := 444) dX7_turn_444 (by decide) rfl ?_
    show Ex _ _ _ _ _ _ [_, _, _, _, _, _, _, _, _, _, _, _, _, _, _, _, _, _, _, _] _ _ _ _
    first
      | (rw [show (w ^^^ (if t + 1 < N then 2 ^ t else 0)) = w from by rw [if_neg hc9]; exact Nat.xor_zero _] at hq; exact hq)
      | (rw [show (w ^^^ (if t + 1 < N then 2 ^ t else 0)) = w ^^^ 2 ^ t from by rw [if_pos hc9]] at hq; exact hq)

theorem xor_lt1 {N w t : Nat} (hN : N ≤ 8) (ht : t < N) (hw : w < 128) : (w ^^^ (if 0 < t then 2 ^ (t - 1) else 0)) < 128 := by
  by_cases e : 0 < t
  · rw [if_pos e]; exact xor_lt hw (by omega)
  · rw [if_neg e, Nat.xor_zero]; exact hw
theorem xor_lt2 {N w t : Nat} (hN : N ≤ 8) (hw : w < 128) : (w ^^^ (if t + 1 < N then 2 ^ t else 0)) < 128 := by
  by_cases e : t + 1 < N
  · rw [if_pos e]; exact xor_lt hw (by omega)
  · rw [if_neg e, Nat.xor_zero]; exact hw
def TuM {K : Type} [Lean.Grind.CommRing K] (f : Int → K) (p N l t z : Nat) (S T : Nat → Int) (W : Nat → Nat) (b : Bool) (h : HP) (v : AV) : Prop := ∃ (M1 : Nat → Nat → Int) (ld1 : Nat → Int) (k1 : Nat) (Kf : Nat → Nat), k1 ≤ ((lx (szs S l) t) + (ry N (szs S l) t)) ∧ inQ k1 ((lx (szs S l) t) + (ry N (szs S l) t)) M1 p ∧ RK ((lx (szs S l) t) + (ry N (szs S l) t)) k1 (fun i => tr ((lx (szs S l) t) + (ry N (szs S l) t)) f (M1 i)) (fun r => (ld1 r).toNat) ∧ Lds k1 ((lx (szs S l) t) + (ry N (szs S l) t)) k1 M1 ld1 ∧ (∀ r r', r < r' → r' < k1 → ld1 r < ld1 r') ∧ (∀ v, Spn k1 (fun _ => True) (fun i => tr ((lx (szs S l) t) + (ry N (szs S l) t)) f (M1 i)) v ↔ Spn (szs S l t) (fun _ => True) (fun i => tr ((lx (szs S l) t) + (ry N (szs S l) t)) f (gat b (nlT T l) t (lx (szs S l) t) i)) v) ∧ (∀ i, i < nf (hdm ld1 k1) ((lx (szs S l) t) + (ry N (szs S l) t)) → Kf i < ((lx (szs S l) t) + (ry N (szs S l) t)) ∧ hdm ld1 k1 (Kf i) = -1 ∧ nf (hdm ld1 k1) (Kf i) = i) ∧
  ((4 < nf (hdm ld1 k1) ((lx (szs S l) t) + (ry N (szs S l) t)) ∧ v = vi (-1) ∧ TX h p N W S T) ∨ (nf (hdm ld1 k1) ((lx (szs S l) t) + (ry N (szs S l) t)) ≤ 4 ∧ v = vi (nf (hdm ld1 k1) ((lx (szs S l) t) + (ry N (szs S l) t)) : Nat) ∧ ∃ S1 T1 E0 E, TX h p N (up W z ((W l ^^^ (if 0 < t then 2 ^ (t - 1) else 0)) ^^^ (if t + 1 < N then 2 ^ t else 0))) S1 T1 ∧ (∀ j, j < 8 → S1 (8 * z + j) = if j = t then ((nf (hdm ld1 k1) ((lx (szs S l) t) + (ry N (szs S l) t)) : Nat) : Int) else S (8 * l + j)) ∧ (∀ i, (i < 8 * z ∨ 8 * z + 8 ≤ i) → S1 i = S i) ∧ (∀ i, i < 128 → E0 i = T (128 * l + i)) ∧ FfP b N t (lx (szs S l) t) (ry N (szs S l) t) (nf (hdm ld1 k1) ((lx (szs S l) t) + (ry N (szs S l) t))) ((lx (szs S l) t) + (ry N (szs S l) t)) 0 (fun c ix => vvS p M1 ld1 c (Kf ix) (if c = Kf ix then 1 else 0) k1) E0 E ∧ (∀ i, i < 128 → T1 (128 * z + i) = E i) ∧ ∀ i, (i < 128 * z ∨ 128 * z + 128 ≤ i) → T1 i = T i))
/-- what turn may change -/
def Fu (hp h : HP) : Prop := ∀ x, (x < 92 ∨ 395 < x) → h x = hp x

set_option maxRecDepth 4000 in
theorem k_tuD {K : Type} [Lean.Grind.CommRing K] {f : Int → K} {G : GL} {d : Nat} {sz p N : Nat} (hf : Iot p f) (hz : 615 ≤ sz) (hN : 1 ≤ N ∧ N ≤ 8) (hP : isP p) {W : Nat → Nat} {S T : Nat → Int} (hS : inSm S) (hT : inTm T p) {l t z : Nat} (hl : l < 8) (ht : t < N) (hz8 : z < 8) {b : Bool} {Q : Option AV → HP → Nat → Prop} {M : Nat → Nat → Int} {ld : Nat → Int} {m : Nat} (hm : m ≤ 8) (hkw : m ≤ ((lx (szs S l) t) + (ry N (szs S l) t))) (hM : inQ m ((lx (szs S l) t) + (ry N (szs S l) t)) M p) (hR : RK ((lx (szs S l) t) + (ry N (szs S l) t)) m (fun i => tr ((lx (szs S l) t) + (ry N (szs S l) t)) f (M i)) (fun r => (ld r).toNat)) (hL : Lds m ((lx (szs S l) t) + (ry N (szs S l) t)) m M ld) (hI : ∀ r r', r < r' → r' < m → ld r < ld r') (hSp : ∀ v, Spn m (fun _ => True) (fun i => tr ((lx (szs S l) t) + (ry N (szs S l) t)) f (M i)) v ↔ Spn (szs S l t) (fun _ => True) (fun i => tr ((lx (szs S l) t) + (ry N (szs S l) t)) f (gat b (nlT T l) t (lx (szs S l) t) i)) v) {Kf : Nat → Nat} (hKf : ∀ i, i < nf (hdm ld m) ((lx (szs S l) t) + (ry N (szs S l) t)) → Kf i < ((lx (szs S l) t) + (ry N (szs S l) t)) ∧ hdm ld m (Kf i) = -1 ∧ nf (hdm ld m) (Kf i) = i) {f0 : Nat → Int} (hF0 : ∀ i, i < nf (hdm ld m) ((lx (szs S l) t) + (ry N (szs S l) t)) → f0 i = (Kf i : Int)) {F : Nat → Int} {Qs : Nat → Nat → Int} {g : Nat → Option Nat} {σ : Nat → Nat} {hp : HP} (t5 : TS hp p N W S T M ld m ((lx (szs S l) t) + (ry N (szs S l) t)) g σ F Qs) {A E : Nat → Int} (Nw : NwA hp A E) (A0 : hp 360 = ar 0 9 f0) (hnn : (nf (hdm ld m) ((lx (szs S l) t) + (ry N (szs S l) t))) ≤ 4) {i12 : Int} {v14 v6 v7 v15 v16 v17 v18 v19 : AV} (hq : ∀ v h, TuM f p N l t z S T W b h v → Fu hp h → (∃ A E, NwA h A E) → (∃ f0, h 360 = ar 0 9 f0) → Q (some v) h sz) : Ex G (d + 3) 0 0 mX7_turn 397 [vr 92, vi l, vi t, vi z, vi (bz (decide (0 < t))), vi (bz (decide (t + 1 < N))), v6, v7, vi (bz b), vi (lx (szs S l) t), vi (ry N (szs S l) t), vi (szs S l t), vi i12, vi (nf (hdm ld m) ((lx (szs S l) t) + (ry N (szs S l) t))), v14, v15, v16, v17, v18, v19] [] hp sz Q := by
  have hlx : (lx (szs S l) t) ≤ 4 := by unfold lx; split; exact szs_4 hS hl _; omega
  have hry : (ry N (szs S l) t) ≤ 4 := by unfold ry; split; exact szs_4 hS hl _; omega
  have hpl := hP.le
  obtain ⟨C, D, Mo, FA, ⟨gq, SA, SB⟩, SC⟩ := id t5
  obtain ⟨C0, C1, C2, C3, C4, C5, C6, C7, C8, C11, C12, C13, C14, C15, C16, C17, C18, C19, C20, C21, C22, C23⟩ := id C
  have hob := C0.ob
  obtain ⟨D1, D2, D3, D4⟩ := id D
  obtain ⟨O1, O2, O3, O4, O5, O6⟩ := id Mo
  have hwl := D4 l hl
  refine x_aload_n (pc := 397) dX7_turn_397 rfl ?_
  refine x_iload_n (pc := 398) dX7_turn_398 rfl ?_
  refine x_p1 (pc := 399) dX7_turn_399 wX7_copies iX7_copies kX7_139 (by decide) rfl (Nat.le_of_ble_eq_true rfl) (by assumption) (by omega) (m_copies C hz hN D Nw (l := l) hl) (fun h399 e399 => ?_)
  obtain ⟨C5, D5, f399, A1, E1, n1, a1, e1⟩ := e399
  obtain ⟨nA, nE⟩ := id n1
  have hob9 := C5.1.ob
  obtain ⟨C0', C1', C2', C3', C4', C5', C6', C7', C8', C11', C12', C13', C14', C15', C16', C17', C18', C19', C20', C21', C22', C23'⟩ := id C5
  refine x_aload_n (pc := 402) dX7_turn_402 rfl ?_
  refine x_gf (pc := 403) dX7_turn_403 fX7_19 (by assumption) (by omega) ?_
  refine x_iload_n (pc := 406) dX7_turn_406 rfl ?_
  refine x_iload (pc := 407) dX7_turn_407 rfl ?_
  refine x_is (pc := 409) dX7_turn_409 (by assumption) (by omega) rfl (by omega) ?_
  have t7 : TS (up h399 96 (ar 0 8 (up A1 t ((nf (hdm ld m) ((lx (szs S l) t) + (ry N (szs S l) t))) : Nat)))) p N W S T M ld m ((lx (szs S l) t) + (ry N (szs S l) t)) g σ F Qs := ⟨C5.keep (up_n _ _ (by omega)), D5.keep (fun x h1 h2 => up_n _ _ (by omega)), Mo.keep ((up_n _ _ (by omega)).trans (f399 _ (by omega))) (fun x h1 h2 => (up_n _ _ (by omega)).trans (f399 _ (by omega))), ((up_n _ _ (by omega)).trans (f399 _ (by omega))).trans FA, ⟨gq, ((up_n _ _ (by omega)).trans (f399 _ (by omega))).trans SA, SB⟩, fun i hi => ((up_n _ _ (by omega)).trans (f399 _ (by omega))).trans (SC i hi)⟩
  have n7 := n1.upA (A' := up A1 t ((nf (hdm ld m) ((lx (szs S l) t) + (ry N (szs S l) t))) : Nat))
  have a7 : (up h399 96 (ar 0 8 (up A1 t ((nf (hdm ld m) ((lx (szs S l) t) + (ry N (szs S l) t))) : Nat)))) 360 = ar 0 9 f0 := ((up_n _ _ (by omega)).trans (f399 _ (by omega))).trans A0
  have F7 : ∀ x, (x < 92 ∨ 395 < x) → (up h399 96 (ar 0 8 (up A1 t ((nf (hdm ld m) ((lx (szs S l) t) + (ry N (szs S l) t))) : Nat)))) x = hp x := fun x hx => (up_n _ _ (by omega)).trans (f399 x (by omega))
  generalize up h399 96 (ar 0 8 (up A1 t ((nf (hdm ld m) ((lx (szs S l) t) + (ry N (szs S l) t))) : Nat))) = hD at t7 n7 a7 F7 ⊢
  obtain ⟨C, D, Mo, FA, ⟨gq, SA, SB⟩, SC⟩ := id t7
  obtain ⟨C0, C1, C2, C3, C4, C5, C6, C7, C8, C11, C12, C13, C14, C15, C16, C17, C18, C19, C20, C21, C22, C23⟩ := id C
  have hob := C0.ob
  obtain ⟨D1, D2, D3, D4⟩ := id D
  obtain ⟨O1, O2, O3, O4, O5, O6⟩ := id Mo
  refine x_aload_n (pc := 410) dX7_turn_410 rfl ?_
  refine x_gf (pc := 411) dX7_turn_411 fX7_9 (by assumption) (by omega) ?_
  refine x_iload_n (pc := 414) dX7_turn_414 rfl ?_
  refine x_il (pc := 415) dX7_turn_415 (by assumption) (by omega) rfl (by omega) ?_
  refine x_istore (pc := 416) dX7_turn_416 (by decide) rfl ?_
  show Ex _ _ _ _ _ _ [_, _, _, _, _, _, _, _, _, _, _, _, _, _, _, _, _, _, _, _] _ _ _ _
  refine k_tuC1 (d := d) hN ht hwl ?_
  refine k_tuC2 (d := d) hN ht (xor_lt1 hN.2 ht hwl) ?_
  refine x_iconst (pc := 446) dX7_turn_446 ?_
  refine x_istore (pc := 447) dX7_turn_447 (by decide) rfl ?_
  show Ex _ _ _ _ _ _ [_, _, _, _, _, _, _, _, _, _, _, _, _, _, _, _, _, _, _, _] _ _ _ _
  have key := k_tc1 (G := G) (d := d) (l := l) (t := t) (z := z) (b := b) (x := (lx (szs S l) t)) (u := (ry N (szs S l) t)) (mm := (szs S l t)) (nn := (nf (hdm ld m) ((lx (szs S l) t) + (ry N (szs S l) t)))) (i12 := i12) (w3 := ((((W l ^^^ (if 0 < t then 2 ^ (t - 1) else 0)) ^^^ (if t + 1 < N then 2 ^ t else 0)) : Nat) : Int)) (v6 := v6) (v7 := v7) (v17 := v17) (v18 := v18) (v19 := v19) (E1 := E1) (Q := Q) hz hN ht t7.1 (fun v16 => ?_) 0 (by omega) v16
  · rw [clE_0, show up hD 97 (ar 0 128 E1) = hD from by
      funext q
      by_cases e : q = 97
      · rw [e, up_s, n7.2]
      · rw [up_n _ _ e]] at key
    exact key
  · have tc := t7.k6b (h' := up hD 97 (ar 0 128 (clE N t 4 0 E1))) (fun x hx => up_n _ _ hx)
    have bc := up_s hD 97 (ar 0 128 (clE N t 4 0 E1))
    have ac : (up hD 97 (ar 0 128 (clE N t 4 0 E1))) 360 = ar 0 9 f0 := (up_n _ _ (by omega)).trans a7
    have nAc : (up hD 97 (ar 0 128 (clE N t 4 0 E1))) 96 = ar 0 8 (up A1 t ((nf (hdm ld m) ((lx (szs S l) t) + (ry N (szs S l) t))) : Nat)) := (up_n _ _ (by omega)).trans n7.1
    have F8 : ∀ x, (x < 92 ∨ 395 < x) → (up hD 97 (ar 0 128 (clE N t 4 0 E1))) x = hp x := fun x hx => (up_n _ _ (by omega)).trans (F7 x hx)
    generalize up hD 97 (ar 0 128 (clE N t 4 0 E1)) = hE at tc bc ac nAc F8 ⊢
    obtain ⟨C, D, Mo, FA, ⟨gq, SA, SB⟩, SC⟩ := id tc
    obtain ⟨C0, C1, C2, C3, C4, C5, C6, C7, C8, C11, C12, C13, C14, C15, C16, C17, C18, C19, C20, C21, C22, C23⟩ := id C
    have hob := C0.ob
    obtain ⟨D1, D2, D3, D4⟩ := id D
    obtain ⟨O1, O2, O3, O4, O5, O6⟩ := id Mo
    refine x_iconst (pc := 518) dX7_turn_518 ?_
    refine x_istore (pc := 519) dX7_turn_519 (by decide) rfl ?_
    show Ex _ _ _ _ _ _ [_, _, _, _, _, _, _, _, _, _, _, _, _, _, _, _, _, _, _, _] _ _ _ _
    refine k_tf1 (d := d) (E0 := E1) hz hN hP ht hlx hry hnn (fun q => by unfold lx at q; split at q <;> omega) (fun q => by unfold ry at q; split at q <;> omega) hm rfl hM (fun r hr => ⟨(hL r hr).1, (hL r hr).2.1⟩) (Kf := Kf) (fun i hi => ⟨hF0 i hi, (hKf i hi).1⟩) 0 (by omega) hE _ _ _ _ _ tc ac bc FfP.clear (fun h9 E9 v16 v17 v18 v19 t9 a9 b9 fr9 ff9 => ?_)
    have nA9 : h9 96 = ar 0 8 (up A1 t ((nf (hdm ld m) ((lx (szs S l) t) + (ry N (szs S l) t))) : Nat)) := (fr9 _ (by omega)).trans nAc
    obtain ⟨C, D, Mo, FA, ⟨gq, SA, SB⟩, SC⟩ := id t9
    obtain ⟨C0, C1, C2, C3, C4, C5, C6, C7, C8, C11, C12, C13, C14, C15, C16, C17, C18, C19, C20, C21, C22, C23⟩ := id C
    have hob := C0.ob
    obtain ⟨D1, D2, D3, D4⟩ := id D
    obtain ⟨O1, O2, O3, O4, O5, O6⟩ := id Mo
    refine x_aload_n (pc := 694) dX7_turn_694 rfl ?_
    refine x_iload_n (pc := 695) dX7_turn_695 rfl ?_
    refine x_iload (pc := 696) dX7_turn_696 rfl ?_
    refine x_p2 (pc := 698) dX7_turn_698 wX7_becomes iX7_becomes kX7_143 (by decide) rfl (Nat.le_of_ble_eq_true rfl) (by assumption) (by omega) (m_becomes C hz hN D ⟨nA9, b9⟩ (l := z) (w := ((W l ^^^ (if 0 < t then 2 ^ (t - 1) else 0)) ^^^ (if t + 1 < N then 2 ^ t else 0))) hz8 (xor_lt2 hN.2 (xor_lt1 hN.2 ht hwl))) (fun h698 e698 => ?_)
    obtain ⟨C5', f5, S2, T2, D5, s2, t2⟩ := e698
    refine x_iload (pc := 701) dX7_turn_701 rfl ?_
    refine x_iret (pc := 703) dX7_turn_703 rfl (by
      refine hq _ _ ⟨M, ld, m, Kf, hkw, hM, hR, hL, hI, hSp, hKf, Or.inr ⟨hnn, rfl, S2, T2, E1, E9, ⟨M, ld, m, _, g, σ, F, Qs, C5', D5, Mo.keep (f5 _ (by omega)) (fun x h1 h2 => f5 x (by omega)), (f5 _ (by omega)).trans FA, ⟨gq, (f5 _ (by omega)).trans SA, SB⟩, fun i hi => (f5 _ (by omega)).trans (SC i hi)⟩, fun j hj => ?_, fun i hi => ?_, e1, ff9, fun i hi => ?_, fun i hi => ?_⟩⟩ (fun x hx => (f5 x (by omega)).trans ((fr9 x (by omega)).trans (F8 x hx))) ⟨_, _, (f5 _ (by omega)).trans nA9, (f5 _ (by omega)).trans b9⟩ ⟨_, (f5 _ (by omega)).trans a9⟩
      · rw [s2, if_pos (by omega), show 8 * z + j - 8 * z = j by omega]
        by_cases e : j = t
        · rw [if_pos e, e, up_s]
        · rw [if_neg e, up_n _ _ e, a1 j hj]
      · rw [s2, if_neg (by omega)]
      · rw [t2, if_pos (by omega), show 128 * z + i - 128 * z = i by omega]
      · rw [t2, if_neg (by omega)])
