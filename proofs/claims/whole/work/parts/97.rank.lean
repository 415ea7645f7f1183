def ClA (h : HP) (Cc Ll : Nat → Int) : Prop := h 396 = ar 0 4 Cc ∧ h 397 = ar 0 4 Ll
def Fk6 (hp h : HP) : Prop := ∀ x, x ≠ 92 → (x < 98 ∨ x = 360 ∨ x = 362 ∨ 397 < x) → h x = hp x
theorem Fk6.rf {hp : HP} : Fk6 hp hp := fun _ _ _ => rfl
theorem Fk6.tr {h1 h2 h3 : HP} (a : Fk6 h1 h2) (b : Fk6 h2 h3) : Fk6 h1 h3 := fun x e1 e2 => (b x e1 e2).trans (a x e1 e2)
theorem Ft.k6 {hp h : HP} (f : Ft hp h) : Fk6 hp h := fun x e1 e2 => f x e1 (by omega)
theorem Fk6.up {hp h : HP} {a : Nat} {c : AC} (f : Fk6 hp h) (h1 : 396 ≤ a) (h2 : a ≤ 397) : Fk6 hp (up h a c) := fun x e1 e2 => (up_n _ _ (by omega)).trans (f x e1 e2)
theorem upIf {α : Type} (g c : Nat → α) (i : Nat) : up (fun z => if z < i then g z else c z) i (g i) = fun z => if z < i + 1 then g z else c z := by
  funext z
  by_cases e : z = i
  · subst e; rw [up_s, if_pos (by omega)]
  · rw [up_n _ _ e]
    by_cases e2 : z < i
    · rw [if_pos e2, if_pos (by omega)]
    · rw [if_neg e2, if_neg (by omega)]
def ldS (T : Nat → Int) (p l k : Nat) (col : Nat → Int) (i : Nat) : Nat → Int
  | 0 => 0
  | j + 1 => (ldS T p l k col i j + T (l * 128 + k * 16 + i * 4 + j) * col j) % p
theorem ldS_rg {T : Nat → Int} {p l k : Nat} {col : Nat → Int} {i : Nat} (hp : 0 < p) : ∀ j, 0 ≤ ldS T p l k col i j ∧ ldS T p l k col i j < p
  | 0 => ⟨Int.le_refl _, by show (0 : Int) < p; omega⟩
  | j + 1 => emod_rg hp
theorem TS.keep {h h' : HP} {p N : Nat} {W : Nat → Nat} {S T : Nat → Int} {M : Nat → Nat → Int} {ld : Nat → Int} {m w : Nat} {g : Nat → Option Nat} {σ : Nat → Nat} {F : Nat → Int} {Qs : Nat → Nat → Int} (t : TS h p N W S T M ld m w g σ F Qs) (f : ∀ x, x ≤ 395 → h' x = h x) : TS h' p N W S T M ld m w g σ F Qs := by
  obtain ⟨t1, t2, t3, t4, ⟨g', t5, t5b⟩, t6⟩ := t
  exact ⟨t1.keep (f _ (by omega)), t2.keep (fun x _ h2 => f x (by omega)), t3.keep (f _ (by omega)) (fun x _ h2 => f x (by omega)), (f _ (by omega)).trans t4, ⟨g', (f _ (by omega)).trans t5, t5b⟩, fun i hi => (f _ (by omega)).trans (t6 i hi)⟩

theorem k_rank6 {G : GL} {d : Nat} {sz p N : Nat} (hz : 615 ≤ sz) (hN : 1 ≤ N ∧ N ≤ 8) (hP : isP p) {W : Nat → Nat} {S T : Nat → Int} (hT : inTm T p) {l a b : Nat} (hl : l < 8) {s : Nat → Nat} (hs : sz8 S l s) (ha : a < N) (hb : b < N) {Q : Option AV → HP → Nat → Prop} {hp : HP} {M : Nat → Nat → Int} {ld : Nat → Int} {m w : Nat} {g : Nat → Option Nat} {σ : Nat → Nat} {F : Nat → Int} {Qs : Nat → Nat → Int} (t : TS hp p N W S T M ld m w g σ F Qs) {col L0 : Nat → Int} (A1 : hp 396 = ar 0 4 col) (hcol : ∀ j, j < 4 → 0 ≤ col j ∧ col j < p) {x q k r i : Nat} (hk : k < 7) (hq8 : q < 8) (hi : i < 4) (hq : Ex G (d + 3) 0 0 mX7_rank 257 [vr 92, vi l, vi a, vi b, vi x, vi q, vi k, vi r, vi i, vi (s q : Nat)] [] (up hp 397 (ar 0 4 (up L0 i (ldS T p l k col i (s q))))) sz Q) : ∀ j, j ≤ s q → Ex G (d + 3) 0 0 mX7_rank 197 [vr 92, vi l, vi a, vi b, vi x, vi q, vi k, vi r, vi i, vi j] [] (up hp 397 (ar 0 4 (up L0 i (ldS T p l k col i j)))) sz Q := by
  have hpl := hP.le
  have hs4 := (hs q hq8).2
  refine down ?_ (fun j hj ih => ?_)
  · have t' := t.keep (h' := (up hp 397 (ar 0 4 (up L0 i (ldS T p l k col i (s q)))))) (fun x hx => up_n _ _ (by omega))
    obtain ⟨C, D, Mo, FA, ⟨gq, SA, SB⟩, SC⟩ := id t'
    obtain ⟨C0, C1, C2, C3, C4, C5, C6, C7, C8, C11, C12, C13, C14, C15, C16, C17, C18, C19, C20, C21, C22, C23⟩ := id C
    have hob := C0.ob
    obtain ⟨D1, D2, D3, D4⟩ := id D
    obtain ⟨O1, O2, O3, O4, O5, O6⟩ := id Mo
    have hC := (up_n hp (ar 0 4 (up L0 i (ldS T p l k col i (s q)))) (show 396 ≠ 397 by omega)).trans A1
    have hL := up_s hp 397 (ar 0 4 (up L0 i (ldS T p l k col i (s q))))
    refine x_iload (pc := 197) dX7_rank_197 rfl ?_
    refine x_aload_n (pc := 199) dX7_rank_199 rfl ?_
    refine x_iload_n (pc := 200) dX7_rank_200 rfl ?_
    refine x_iload (pc := 201) dX7_rank_201 rfl ?_
    refine x_w2 (pc := 203) dX7_rank_203 wX7_at iX7_at kX7_118 (by decide) rfl (Nat.le_of_ble_eq_true rfl) (by assumption) (by omega) (m_at C hz hN D hl (by omega)) ?_
    rw [(hs _ (by omega)).1]
    refine x_icmp_ge (pc := 206) (tgt := 257) dX7_rank_206 (by decide) (by omega) (by omega) (fun c206 => ?_) (fun c206 => ?_)
    · exact hq
    · exact absurd c206 (by omega)
  · have t' := t.keep (h' := (up hp 397 (ar 0 4 (up L0 i (ldS T p l k col i j))))) (fun x hx => up_n _ _ (by omega))
    obtain ⟨C, D, Mo, FA, ⟨gq, SA, SB⟩, SC⟩ := id t'
    obtain ⟨C0, C1, C2, C3, C4, C5, C6, C7, C8, C11, C12, C13, C14, C15, C16, C17, C18, C19, C20, C21, C22, C23⟩ := id C
    have hob := C0.ob
    obtain ⟨D1, D2, D3, D4⟩ := id D
    obtain ⟨O1, O2, O3, O4, O5, O6⟩ := id Mo
    have hC := (up_n hp (ar 0 4 (up L0 i (ldS T p l k col i j))) (show 396 ≠ 397 by omega)).trans A1
    have hL := up_s hp 397 (ar 0 4 (up L0 i (ldS T p l k col i j)))
    refine x_iload (pc := 197) dX7_rank_197 rfl ?_
    refine x_aload_n (pc := 199) dX7_rank_199 rfl ?_
    refine x_iload_n (pc := 200) dX7_rank_200 rfl ?_
    refine x_iload (pc := 201) dX7_rank_201 rfl ?_
    refine x_w2 (pc := 203) dX7_rank_203 wX7_at iX7_at kX7_118 (by decide) rfl (Nat.le_of_ble_eq_true rfl) (by assumption) (by omega) (m_at C hz hN D hl (by omega)) ?_
    rw [(hs _ (by omega)).1]
    refine x_icmp_ge (pc := 206) (tgt := 257) dX7_rank_206 (by decide) (by omega) (by omega) (fun c206 => ?_) (fun c206 => ?_)
    · exact absurd c206 (by omega)
    · refine x_aload_n (pc := 209) dX7_rank_209 rfl ?_
      refine x_gf (pc := 210) dX7_rank_210 fX7_45 (by assumption) (by omega) ?_
      refine x_iload (pc := 213) dX7_rank_213 rfl ?_
      refine x_aload_n (pc := 215) dX7_rank_215 rfl ?_
      refine x_aload_n (pc := 216) dX7_rank_216 rfl ?_
      refine x_gf (pc := 217) dX7_rank_217 fX7_45 (by assumption) (by omega) ?_
      refine x_iload (pc := 220) dX7_rank_220 rfl ?_
      refine x_il (pc := 222) dX7_rank_222 (by assumption) (by omega) rfl (by omega) ?_
      rw [up_s]
      refine x_aload_n (pc := 223) dX7_rank_223 rfl ?_
      refine x_gf (pc := 224) dX7_rank_224 fX7_16 (by assumption) (by omega) ?_
      refine x_iload_n (pc := 227) dX7_rank_227 rfl ?_
      refine x_iload (pc := 228) dX7_rank_228 rfl ?_
      refine x_iload (pc := 230) dX7_rank_230 rfl ?_
      refine x_iload (pc := 232) dX7_rank_232 rfl ?_
      refine x_t4 (pc := 234) dX7_rank_234 wX7_cell sX7_cell kX7_128 (by decide) rfl (Nat.le_of_ble_eq_true rfl) (m_cell (l := l) (k := k) (r := i) (c := j)) ?_
      refine x_il (pc := 237) dX7_rank_237 (by assumption) (by omega) rfl (by omega) ?_
      refine x_aload_n (pc := 238) dX7_rank_238 rfl ?_
      refine x_gf (pc := 239) dX7_rank_239 fX7_42 (by assumption) (by omega) ?_
      refine x_iload (pc := 242) dX7_rank_242 rfl ?_
      refine x_il (pc := 244) dX7_rank_244 (by assumption) (by omega) rfl (by omega) ?_
      refine x_imul (pc := 245) dX7_rank_245 ?_
      refine x_iadd (pc := 246) dX7_rank_246 ?_
      refine x_w1 (pc := 247) dX7_rank_247 wX7_rest iX7_rest kX7_132 (by decide) rfl (Nat.le_of_ble_eq_true rfl) (by assumption) (by omega) (m_rest C hz hN hP (by have h8 := ldS_rg (T := T) (p := p) (l := l) (k := k) (col := col) (i := i) (by omega) j; have h9 := hT (l * 128 + k * 16 + i * 4 + j) (by omega); have h10 := mul13 hpl.2 h9 ⟨(hcol j (by omega)).1, Int.le_of_lt (hcol j (by omega)).2⟩; omega)) ?_
      refine x_is (pc := 250) dX7_rank_250 (by assumption) (by omega) rfl (by omega) ?_
      refine x_iinc (pc := 251) dX7_rank_251 rfl (by decide) rfl ?_
      show Ex _ _ _ _ _ _ [_, _, _, _, _, _, _, _, _, _] _ _ _ _
      refine x_goto (pc := 254) (tgt := 197) dX7_rank_254 (by decide) ?_
      rw [up_up, up_up]
      exact ih

theorem k_rank5 {G : GL} {d : Nat} {sz p N : Nat} (hz : 615 ≤ sz) (hN : 1 ≤ N ∧ N ≤ 8) (hP : isP p) {W : Nat → Nat} {S T : Nat → Int} (hT : inTm T p) {l a b : Nat} (hl : l < 8) {s : Nat → Nat} (hs : sz8 S l s) (ha : a < N) (hb : b < N) {Q : Option AV → HP → Nat → Prop} {hp : HP} {M : Nat → Nat → Int} {ld : Nat → Int} {m w : Nat} {g : Nat → Option Nat} {σ : Nat → Nat} {F : Nat → Int} {Qs : Nat → Nat → Int} (t : TS hp p N W S T M ld m w g σ F Qs) {col L0 : Nat → Int} (A1 : hp 396 = ar 0 4 col) (hcol : ∀ j, j < 4 → 0 ≤ col j ∧ col j < p) {x q k r : Nat} (hk : k < 7) (hq8 : q < 8) (hr8 : r < 8) (hq : ∀ v9, Ex G (d + 3) 0 0 mX7_rank 263 [vr 92, vi l, vi a, vi b, vi x, vi q, vi k, vi r, vi (s r : Nat), v9] [] (up hp 397 (ar 0 4 (fun z => if z < (s r) then ldS T p l k col z (s q) else L0 z))) sz Q) : ∀ i, i ≤ s r → ∀ v9, Ex G (d + 3) 0 0 mX7_rank 174 [vr 92, vi l, vi a, vi b, vi x, vi q, vi k, vi r, vi i, v9] [] (up hp 397 (ar 0 4 (fun z => if z < i then ldS T p l k col z (s q) else L0 z))) sz Q := by
  have hs4 := (hs r hr8).2
  refine down (fun v9 => ?_) (fun i hi ih v9 => ?_)
  · have t' := t.keep (h' := (up hp 397 (ar 0 4 (fun z => if z < (s r) then ldS T p l k col z (s q) else L0 z)))) (fun x hx => up_n _ _ (by omega))
    obtain ⟨C, D, Mo, FA, ⟨gq, SA, SB⟩, SC⟩ := id t'
    obtain ⟨C0, C1, C2, C3, C4, C5, C6, C7, C8, C11, C12, C13, C14, C15, C16, C17, C18, C19, C20, C21, C22, C23⟩ := id C
    have hob := C0.ob
    obtain ⟨D1, D2, D3, D4⟩ := id D
    obtain ⟨O1, O2, O3, O4, O5, O6⟩ := id Mo
    have hC := (up_n hp (ar 0 4 (fun z => if z < (s r) then ldS T p l k col z (s q) else L0 z)) (show 396 ≠ 397 by omega)).trans A1
    have hL := up_s hp 397 (ar 0 4 (fun z => if z < (s r) then ldS T p l k col z (s q) else L0 z))
    refine x_iload (pc := 174) dX7_rank_174 rfl ?_
    refine x_aload_n (pc := 176) dX7_rank_176 rfl ?_
    refine x_iload_n (pc := 177) dX7_rank_177 rfl ?_
    refine x_iload (pc := 178) dX7_rank_178 rfl ?_
    refine x_w2 (pc := 180) dX7_rank_180 wX7_at iX7_at kX7_118 (by decide) rfl (Nat.le_of_ble_eq_true rfl) (by assumption) (by omega) (m_at C hz hN D hl (by omega)) ?_
    rw [(hs _ (by omega)).1]
    refine x_icmp_ge (pc := 183) (tgt := 263) dX7_rank_183 (by decide) (by omega) (by omega) (fun c183 => ?_) (fun c183 => ?_)
    · exact hq _
    · exact absurd c183 (by omega)
  · have t' := t.keep (h' := (up hp 397 (ar 0 4 (fun z => if z < i then ldS T p l k col z (s q) else L0 z)))) (fun x hx => up_n _ _ (by omega))
    obtain ⟨C, D, Mo, FA, ⟨gq, SA, SB⟩, SC⟩ := id t'
    obtain ⟨C0, C1, C2, C3, C4, C5, C6, C7, C8, C11, C12, C13, C14, C15, C16, C17, C18, C19, C20, C21, C22, C23⟩ := id C
    have hob := C0.ob
    obtain ⟨D1, D2, D3, D4⟩ := id D
    obtain ⟨O1, O2, O3, O4, O5, O6⟩ := id Mo
    have hC := (up_n hp (ar 0 4 (fun z => if z < i then ldS T p l k col z (s q) else L0 z)) (show 396 ≠ 397 by omega)).trans A1
    have hL := up_s hp 397 (ar 0 4 (fun z => if z < i then ldS T p l k col z (s q) else L0 z))
    refine x_iload (pc := 174) dX7_rank_174 rfl ?_
    refine x_aload_n (pc := 176) dX7_rank_176 rfl ?_
    refine x_iload_n (pc := 177) dX7_rank_177 rfl ?_
    refine x_iload (pc := 178) dX7_rank_178 rfl ?_
    refine x_w2 (pc := 180) dX7_rank_180 wX7_at iX7_at kX7_118 (by decide) rfl (Nat.le_of_ble_eq_true rfl) (by assumption) (by omega) (m_at C hz hN D hl (by omega)) ?_
    rw [(hs _ (by omega)).1]
    refine x_icmp_ge (pc := 183) (tgt := 263) dX7_rank_183 (by decide) (by omega) (by omega) (fun c183 => ?_) (fun c183 => ?_)
    · exact absurd c183 (by omega)
    · refine x_aload_n (pc := 186) dX7_rank_186 rfl ?_
      refine x_gf (pc := 187) dX7_rank_187 fX7_45 (by assumption) (by omega) ?_
      refine x_iload (pc := 190) dX7_rank_190 rfl ?_
      refine x_iconst (pc := 192) dX7_rank_192 ?_
      refine x_is (pc := 193) dX7_rank_193 (by assumption) (by omega) rfl (by omega) ?_
      refine x_iconst (pc := 194) dX7_rank_194 ?_
      refine x_istore (pc := 195) dX7_rank_195 (by decide) rfl ?_
      show Ex _ _ _ _ _ _ [_, _, _, _, _, _, _, _, _, _] _ _ _ _
      rw [up_up]
      refine k_rank6 (d := d) hz hN hP hT hl hs ha hb t A1 hcol hk hq8 (by omega) ?_ 0 (by omega)
      refine x_iinc (pc := 257) dX7_rank_257 rfl (by decide) rfl ?_
      show Ex _ _ _ _ _ _ [_, _, _, _, _, _, _, _, _, _] _ _ _ _
      refine x_goto (pc := 260) (tgt := 174) dX7_rank_260 (by decide) ?_
      have e9 : up (fun z => if z < i then ldS T p l k col z (s q) else L0 z) i (ldS T p l k col i (s q)) = (fun z => if z < (i + 1) then ldS T p l k col z (s q) else L0 z) := by
        funext z
        by_cases e : z = i
        · subst e; rw [up_s, if_pos (by omega)]
        · rw [up_n _ _ e]
          by_cases e2 : z < i
          · rw [if_pos e2, if_pos (by omega)]
          · rw [if_neg e2, if_neg (by omega)]
      rw [e9]
      exact ih _

theorem k_rank7 {G : GL} {d : Nat} {sz p N : Nat} (hz : 615 ≤ sz) (hN : 1 ≤ N ∧ N ≤ 8) (hP : isP p) {W : Nat → Nat} {S T : Nat → Int} (hT : inTm T p) {l a b : Nat} (hl : l < 8) {s : Nat → Nat} (hs : sz8 S l s) (ha : a < N) (hb : b < N) {Q : Option AV → HP → Nat → Prop} {hp : HP} {M : Nat → Nat → Int} {ld : Nat → Int} {m w : Nat} {g : Nat → Option Nat} {σ : Nat → Nat} {F : Nat → Int} {Qs : Nat → Nat → Int} (t : TS hp p N W S T M ld m w g σ F Qs) {col Ll : Nat → Int} (A2 : hp 397 = ar 0 4 Ll) {x q k r : Nat} (hr8 : r < 8) {v9 : AV} (hq : Ex G (d + 3) 0 0 mX7_rank 308 [vr 92, vi l, vi a, vi b, vi x, vi q, vi k, vi r, vi (4 : Nat), v9] [] (up hp 396 (ar 0 4 (fun z => if z < 4 then (if z < s r then Ll z else 0) else col z))) sz Q) : ∀ i : Nat, i ≤ 4 → Ex G (d + 3) 0 0 mX7_rank 266 [vr 92, vi l, vi a, vi b, vi x, vi q, vi k, vi r, vi i, v9] [] (up hp 396 (ar 0 4 (fun z => if z < i then (if z < s r then Ll z else 0) else col z))) sz Q := by
  have hs4 := (hs r hr8).2
  refine down ?_ (fun i hi ih => ?_)
  · have t' := t.keep (h' := (up hp 396 (ar 0 4 (fun z => if z < 4 then (if z < s r then Ll z else 0) else col z)))) (fun x hx => up_n _ _ (by omega))
    obtain ⟨C, D, Mo, FA, ⟨gq, SA, SB⟩, SC⟩ := id t'
    obtain ⟨C0, C1, C2, C3, C4, C5, C6, C7, C8, C11, C12, C13, C14, C15, C16, C17, C18, C19, C20, C21, C22, C23⟩ := id C
    have hob := C0.ob
    obtain ⟨D1, D2, D3, D4⟩ := id D
    obtain ⟨O1, O2, O3, O4, O5, O6⟩ := id Mo
    have hL := (up_n hp (ar 0 4 (fun z => if z < 4 then (if z < s r then Ll z else 0) else col z)) (show 397 ≠ 396 by omega)).trans A2
    have hC := up_s hp 396 (ar 0 4 (fun z => if z < 4 then (if z < s r then Ll z else 0) else col z))
    refine x_iload (pc := 266) dX7_rank_266 rfl ?_
    refine x_iconst (pc := 268) dX7_rank_268 ?_
    refine x_icmp_ge (pc := 269) (tgt := 308) dX7_rank_269 (by decide) (by omega) (by omega) (fun c269 => ?_) (fun c269 => ?_)
    · exact hq
    · exact absurd c269 (by omega)
  · have t' := t.keep (h' := (up hp 396 (ar 0 4 (fun z => if z < i then (if z < s r then Ll z else 0) else col z)))) (fun x hx => up_n _ _ (by omega))
    obtain ⟨C, D, Mo, FA, ⟨gq, SA, SB⟩, SC⟩ := id t'
    obtain ⟨C0, C1, C2, C3, C4, C5, C6, C7, C8, C11, C12, C13, C14, C15, C16, C17, C18, C19, C20, C21, C22, C23⟩ := id C
    have hob := C0.ob
    obtain ⟨D1, D2, D3, D4⟩ := id D
    obtain ⟨O1, O2, O3, O4, O5, O6⟩ := id Mo
    have hL := (up_n hp (ar 0 4 (fun z => if z < i then (if z < s r then Ll z else 0) else col z)) (show 397 ≠ 396 by omega)).trans A2
    have hC := up_s hp 396 (ar 0 4 (fun z => if z < i then (if z < s r then Ll z else 0) else col z))
    refine x_iload (pc := 266) dX7_rank_266 rfl ?_
    refine x_iconst (pc := 268) dX7_rank_268 ?_
    refine x_icmp_ge (pc := 269) (tgt := 308) dX7_rank_269 (by decide) (by omega) (by omega) (fun c269 => ?_) (fun c269 => ?_)
    · exact absurd c269 (by omega)
    · refine x_aload_n (pc := 272) dX7_rank_272 rfl ?_
      refine x_gf (pc := 273) dX7_rank_273 fX7_42 (by assumption) (by omega) ?_
      refine x_iload (pc := 276) dX7_rank_276 rfl ?_
      refine x_iload (pc := 278) dX7_rank_278 rfl ?_
      refine x_aload_n (pc := 280) dX7_rank_280 rfl ?_
      refine x_iload_n (pc := 281) dX7_rank_281 rfl ?_
      refine x_iload (pc := 282) dX7_rank_282 rfl ?_
      refine x_w2 (pc := 284) dX7_rank_284 wX7_at iX7_at kX7_118 (by decide) rfl (Nat.le_of_ble_eq_true rfl) (by assumption) (by omega) (m_at C hz hN D hl (by omega)) ?_
      rw [(hs _ (by omega)).1]
      refine x_icmp_ge (pc := 287) (tgt := 300) dX7_rank_287 (by decide) (by omega) (by omega) (fun c287 => ?_) (fun c287 => ?_)
      · refine x_iconst (pc := 300) dX7_rank_300 ?_
        refine x_is (pc := 301) dX7_rank_301 (by assumption) (by omega) rfl (by omega) ?_
        refine x_iinc (pc := 302) dX7_rank_302 rfl (by decide) rfl ?_
        show Ex _ _ _ _ _ _ [_, _, _, _, _, _, _, _, _, _] _ _ _ _
        refine x_goto (pc := 305) (tgt := 266) dX7_rank_305 (by decide) ?_
        first
          | (have e9 := upIf (fun z => if z < s r then Ll z else 0) col i
             try dsimp only at e9
             rw [show (if i < s r then Ll i else 0) = Ll i from if_pos (by omega)] at e9
             rw [up_up, e9]
             exact ih)
          | (have e9 := upIf (fun z => if z < s r then Ll z else 0) col i
             try dsimp only at e9
             rw [show (if i < s r then Ll i else 0) = 0 from if_neg (by omega)] at e9
             rw [up_up, e9]
             exact ih)
      · refine x_aload_n (pc := 290) dX7_rank_290 rfl ?_
        refine x_gf (pc := 291) dX7_rank_291 fX7_45 (by assumption) (by omega) ?_
        refine x_iload (pc := 294) dX7_rank_294 rfl ?_
        refine x_il (pc := 296) dX7_rank_296 (by assumption) (by omega) rfl (by omega) ?_
        refine x_goto (pc := 297) (tgt := 301) dX7_rank_297 (by decide) ?_
        refine x_is (pc := 301) dX7_rank_301 (by assumption) (by omega) rfl (by omega) ?_
        refine x_iinc (pc := 302) dX7_rank_302 rfl (by decide) rfl ?_
        show Ex _ _ _ _ _ _ [_, _, _, _, _, _, _, _, _, _] _ _ _ _
        refine x_goto (pc := 305) (tgt := 266) dX7_rank_305 (by decide) ?_
        first
          | (have e9 := upIf (fun z => if z < s r then Ll z else 0) col i
             try dsimp only at e9
             rw [show (if i < s r then Ll i else 0) = Ll i from if_pos (by omega)] at e9
             rw [up_up, e9]
             exact ih)
          | (have e9 := upIf (fun z => if z < s r then Ll z else 0) col i
             try dsimp only at e9
             rw [show (if i < s r then Ll i else 0) = 0 from if_neg (by omega)] at e9
             rw [up_up, e9]
             exact ih)

theorem k_rank3 {G : GL} {d : Nat} {sz p N : Nat} (hz : 615 ≤ sz) (hN : 1 ≤ N ∧ N ≤ 8) (hP : isP p) {W : Nat → Nat} {S T : Nat → Int} (hT : inTm T p) {l a b : Nat} (hl : l < 8) {s : Nat → Nat} (hs : sz8 S l s) (ha : a < N) (hb : b < N) {Q : Option AV → HP → Nat → Prop} {hp : HP} {M : Nat → Nat → Int} {ld : Nat → Int} {m w : Nat} {g : Nat → Option Nat} {σ : Nat → Nat} {F : Nat → Int} {Qs : Nat → Nat → Int} (t : TS hp p N W S T M ld m w g σ F Qs) {cl0 : Nat → Int} {x : Nat} (hx : x < 4) {v6 v7 v8 v9 : AV} (hq : Ex G (d + 3) 0 0 mX7_rank 128 [vr 92, vi l, vi a, vi b, vi x, vi (4 : Nat), v6, v7, v8, v9] [] (up hp 396 (ar 0 4 (fun z => if z < 4 then (if z = x then (1 : Int) else 0) else cl0 z))) sz Q) : ∀ i : Nat, i ≤ 4 → Ex G (d + 3) 0 0 mX7_rank 97 [vr 92, vi l, vi a, vi b, vi x, vi i, v6, v7, v8, v9] [] (up hp 396 (ar 0 4 (fun z => if z < i then (if z = x then (1 : Int) else 0) else cl0 z))) sz Q := by
  refine down ?_ (fun i hi ih => ?_)
  · have t' := t.keep (h' := (up hp 396 (ar 0 4 (fun z => if z < 4 then (if z = x then (1 : Int) else 0) else cl0 z)))) (fun x hx => up_n _ _ (by omega))
    obtain ⟨C, D, Mo, FA, ⟨gq, SA, SB⟩, SC⟩ := id t'
    obtain ⟨C0, C1, C2, C3, C4, C5, C6, C7, C8, C11, C12, C13, C14, C15, C16, C17, C18, C19, C20, C21, C22, C23⟩ := id C
    have hob := C0.ob
    obtain ⟨D1, D2, D3, D4⟩ := id D
    obtain ⟨O1, O2, O3, O4, O5, O6⟩ := id Mo
    have hC := up_s hp 396 (ar 0 4 (fun z => if z < 4 then (if z = x then (1 : Int) else 0) else cl0 z))
    refine x_iload (pc := 97) dX7_rank_97 rfl ?_
    refine x_iconst (pc := 99) dX7_rank_99 ?_
    refine x_icmp_ge (pc := 100) (tgt := 128) dX7_rank_100 (by decide) (by omega) (by omega) (fun c100 => ?_) (fun c100 => ?_)
    · exact hq
    · exact absurd c100 (by omega)
  · have t' := t.keep (h' := (up hp 396 (ar 0 4 (fun z => if z < i then (if z = x then (1 : Int) else 0) else cl0 z)))) (fun x hx => up_n _ _ (by omega))
    obtain ⟨C, D, Mo, FA, ⟨gq, SA, SB⟩, SC⟩ := id t'
    obtain ⟨C0, C1, C2, C3, C4, C5, C6, C7, C8, C11, C12, C13, C14, C15, C16, C17, C18, C19, C20, C21, C22, C23⟩ := id C
    have hob := C0.ob
    obtain ⟨D1, D2, D3, D4⟩ := id D
    obtain ⟨O1, O2, O3, O4, O5, O6⟩ := id Mo
    have hC := up_s hp 396 (ar 0 4 (fun z => if z < i then (if z = x then (1 : Int) else 0) else cl0 z))
    refine x_iload (pc := 97) dX7_rank_97 rfl ?_
    refine x_iconst (pc := 99) dX7_rank_99 ?_
    refine x_icmp_ge (pc := 100) (tgt := 128) dX7_rank_100 (by decide) (by omega) (by omega) (fun c100 => ?_) (fun c100 => ?_)
    · exact absurd c100 (by omega)
    · refine x_aload_n (pc := 103) dX7_rank_103 rfl ?_
      refine x_gf (pc := 104) dX7_rank_104 fX7_42 (by assumption) (by omega) ?_
      refine x_iload (pc := 107) dX7_rank_107 rfl ?_
      refine x_iload (pc := 109) dX7_rank_109 rfl ?_
      refine x_iload (pc := 111) dX7_rank_111 rfl ?_
      refine x_icmp_ne (pc := 113) (tgt := 120) dX7_rank_113 (by decide) (by omega) (by omega) (fun c113 => ?_) (fun c113 => ?_)
      · refine x_iconst (pc := 120) dX7_rank_120 ?_
        refine x_is (pc := 121) dX7_rank_121 (by assumption) (by omega) rfl (by omega) ?_
        refine x_iinc (pc := 122) dX7_rank_122 rfl (by decide) rfl ?_
        show Ex _ _ _ _ _ _ [_, _, _, _, _, _, _, _, _, _] _ _ _ _
        refine x_goto (pc := 125) (tgt := 97) dX7_rank_125 (by decide) ?_
        first
          | (have e9 := upIf (fun z => if z = x then (1 : Int) else 0) cl0 i
             try dsimp only at e9
             rw [show (if i = x then (1 : Int) else 0) = 1 from if_pos (by omega)] at e9
             rw [up_up, e9]
             exact ih)
          | (have e9 := upIf (fun z => if z = x then (1 : Int) else 0) cl0 i
             try dsimp only at e9
             rw [show (if i = x then (1 : Int) else 0) = 0 from if_neg (by omega)] at e9
             rw [up_up, e9]
             exact ih)
      · refine x_iconst (pc := 116) dX7_rank_116 ?_
        refine x_goto (pc := 117) (tgt := 121) dX7_rank_117 (by decide) ?_
        refine x_is (pc := 121) dX7_rank_121 (by assumption) (by omega) rfl (by omega) ?_
        refine x_iinc (pc := 122) dX7_rank_122 rfl (by decide) rfl ?_
        show Ex _ _ _ _ _ _ [_, _, _, _, _, _, _, _, _, _] _ _ _ _
        refine x_goto (pc := 125) (tgt := 97) dX7_rank_125 (by decide) ?_
        first
          | (have e9 := upIf (fun z => if z = x then (1 : Int) else 0) cl0 i
             try dsimp only at e9
             rw [show (if i = x then (1 : Int) else 0) = 1 from if_pos (by omega)] at e9
             rw [up_up, e9]
             exact ih)
          | (have e9 := upIf (fun z => if z = x then (1 : Int) else 0) cl0 i
             try dsimp only at e9
             rw [show (if i = x then (1 : Int) else 0) = 0 from if_neg (by omega)] at e9
             rw [up_up, e9]
             exact ih)
