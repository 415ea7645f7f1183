theorem k_rank8 {G : GL} {d : Nat} {sz p N : Nat} (hz : 615 ≤ sz) (hN : 1 ≤ N ∧ N ≤ 8) (hP : isP p) {W : Nat → Nat} {S T : Nat → Int} (hT : inTm T p) {l a b : Nat} (hl : l < 8) {s : Nat → Nat} (hs : sz8 S l s) (ha : a < N) (hb : b < N) {Q : Option AV → HP → Nat → Prop} {ld : Nat → Int} {m w : Nat} {g : Nat → Option Nat} {σ : Nat → Nat} {F : Nat → Int} {Qs : Nat → Nat → Int} (hm : m < 260) (hw : w = s b) {col Ll : Nat → Int} {x : Nat} {v7 v8 v9 : AV} : ∀ i, i ≤ s b → ∀ (hp : HP) (M : Nat → Nat → Int), TS hp p N W S T M ld (m + 1) w g σ F Qs → hp 396 = ar 0 4 col → hp 397 = ar 0 4 Ll → (∀ h M1, TS h p N W S T M1 ld (m + 1) w g σ F Qs → h 396 = ar 0 4 col → h 397 = ar 0 4 Ll → Ft hp h → (∀ z, z ≠ m → M1 z = M z) → (∀ j, M1 m j = if i ≤ j ∧ j < s b then col j else M m j) → Ex G (d + 3) 0 0 mX7_rank 353 [vr 92, vi l, vi a, vi b, vi x, vr (σ m), vi (s b : Nat), v7, v8, v9] [] h sz Q) → Ex G (d + 3) 0 0 mX7_rank 324 [vr 92, vi l, vi a, vi b, vi x, vr (σ m), vi i, v7, v8, v9] [] hp sz Q := by
  have hs4 := (hs b (by omega)).2
  refine down (fun hp M t A1 A2 hq => ?_) (fun i hi ih hp M t A1 A2 hq => ?_)
  · obtain ⟨C, D, Mo, FA, ⟨gq, SA, SB⟩, SC⟩ := id t
    obtain ⟨C0, C1, C2, C3, C4, C5, C6, C7, C8, C11, C12, C13, C14, C15, C16, C17, C18, C19, C20, C21, C22, C23⟩ := id C
    have hob := C0.ob
    obtain ⟨D1, D2, D3, D4⟩ := id D
    obtain ⟨O1, O2, O3, O4, O5, O6⟩ := id Mo
    refine x_iload (pc := 324) dX7_rank_324 rfl ?_
    refine x_aload_n (pc := 326) dX7_rank_326 rfl ?_
    refine x_iload_n (pc := 327) dX7_rank_327 rfl ?_
    refine x_iload_n (pc := 328) dX7_rank_328 rfl ?_
    refine x_w2 (pc := 329) dX7_rank_329 wX7_at iX7_at kX7_118 (by decide) rfl (Nat.le_of_ble_eq_true rfl) (by assumption) (by omega) (m_at C hz hN D hl (by omega)) ?_
    rw [(hs _ (by omega)).1]
    refine x_icmp_ge (pc := 332) (tgt := 353) dX7_rank_332 (by decide) (by omega) (by omega) (fun c332 => ?_) (fun c332 => ?_)
    · exact hq hp M t A1 A2 Ft.rf (fun z _ => rfl) (fun j => by rw [if_neg (by omega)])
    · exact absurd c332 (by omega)
  · obtain ⟨C, D, Mo, FA, ⟨gq, SA, SB⟩, SC⟩ := id t
    obtain ⟨C0, C1, C2, C3, C4, C5, C6, C7, C8, C11, C12, C13, C14, C15, C16, C17, C18, C19, C20, C21, C22, C23⟩ := id C
    have hob := C0.ob
    obtain ⟨D1, D2, D3, D4⟩ := id D
    obtain ⟨O1, O2, O3, O4, O5, O6⟩ := id Mo
    obtain ⟨a1, a2, a3, a4⟩ := Mo.lt (i := m) hm
    refine x_iload (pc := 324) dX7_rank_324 rfl ?_
    refine x_aload_n (pc := 326) dX7_rank_326 rfl ?_
    refine x_iload_n (pc := 327) dX7_rank_327 rfl ?_
    refine x_iload_n (pc := 328) dX7_rank_328 rfl ?_
    refine x_w2 (pc := 329) dX7_rank_329 wX7_at iX7_at kX7_118 (by decide) rfl (Nat.le_of_ble_eq_true rfl) (by assumption) (by omega) (m_at C hz hN D hl (by omega)) ?_
    rw [(hs _ (by omega)).1]
    refine x_icmp_ge (pc := 332) (tgt := 353) dX7_rank_332 (by decide) (by omega) (by omega) (fun c332 => ?_) (fun c332 => ?_)
    · exact absurd c332 (by omega)
    · refine x_aload (pc := 335) dX7_rank_335 rfl ?_
      refine x_iload (pc := 337) dX7_rank_337 rfl ?_
      refine x_aload_n (pc := 339) dX7_rank_339 rfl ?_
      refine x_gf (pc := 340) dX7_rank_340 fX7_42 (by assumption) (by omega) ?_
      refine x_iload (pc := 343) dX7_rank_343 rfl ?_
      refine x_il (pc := 345) dX7_rank_345 (by assumption) (by omega) rfl (by omega) ?_
      refine x_is (pc := 346) dX7_rank_346 a4 (by omega) rfl (by omega) ?_
      refine x_iinc (pc := 347) dX7_rank_347 rfl (by decide) rfl ?_
      show Ex _ _ _ _ _ _ [_, _, _, _, _, _, _, _, _, _] _ _ _ _
      refine x_goto (pc := 350) (tgt := 324) dX7_rank_350 (by decide) ?_
      exact ih _ _ (t.row (i := m) hm) ((up_n _ _ (by omega)).trans A1) ((up_n _ _ (by omega)).trans A2) (fun h M1 t1 b1 b2 f1 e0 e1 => hq h M1 t1 b1 b2 ((Ft.rf.up (by omega) (by omega) (by omega) (by omega)).tr f1) (fun z hz9 => (e0 z hz9).trans (up_n _ _ hz9)) (fun j => by
        rw [e1 j, up_s]
        by_cases e : j = i
        · subst e
          rw [if_neg (by omega), up_s, if_pos (by omega)]
        · rw [up_n _ _ e]
          by_cases e2 : i + 1 ≤ j ∧ j < s b
          · rw [if_pos (by omega), if_pos (by omega)]
          · rw [if_neg (by omega), if_neg (by omega)]))

theorem k_rank2R {K : Type} [Lean.Grind.CommRing K] {f : Int → K} {G : GL} {d : Nat} {sz p N : Nat} (hz : 615 ≤ sz) (hN : 1 ≤ N ∧ N ≤ 8) (hP : isP p) {W : Nat → Nat} {S T : Nat → Int} (hT : inTm T p) {l a b : Nat} (hl : l < 8) {s : Nat → Nat} (hs : sz8 S l s) (ha : a < N) (hb : b < N) {Q : Option AV → HP → Nat → Prop} (hf : Iot p f) (hab : a ≤ b) (hd : ∀ k, a ≤ k → k < b → Lw (W l) k = false) {ld : Nat → Int} {w : Nat} (hw : w = s b) {F : Nat → Int} {Qs : Nat → Nat → Int} : ∀ x, x ≤ s a → ∀ (hp : HP) (M : Nat → Nat → Int) (g : Nat → Option Nat) (σ : Nat → Nat) (col Ll : Nat → Int) (v5 v6 v7 v8 v9 : AV), TS hp p N W S T M ld x w g σ F Qs → hp 396 = ar 0 4 col → hp 397 = ar 0 4 Ll → (∀ z, z < x → ∀ c, tr (s b) f (M z) c = vKd (TK f T (Lw (W l)) s l) (fun t => a + t) z (b - a) c) → inQ x w M p → (∀ h M1 g1 σ1 col1 Ll1 v5 v6 v7 v8 v9, TS h p N W S T M1 ld (s a) w g1 σ1 F Qs → h 396 = ar 0 4 col1 → h 397 = ar 0 4 Ll1 → Fk6 hp h → (∀ z, z < (s a) → ∀ c, tr (s b) f (M1 z) c = vKd (TK f T (Lw (W l)) s l) (fun t => a + t) z (b - a) c) → inQ (s a) w M1 p → Ex G (d + 3) 0 0 mX7_rank 359 [vr 92, vi l, vi a, vi b, vi (s a : Nat), v5, v6, v7, v8, v9] [] h sz Q) → Ex G (d + 3) 0 0 mX7_rank 83 [vr 92, vi l, vi a, vi b, vi x, v5, v6, v7, v8, v9] [] hp sz Q := by
  have hpl := hP.le
  have hs4 := (hs a (by omega)).2
  have hb4 := (hs b (by omega)).2
  refine down (fun hp M g σ col Ll v5 v6 v7 v8 v9 t A1 A2 hr hM hq => ?_) (fun x hx ih hp M g σ col Ll v5 v6 v7 v8 v9 t A1 A2 hr hM hq => ?_)
  · obtain ⟨C, D, Mo, FA, ⟨gq, SA, SB⟩, SC⟩ := id t
    obtain ⟨C0, C1, C2, C3, C4, C5, C6, C7, C8, C11, C12, C13, C14, C15, C16, C17, C18, C19, C20, C21, C22, C23⟩ := id C
    have hob := C0.ob
    obtain ⟨D1, D2, D3, D4⟩ := id D
    obtain ⟨O1, O2, O3, O4, O5, O6⟩ := id Mo
    refine x_iload (pc := 83) dX7_rank_83 rfl ?_
    refine x_aload_n (pc := 85) dX7_rank_85 rfl ?_
    refine x_iload_n (pc := 86) dX7_rank_86 rfl ?_
    refine x_iload_n (pc := 87) dX7_rank_87 rfl ?_
    refine x_w2 (pc := 88) dX7_rank_88 wX7_at iX7_at kX7_118 (by decide) rfl (Nat.le_of_ble_eq_true rfl) (by assumption) (by omega) (m_at C hz hN D hl (by omega)) ?_
    rw [(hs _ (by omega)).1]
    refine x_icmp_ge (pc := 91) (tgt := 359) dX7_rank_91 (by decide) (by omega) (by omega) (fun c91 => ?_) (fun c91 => ?_)
    · exact hq hp M g σ col Ll _ _ _ _ _ t A1 A2 Fk6.rf hr hM
    · exact absurd c91 (by omega)
  · obtain ⟨C, D, Mo, FA, ⟨gq, SA, SB⟩, SC⟩ := id t
    obtain ⟨C0, C1, C2, C3, C4, C5, C6, C7, C8, C11, C12, C13, C14, C15, C16, C17, C18, C19, C20, C21, C22, C23⟩ := id C
    have hob := C0.ob
    obtain ⟨D1, D2, D3, D4⟩ := id D
    obtain ⟨O1, O2, O3, O4, O5, O6⟩ := id Mo
    refine x_iload (pc := 83) dX7_rank_83 rfl ?_
    refine x_aload_n (pc := 85) dX7_rank_85 rfl ?_
    refine x_iload_n (pc := 86) dX7_rank_86 rfl ?_
    refine x_iload_n (pc := 87) dX7_rank_87 rfl ?_
    refine x_w2 (pc := 88) dX7_rank_88 wX7_at iX7_at kX7_118 (by decide) rfl (Nat.le_of_ble_eq_true rfl) (by assumption) (by omega) (m_at C hz hN D hl (by omega)) ?_
    rw [(hs _ (by omega)).1]
    refine x_icmp_ge (pc := 91) (tgt := 359) dX7_rank_91 (by decide) (by omega) (by omega) (fun c91 => ?_) (fun c91 => ?_)
    · exact absurd c91 (by omega)
    · refine x_iconst (pc := 94) dX7_rank_94 ?_
      refine x_istore (pc := 95) dX7_rank_95 (by decide) rfl ?_
      show Ex _ _ _ _ _ _ [_, _, _, _, _, _, _, _, _, _] _ _ _ _
      have key : Ex G (d + 3) 0 0 mX7_rank 97 [vr 92, vi l, vi a, vi b, vi x, vi (0 : Nat), v6, v7, v8, v9] [] (up hp 396 (ar 0 4 (fun z => if z < 0 then (if z = x then (1 : Int) else 0) else col z))) sz Q := by
        refine k_rank3 (d := d) hz hN hP hT hl hs ha hb t (by omega) ?_ 0 (by omega)
        refine x_iload_n (pc := 128) dX7_rank_128 rfl ?_
        refine x_istore (pc := 129) dX7_rank_129 (by decide) rfl ?_
        show Ex _ _ _ _ _ _ [_, _, _, _, _, _, _, _, _, _] _ _ _ _
        have t2 := t.keep (h' := up hp 396 (ar 0 4 (fun z => if z < 4 then (if z = x then (1 : Int) else 0) else col z))) (fun x hx => up_n _ _ (by omega))
        refine k_rank4R (d := d) hz hN hP hT hl hs ha hb hf hab hd (x := x) hx 0 (by omega) _ (fun z => if z < 4 then (if z = x then (1 : Int) else 0) else col z) Ll _ _ _ _ t2 (up_s _ _ _) ((up_n _ _ (by omega)).trans A2) (fun j hj => by rw [if_pos hj]; split <;> omega) (fun z => by
          show _ = e1 x z
          unfold e1
          rw [show a + 0 = a from rfl]
          by_cases hz9 : z < s a
          · rw [tr_lt hz9, if_pos (by omega)]
            by_cases e : z = x
            · rw [if_pos e, if_pos e]; exact hf.2.2.1
            · rw [if_neg e, if_neg e]; exact hf.zero
          · rw [tr_ge (by omega), if_neg (by omega)]) (fun h3 col3 Ll3 w6 w7 w8 w9 t3 a31 a32 hcol3 hv3 f3 => ?_)
        rw [show a + (b - a) = b by omega] at hv3
        obtain ⟨C, D, Mo, FA, ⟨gq, SA, SB⟩, SC⟩ := id t3
        have hob3 := C.1.ob
        refine x_aload_n (pc := 315) dX7_rank_315 rfl ?_
        refine x_y0 (pc := 316) dX7_rank_316 wX7_newRow iX7_newRow kX7_158 (by decide) rfl (Nat.le_of_ble_eq_true rfl) hob3 (by omega) (m_newRow C hz hN ⟨g, σ, Mo⟩ (by omega) (by omega)) (fun v316 h316 e316 => ?_)
        obtain ⟨C4, f316, M4, g4, σ4, rfl, m4, n0, n1, n2⟩ := e316
        have t4 := t3.of C4 m4 f316
        refine x_astore (pc := 319) dX7_rank_319 (by decide) rfl ?_
        show Ex _ _ _ _ _ _ [_, _, _, _, _, _, _, _, _, _] _ _ _ _
        refine x_iconst (pc := 321) dX7_rank_321 ?_
        refine x_istore (pc := 322) dX7_rank_322 (by decide) rfl ?_
        show Ex _ _ _ _ _ _ [_, _, _, _, _, _, _, _, _, _] _ _ _ _
        refine k_rank8 (d := d) hz hN hP hT hl hs ha hb (by omega) hw 0 (by omega) h316 M4 t4 ((f316 _ (by omega) (by omega)).trans a31) ((f316 _ (by omega) (by omega)).trans a32) (fun h5 M5 t5 a51 a52 f5 e4 e5 => ?_)
        have hrow : ∀ c, tr (s b) f (M5 x) c = vKd (TK f T (Lw (W l)) s l) (fun t => a + t) x (b - a) c := fun c => by
          rw [← hv3 c]
          by_cases hc : c < s b
          · rw [tr_lt hc, tr_lt hc, e5 c, if_pos ⟨by omega, hc⟩]
          · rw [tr_ge (by omega), tr_ge (by omega)]
        refine x_iinc (pc := 353) dX7_rank_353 rfl (by decide) rfl ?_
        show Ex _ _ _ _ _ _ [_, _, _, _, _, _, _, _, _, _] _ _ _ _
        refine x_goto (pc := 356) (tgt := 83) dX7_rank_356 (by decide) ?_
        exact ih h5 M5 g4 σ4 col3 Ll3 _ _ _ _ _ t5 a51 a52 (fun z hz9 => by
          by_cases e : z = x
          · subst e; exact hrow
          · rw [e4 z e, n0 z e]; exact hr z (by omega)) (fun i j hi hj => by
          by_cases e : i = x
          · subst e; rw [e5 j, if_pos ⟨by omega, by omega⟩]; exact hcol3 j (by omega)
          · rw [e4 i e, n0 i e]; exact hM i j (by omega) hj) (fun h6 M6 g6 σ6 c6 l6 w5 w6 w7 w8 w9 t6 a61 a62 f6 => hq h6 M6 g6 σ6 c6 l6 w5 w6 w7 w8 w9 t6 a61 a62 ((((((Fk6.rf.up (by omega) (by omega)).tr f3).tr f316.t.k6).tr f5.k6).tr f6)))
      rw [show (fun z => if z < 0 then (if z = x then (1 : Int) else 0) else col z) = col from funext fun z => if_neg (Nat.not_lt_zero _), show up hp 396 (ar 0 4 col) = hp from by
        funext z
        by_cases e : z = 396
        · rw [e, up_s, A1]
        · rw [up_n _ _ e]] at key
      exact key

theorem k_rank2L {K : Type} [Lean.Grind.CommRing K] {f : Int → K} {G : GL} {d : Nat} {sz p N : Nat} (hz : 615 ≤ sz) (hN : 1 ≤ N ∧ N ≤ 8) (hP : isP p) {W : Nat → Nat} {S T : Nat → Int} (hT : inTm T p) {l a b : Nat} (hl : l < 8) {s : Nat → Nat} (hs : sz8 S l s) (ha : a < N) (hb : b < N) {Q : Option AV → HP → Nat → Prop} (hf : Iot p f) (hab : b < a) (hd : ∀ k, b ≤ k → k < a → Lw (W l) k = true) {ld : Nat → Int} {w : Nat} (hw : w = s b) {F : Nat → Int} {Qs : Nat → Nat → Int} : ∀ x, x ≤ s a → ∀ (hp : HP) (M : Nat → Nat → Int) (g : Nat → Option Nat) (σ : Nat → Nat) (col Ll : Nat → Int) (v5 v6 v7 v8 v9 : AV), TS hp p N W S T M ld x w g σ F Qs → hp 396 = ar 0 4 col → hp 397 = ar 0 4 Ll → (∀ z, z < x → ∀ c, tr (s b) f (M z) c = vKd (TK f T (Lw (W l)) s l) (fun t => a - t - 1) z (a - b) c) → inQ x w M p → (∀ h M1 g1 σ1 col1 Ll1 v5 v6 v7 v8 v9, TS h p N W S T M1 ld (s a) w g1 σ1 F Qs → h 396 = ar 0 4 col1 → h 397 = ar 0 4 Ll1 → Fk6 hp h → (∀ z, z < (s a) → ∀ c, tr (s b) f (M1 z) c = vKd (TK f T (Lw (W l)) s l) (fun t => a - t - 1) z (a - b) c) → inQ (s a) w M1 p → Ex G (d + 3) 0 0 mX7_rank 359 [vr 92, vi l, vi a, vi b, vi (s a : Nat), v5, v6, v7, v8, v9] [] h sz Q) → Ex G (d + 3) 0 0 mX7_rank 83 [vr 92, vi l, vi a, vi b, vi x, v5, v6, v7, v8, v9] [] hp sz Q := by
  have hpl := hP.le
  have hs4 := (hs a (by omega)).2
  have hb4 := (hs b (by omega)).2
  refine down (fun hp M g σ col Ll v5 v6 v7 v8 v9 t A1 A2 hr hM hq => ?_) (fun x hx ih hp M g σ col Ll v5 v6 v7 v8 v9 t A1 A2 hr hM hq => ?_)
  · obtain ⟨C, D, Mo, FA, ⟨gq, SA, SB⟩, SC⟩ := id t
    obtain ⟨C0, C1, C2, C3, C4, C5, C6, C7, C8, C11, C12, C13, C14, C15, C16, C17, C18, C19, C20, C21, C22, C23⟩ := id C
    have hob := C0.ob
    obtain ⟨D1, D2, D3, D4⟩ := id D
    obtain ⟨O1, O2, O3, O4, O5, O6⟩ := id Mo
    refine x_iload (pc := 83) dX7_rank_83 rfl ?_
    refine x_aload_n (pc := 85) dX7_rank_85 rfl ?_
    refine x_iload_n (pc := 86) dX7_rank_86 rfl ?_
    refine x_iload_n (pc := 87) dX7_rank_87 rfl ?_
    refine x_w2 (pc := 88) dX7_rank_88 wX7_at iX7_at kX7_118 (by decide) rfl (Nat.le_of_ble_eq_true rfl) (by assumption) (by omega) (m_at C hz hN D hl (by omega)) ?_
    rw [(hs _ (by omega)).1]
    refine x_icmp_ge (pc := 91) (tgt := 359) dX7_rank_91 (by decide) (by omega) (by omega) (fun c91 => ?_) (fun c91 => ?_)
    · exact hq hp M g σ col Ll _ _ _ _ _ t A1 A2 Fk6.rf hr hM
    · exact absurd c91 (by omega)
  · obtain ⟨C, D, Mo, FA, ⟨gq, SA, SB⟩, SC⟩ := id t
    obtain ⟨C0, C1, C2, C3, C4, C5, C6, C7, C8, C11, C12, C13, C14, C15, C16, C17, C18, C19, C20, C21, C22, C23⟩ := id C
    have hob := C0.ob
    obtain ⟨D1, D2, D3, D4⟩ := id D
    obtain ⟨O1, O2, O3, O4, O5, O6⟩ := id Mo
    refine x_iload (pc := 83) dX7_rank_83 rfl ?_
    refine x_aload_n (pc := 85) dX7_rank_85 rfl ?_
    refine x_iload_n (pc := 86) dX7_rank_86 rfl ?_
    refine x_iload_n (pc := 87) dX7_rank_87 rfl ?_
    refine x_w2 (pc := 88) dX7_rank_88 wX7_at iX7_at kX7_118 (by decide) rfl (Nat.le_of_ble_eq_true rfl) (by assumption) (by omega) (m_at C hz hN D hl (by omega)) ?_
    rw [(hs _ (by omega)).1]
    refine x_icmp_ge (pc := 91) (tgt := 359) dX7_rank_91 (by decide) (by omega) (by omega) (fun c91 => ?_) (fun c91 => ?_)
    · exact absurd c91 (by omega)
    · refine x_iconst (pc := 94) dX7_rank_94 ?_
      refine x_istore (pc := 95) dX7_rank_95 (by decide) rfl ?_
      show Ex _ _ _ _ _ _ [_, _, _, _, _, _, _, _, _, _] _ _ _ _
      have key : Ex G (d + 3) 0 0 mX7_rank 97 [vr 92, vi l, vi a, vi b, vi x, vi (0 : Nat), v6, v7, v8, v9] [] (up hp 396 (ar 0 4 (fun z => if z < 0 then (if z = x then (1 : Int) else 0) else col z))) sz Q := by
        refine k_rank3 (d := d) hz hN hP hT hl hs ha hb t (by omega) ?_ 0 (by omega)
        refine x_iload_n (pc := 128) dX7_rank_128 rfl ?_
        refine x_istore (pc := 129) dX7_rank_129 (by decide) rfl ?_
        show Ex _ _ _ _ _ _ [_, _, _, _, _, _, _, _, _, _] _ _ _ _
        have t2 := t.keep (h' := up hp 396 (ar 0 4 (fun z => if z < 4 then (if z = x then (1 : Int) else 0) else col z))) (fun x hx => up_n _ _ (by omega))
        refine k_rank4L (d := d) hz hN hP hT hl hs ha hb hf hab hd (x := x) hx 0 (by omega) _ (fun z => if z < 4 then (if z = x then (1 : Int) else 0) else col z) Ll _ _ _ _ t2 (up_s _ _ _) ((up_n _ _ (by omega)).trans A2) (fun j hj => by rw [if_pos hj]; split <;> omega) (fun z => by
          show _ = e1 x z
          unfold e1
          rw [show a - 0 = a from rfl]
          by_cases hz9 : z < s a
          · rw [tr_lt hz9, if_pos (by omega)]
            by_cases e : z = x
            · rw [if_pos e, if_pos e]; exact hf.2.2.1
            · rw [if_neg e, if_neg e]; exact hf.zero
          · rw [tr_ge (by omega), if_neg (by omega)]) (fun h3 col3 Ll3 w6 w7 w8 w9 t3 a31 a32 hcol3 hv3 f3 => ?_)
        rw [show a - (a - b) = b by omega] at hv3
        obtain ⟨C, D, Mo, FA, ⟨gq, SA, SB⟩, SC⟩ := id t3
        have hob3 := C.1.ob
        refine x_aload_n (pc := 315) dX7_rank_315 rfl ?_
        refine x_y0 (pc := 316) dX7_rank_316 wX7_newRow iX7_newRow kX7_158 (by decide) rfl (Nat.le_of_ble_eq_true rfl) hob3 (by omega) (m_newRow C hz hN ⟨g, σ, Mo⟩ (by omega) (by omega)) (fun v316 h316 e316 => ?_)
        obtain ⟨C4, f316, M4, g4, σ4, rfl, m4, n0, n1, n2⟩ := e316
        have t4 := t3.of C4 m4 f316
        refine x_astore (pc := 319) dX7_rank_319 (by decide) rfl ?_
        show Ex _ _ _ _ _ _ [_, _, _, _, _, _, _, _, _, _] _ _ _ _
        refine x_iconst (pc := 321) dX7_rank_321 ?_
        refine x_istore (pc := 322) dX7_rank_322 (by decide) rfl ?_
        show Ex _ _ _ _ _ _ [_, _, _, _, _, _, _, _, _, _] _ _ _ _
        refine k_rank8 (d := d) hz hN hP hT hl hs ha hb (by omega) hw 0 (by omega) h316 M4 t4 ((f316 _ (by omega) (by omega)).trans a31) ((f316 _ (by omega) (by omega)).trans a32) (fun h5 M5 t5 a51 a52 f5 e4 e5 => ?_)
        have hrow : ∀ c, tr (s b) f (M5 x) c = vKd (TK f T (Lw (W l)) s l) (fun t => a - t - 1) x (a - b) c := fun c => by
          rw [← hv3 c]
          by_cases hc : c < s b
          · rw [tr_lt hc, tr_lt hc, e5 c, if_pos ⟨by omega, hc⟩]
          · rw [tr_ge (by omega), tr_ge (by omega)]
        refine x_iinc (pc := 353) dX7_rank_353 rfl (by decide) rfl ?_
        show Ex _ _ _ _ _ _ [_, _, _, _, _, _, _, _, _, _] _ _ _ _
        refine x_goto (pc := 356) (tgt := 83) dX7_rank_356 (by decide) ?_
        exact ih h5 M5 g4 σ4 col3 Ll3 _ _ _ _ _ t5 a51 a52 (fun z hz9 => by
          by_cases e : z = x
          · subst e; exact hrow
          · rw [e4 z e, n0 z e]; exact hr z (by omega)) (fun i j hi hj => by
          by_cases e : i = x
          · subst e; rw [e5 j, if_pos ⟨by omega, by omega⟩]; exact hcol3 j (by omega)
          · rw [e4 i e, n0 i e]; exact hM i j (by omega) hj) (fun h6 M6 g6 σ6 c6 l6 w5 w6 w7 w8 w9 t6 a61 a62 f6 => hq h6 M6 g6 σ6 c6 l6 w5 w6 w7 w8 w9 t6 a61 a62 ((((((Fk6.rf.up (by omega) (by omega)).tr f3).tr f316.t.k6).tr f5.k6).tr f6)))
      rw [show (fun z => if z < 0 then (if z = x then (1 : Int) else 0) else col z) = col from funext fun z => if_neg (Nat.not_lt_zero _), show up hp 396 (ar 0 4 col) = hp from by
        funext z
        by_cases e : z = 396
        · rw [e, up_s, A1]
        · rw [up_n _ _ e]] at key
      exact key

theorem k_rank1 {G : GL} {d : Nat} {sz p N : Nat} (hz : 615 ≤ sz) (hN : 1 ≤ N ∧ N ≤ 8) (hP : isP p) {W : Nat → Nat} {S T : Nat → Int} (hT : inTm T p) {l a b : Nat} (hl : l < 8) {s : Nat → Nat} (hs : sz8 S l s) (ha : a < N) (hb : b < N) {Q : Option AV → HP → Nat → Prop} {hp : HP} {M : Nat → Nat → Int} {ld : Nat → Int} {m w : Nat} {g : Nat → Option Nat} {σ : Nat → Nat} {F : Nat → Int} {Qs : Nat → Nat → Int} (t : TS hp p N W S T M ld m w g σ F Qs) {lo hi : Nat} (hhi : hi < 8) (hmx : max (a : Int) (b : Int) = (hi : Nat)) {v5 v6 v7 v8 v9 : AV} (hno : (∃ k, lo ≤ k ∧ k < hi ∧ Lw (W l) k ≠ decide (b < a)) → Q (some (vi (-1))) hp sz) : ∀ k, k ≤ hi → lo ≤ k → ((∀ j, k ≤ j → j < hi → Lw (W l) j = decide (b < a)) → Ex G (d + 3) 0 0 mX7_rank 70 [vr 92, vi l, vi a, vi b, vi hi, v5, v6, v7, v8, v9] [] hp sz Q) → Ex G (d + 3) 0 0 mX7_rank 32 [vr 92, vi l, vi a, vi b, vi k, v5, v6, v7, v8, v9] [] hp sz Q := by
  obtain ⟨C, D, Mo, FA, ⟨gq, SA, SB⟩, SC⟩ := id t
  obtain ⟨C0, C1, C2, C3, C4, C5, C6, C7, C8, C11, C12, C13, C14, C15, C16, C17, C18, C19, C20, C21, C22, C23⟩ := id C
  have hob := C0.ob
  obtain ⟨D1, D2, D3, D4⟩ := id D
  obtain ⟨O1, O2, O3, O4, O5, O6⟩ := id Mo
  refine down (fun hlo hq => ?_) (fun k hk ih hlo hq => ?_)
  · refine x_iload (pc := 32) dX7_rank_32 rfl ?_
    refine x_iload_n (pc := 34) dX7_rank_34 rfl ?_
    refine x_iload_n (pc := 35) dX7_rank_35 rfl ?_
    refine x_t2 (pc := 36) dX7_rank_36 wJ9_max_7cf53 sJ9_max_7cf53 kX7_90 (by decide) rfl (Nat.le_of_ble_eq_true rfl) (t_max (by omega) (by omega)) ?_
    rw [hmx]
    refine x_icmp_ge (pc := 39) (tgt := 70) dX7_rank_39 (by decide) (by omega) (by omega) (fun c39 => ?_) (fun c39 => ?_)
    · exact hq (fun j h1 h2 => absurd h2 (by omega))
    · exact absurd c39 (by omega)
  · refine x_iload (pc := 32) dX7_rank_32 rfl ?_
    refine x_iload_n (pc := 34) dX7_rank_34 rfl ?_
    refine x_iload_n (pc := 35) dX7_rank_35 rfl ?_
    refine x_t2 (pc := 36) dX7_rank_36 wJ9_max_7cf53 sJ9_max_7cf53 kX7_90 (by decide) rfl (Nat.le_of_ble_eq_true rfl) (t_max (by omega) (by omega)) ?_
    rw [hmx]
    refine x_icmp_ge (pc := 39) (tgt := 70) dX7_rank_39 (by decide) (by omega) (by omega) (fun c39 => ?_) (fun c39 => ?_)
    · exact absurd c39 (by omega)
    · refine x_aload_n (pc := 42) dX7_rank_42 rfl ?_
      refine x_iload_n (pc := 43) dX7_rank_43 rfl ?_
      refine x_iload (pc := 44) dX7_rank_44 rfl ?_
      refine x_w2 (pc := 46) dX7_rank_46 wX7_isLeft iX7_isLeft kX7_100 (by decide) rfl (Nat.le_of_ble_eq_true rfl) (by assumption) (by omega) (m_isLeft C hz hN D hl (by omega)) ?_
      refine x_iload_n (pc := 49) dX7_rank_49 rfl ?_
      refine x_iload_n (pc := 50) dX7_rank_50 rfl ?_
      refine x_icmp_le (pc := 51) (tgt := 58) dX7_rank_51 (by decide) (by omega) (by omega) (fun c51 => ?_) (fun c51 => ?_)
      · refine x_iconst (pc := 58) dX7_rank_58 ?_
        refine x_icmp_eq (pc := 59) (tgt := 64) dX7_rank_59 (by decide) (bz_rg _) (by omega) (fun c59 => ?_) (fun c59 => ?_)
        · refine x_iinc (pc := 64) dX7_rank_64 rfl (by decide) rfl ?_
          show Ex _ _ _ _ _ _ [_, _, _, _, _, _, _, _, _, _] _ _ _ _
          refine x_goto (pc := 67) (tgt := 32) dX7_rank_67 (by decide) ?_
          exact ih (by omega) (fun h => hq (fun j h1 h2 => by
            by_cases e : j = k
            · subst e
              show (W l).testBit j = decide (b < a)
              first
                | (rw [show decide (b < a) = true from decide_eq_true (by omega)]; cases hh : (W l).testBit j; (rw [hh] at c59; exact absurd c59 (by decide)); rfl)
                | (rw [show decide (b < a) = false from decide_eq_false (by omega)]; cases hh : (W l).testBit j; rfl; (rw [hh] at c59; exact absurd c59 (by decide)))
            · exact h j (by omega) h2))
        · refine x_iconst (pc := 62) dX7_rank_62 ?_
          refine x_iret (pc := 63) dX7_rank_63 rfl (hno ⟨k, hlo, hk, fun e => by rw [show (W l).testBit k = decide (b < a) from e] at c59; first | exact c59 (by rw [show decide (b < a) = true from decide_eq_true (by omega)]; rfl) | exact c59 (by rw [show decide (b < a) = false from decide_eq_false (by omega)]; rfl)⟩)
      · refine x_iconst (pc := 54) dX7_rank_54 ?_
        refine x_goto (pc := 55) (tgt := 59) dX7_rank_55 (by decide) ?_
        refine x_icmp_eq (pc := 59) (tgt := 64) dX7_rank_59 (by decide) (bz_rg _) (by omega) (fun c59 => ?_) (fun c59 => ?_)
        · refine x_iinc (pc := 64) dX7_rank_64 rfl (by decide) rfl ?_
          show Ex _ _ _ _ _ _ [_, _, _, _, _, _, _, _, _, _] _ _ _ _
          refine x_goto (pc := 67) (tgt := 32) dX7_rank_67 (by decide) ?_
          exact ih (by omega) (fun h => hq (fun j h1 h2 => by
            by_cases e : j = k
            · subst e
              show (W l).testBit j = decide (b < a)
              first
                | (rw [show decide (b < a) = true from decide_eq_true (by omega)]; cases hh : (W l).testBit j; (rw [hh] at c59; exact absurd c59 (by decide)); rfl)
                | (rw [show decide (b < a) = false from decide_eq_false (by omega)]; cases hh : (W l).testBit j; rfl; (rw [hh] at c59; exact absurd c59 (by decide)))
            · exact h j (by omega) h2))
        · refine x_iconst (pc := 62) dX7_rank_62 ?_
          refine x_iret (pc := 63) dX7_rank_63 rfl (hno ⟨k, hlo, hk, fun e => by rw [show (W l).testBit k = decide (b < a) from e] at c59; first | exact c59 (by rw [show decide (b < a) = true from decide_eq_true (by omega)]; rfl) | exact c59 (by rw [show decide (b < a) = false from decide_eq_false (by omega)]; rfl)⟩)

set_option maxRecDepth 4000 in
theorem m_rank {K : Type} [Lean.Grind.CommRing K] {f : Int → K} {G : GL} {d : Nat} {sz p N : Nat} (hf : Iot p f) (hz : 615 ≤ sz) (hN : 1 ≤ N ∧ N ≤ 8) (hP : isP p) {W : Nat → Nat} {S T : Nat → Int} (hS : inSm S) (hT : inTm T p) {Rb : Nat → Nat} {st en : Nat → Nat → Nat} {xb : Nat → Nat → Nat → Nat → K} (hBs : ∀ l, l < 8 → Bar N 4 (szs S l) (Lw (W l)) (TK f T (Lw (W l)) (szs S l) l) (Rb l) (st l) (en l) (xb l)) {hp : HP} (tx : TX hp p N W S T) (cl : ∃ col Ll, hp 396 = ar 0 4 col ∧ hp 397 = ar 0 4 Ll) {x : Int} (hx : -2147483648 ≤ x ∧ x < 2147483648) {y : Int} (hy : -2147483648 ≤ y ∧ y < 2147483648) {z : Int} (hz1 : -2147483648 ≤ z ∧ z < 2147483648) : Ct G (d + 3) 0 0 mX7_rank [vr 92, vi x, vi y, vi z] hp sz (Vs (fun v h => (((0 ≤ x ∧ x < 8 ∧ 0 ≤ y ∧ y < N ∧ 0 ≤ z ∧ z < N ∧ ∀ k : Nat, min y.toNat z.toNat ≤ k → k < max y.toNat z.toNat → Lw (W x.toNat) k = decide (z.toNat < y.toNat)) ∧ v = vi (cov (Rb x.toNat) (st x.toNat) (en x.toNat) (min y.toNat z.toNat) (max y.toNat z.toNat) : Nat)) ∨ ((¬ (0 ≤ x ∧ x < 8 ∧ 0 ≤ y ∧ y < N ∧ 0 ≤ z ∧ z < N ∧ ∀ k : Nat, min y.toNat z.toNat ≤ k → k < max y.toNat z.toNat → Lw (W x.toNat) k = decide (z.toNat < y.toNat))) ∧ v = vi (-1))) ∧ TX h p N W S T ∧ (∃ col Ll, h 396 = ar 0 4 col ∧ h 397 = ar 0 4 Ll) ∧ Fk6 hp h) sz) := by
  show Ex _ _ _ _ _ _ [vr 92, vi x, vi y, vi z, vu, vu, vu, vu, vu, vu] _ _ _ _
  have hpl := hP.le
  obtain ⟨M, ld, m, w, g, σ, F, Qs, t⟩ := tx
  obtain ⟨col, Ll, A1, A2⟩ := cl
  obtain ⟨C, D, Mo, FA, ⟨gq, SA, SB⟩, SC⟩ := id t
  obtain ⟨C0, C1, C2, C3, C4, C5, C6, C7, C8, C11, C12, C13, C14, C15, C16, C17, C18, C19, C20, C21, C22, C23⟩ := id C
  have hob := C0.ob
  obtain ⟨D1, D2, D3, D4⟩ := id D
  obtain ⟨O1, O2, O3, O4, O5, O6⟩ := id Mo
  refine x_iload_n (pc := 0) dX7_rank_0 rfl ?_
  refine x_t1 (pc := 1) dX7_rank_1 wX7_isLaying sX7_isLaying kX7_104 (by decide) rfl (Nat.le_of_ble_eq_true rfl) (m_isLaying hx) ?_
  refine x_if_eq (pc := 4) (tgt := 23) dX7_rank_4 (by decide) (bz_rg _) (fun c4 => ?_) (fun c4 => ?_)
  · have d1 := bz_e c4
    refine x_iconst (pc := 23) dX7_rank_23 ?_
    refine x_iret (pc := 24) dX7_rank_24 rfl ⟨_, rfl, rfl, Or.inr ⟨fun q => by omega, rfl⟩, ⟨M, ld, m, w, g, σ, F, Qs, t⟩, ⟨col, Ll, A1, A2⟩, Fk6.rf⟩
  · have d1 := bz_n c4
    refine x_aload_n (pc := 7) dX7_rank_7 rfl ?_
    refine x_iload_n (pc := 8) dX7_rank_8 rfl ?_
    refine x_w1 (pc := 9) dX7_rank_9 wX7_isPost iX7_isPost kX7_136 (by decide) rfl (Nat.le_of_ble_eq_true rfl) (by assumption) (by omega) (m_isPost C hz hN hy) ?_
    refine x_if_eq (pc := 12) (tgt := 23) dX7_rank_12 (by decide) (bz_rg _) (fun c12 => ?_) (fun c12 => ?_)
    · have d2 := bz_e c12
      refine x_iconst (pc := 23) dX7_rank_23 ?_
      refine x_iret (pc := 24) dX7_rank_24 rfl ⟨_, rfl, rfl, Or.inr ⟨fun q => by omega, rfl⟩, ⟨M, ld, m, w, g, σ, F, Qs, t⟩, ⟨col, Ll, A1, A2⟩, Fk6.rf⟩
    · have d2 := bz_n c12
      refine x_aload_n (pc := 15) dX7_rank_15 rfl ?_
      refine x_iload_n (pc := 16) dX7_rank_16 rfl ?_
      refine x_w1 (pc := 17) dX7_rank_17 wX7_isPost iX7_isPost kX7_136 (by decide) rfl (Nat.le_of_ble_eq_true rfl) (by assumption) (by omega) (m_isPost C hz hN hz1) ?_
      refine x_if_ne (pc := 20) (tgt := 25) dX7_rank_20 (by decide) (bz_rg _) (fun c20 => ?_) (fun c20 => ?_)
      · have d3 := bz_n c20
        obtain ⟨l, rfl⟩ : ∃ l : Nat, x = (l : Int) := ⟨x.toNat, by omega⟩
        obtain ⟨a, rfl⟩ : ∃ l : Nat, y = (l : Int) := ⟨y.toNat, by omega⟩
        obtain ⟨b, rfl⟩ : ∃ l : Nat, z = (l : Int) := ⟨z.toNat, by omega⟩
        simp only [Int.toNat_natCast]
        have hl : l < 8 := by omega
        refine x_iload_n (pc := 25) dX7_rank_25 rfl ?_
        refine x_iload_n (pc := 26) dX7_rank_26 rfl ?_
        refine x_t2 (pc := 27) dX7_rank_27 wJ9_min_7cf53 sJ9_min_7cf53 kX7_84 (by decide) rfl (Nat.le_of_ble_eq_true rfl) (t_min (by omega) (by omega)) ?_
        rw [show min (a : Int) (b : Int) = ((min a b : Nat) : Int) by omega]
        refine x_istore (pc := 30) dX7_rank_30 (by decide) rfl ?_
        show Ex _ _ _ _ _ _ [_, _, _, _, _, _, _, _, _, _] _ _ _ _
        refine k_rank1 (d := d) hz hN hP hT hl (szs_8 hS hl) (by omega) (by omega) t (lo := min a b) (hi := max a b) (by omega) (by omega) (fun q => ?_) (min a b) (by omega) (Nat.le_refl _) (fun hall => ?_)
        · obtain ⟨k, q1, q2, q3⟩ := q
          exact ⟨_, rfl, rfl, Or.inr ⟨fun z => q3 (z.2.2.2.2.2.2 k q1 q2), rfl⟩, ⟨M, ld, m, w, g, σ, F, Qs, t⟩, ⟨col, Ll, A1, A2⟩, Fk6.rf⟩
        · have hB := hBs l (by omega)
          have hs := szs_8 hS hl
          have hs4 := (hs a (by omega)).2
          have hb4 := (hs b (by omega)).2
          refine x_aload_n (pc := 70) dX7_rank_70 rfl ?_
          refine x_aload_n (pc := 71) dX7_rank_71 rfl ?_
          refine x_iload_n (pc := 72) dX7_rank_72 rfl ?_
          refine x_iload_n (pc := 73) dX7_rank_73 rfl ?_
          refine x_w2 (pc := 74) dX7_rank_74 wX7_at iX7_at kX7_118 (by decide) rfl (Nat.le_of_ble_eq_true rfl) (by assumption) (by omega) (m_at C hz hN D hl (by omega)) ?_
          rw [(szs_8 hS hl _ (by omega)).1]
          refine x_p1 (pc := 77) dX7_rank_77 wX7_begin iX7_begin kX7_155 (by decide) rfl (Nat.le_of_ble_eq_true rfl) (by assumption) (by omega) (m_begin C hz hN ⟨g, σ, Mo⟩ (n := szs S l b)) (fun h77 e77 => ?_)
          obtain ⟨CB, fB, gB, σB, moB⟩ := e77
          have tB := t.of CB moB fB
          refine x_iconst (pc := 80) dX7_rank_80 ?_
          refine x_istore (pc := 81) dX7_rank_81 (by decide) rfl ?_
          show Ex _ _ _ _ _ _ [_, _, _, _, _, _, _, _, _, _] _ _ _ _
          by_cases hab : a ≤ b
          · have hd : ∀ k, a ≤ k → k < b → Lw (W l) k = false := fun k h1 h2 => by rw [hall k (by omega) (by omega)]; exact decide_eq_false (by omega)
            refine k_rank2R (d := d) hz hN hP hT hl hs (by omega) (by omega) hf hab hd rfl 0 (by omega) h77 M gB σB col Ll _ _ _ _ _ tB ((fB _ (by omega) (by omega)).trans A1) ((fB _ (by omega) (by omega)).trans A2) (fun z hz9 => absurd hz9 (Nat.not_lt_zero _)) (fun i j hi => absurd hi (Nat.not_lt_zero _)) (fun h3 M3 g3 σ3 c3 l3 v5 v6 v7 v8 v9 t3 a31 a32 f3 hr3 hM3 => ?_)
            obtain ⟨C, D, Mo, FA, ⟨gq, SA, SB⟩, SC⟩ := id t3
            have hob3 := C.1.ob
            refine x_aload_n (pc := 359) dX7_rank_359 rfl ?_
            refine x_y0 (pc := 360) dX7_rank_360 wX7_reduce iX7_reduce kX7_162 (by decide) rfl (Nat.le_of_ble_eq_true rfl) hob3 (by omega) (m_reduceK hf C hz hN hP ⟨g3, σ3, Mo⟩ (by omega) (by omega) hM3) (fun v360 h360 e360 => ?_)
            obtain ⟨C4, f360, M4, ld4, k4, rfl, ⟨g4, σ4, mo4⟩, q4, k42, k43, rk4, ls4, in4, sp4⟩ := e360
            refine x_iret (pc := 363) dX7_rank_363 rfl (by
              have key : k4 = cov (Rb l) (st l) (en l) (min a b) (max a b) := by
                refine rank_K (pk := fun t => a + t) (ak := fun t => a + t) (n := b - a) hf hP hB (by omega) (by omega) (fun tt htt => ?_) (fun tt htt r h1 h2 => ⟨by have := h1.1; omega, by have := h2.2; omega⟩) (fun r => ?_) (M := M3) (fun z hz9 c => ?_) (k1 := k4) (M1 := fun i => tr (szs S l b) f (M4 i)) (H := fun r => (ld4 r).toNat) ?_ ?_
                · have := hd (a + tt) (by omega) (by omega)
                  refine ⟨by omega, ?_, ?_⟩
                  · unfold so; rw [this]; rfl
                  · unfold ta; rw [this]; rfl
                · unfold lv
                  try dsimp only
                  rw [show a + (b - a) = b by omega]
                  omega
                · try dsimp only
                  rw [show a + (b - a) = b by omega]
                  exact hr3 z hz9 c
                · try dsimp only
                  rw [show a + (b - a) = b by omega]
                  exact rk4
                · intro v
                  try dsimp only
                  rw [show a + (b - a) = b by omega]
                  exact sp4 v
              exact ⟨_, rfl, rfl, Or.inl ⟨⟨by omega, by omega, by omega, by omega, by omega, by omega, hall⟩, by rw [key]⟩, ⟨M4, ld4, k4, _, g4, σ4, F, Qs, t3.of C4 mo4 f360⟩, ⟨_, _, (f360 _ (by omega) (by omega)).trans a31, (f360 _ (by omega) (by omega)).trans a32⟩, ((fB.t.k6).tr f3).tr f360.t.k6⟩)
          · have hd : ∀ k, b ≤ k → k < a → Lw (W l) k = true := fun k h1 h2 => by rw [hall k (by omega) (by omega)]; exact decide_eq_true (by omega)
            refine k_rank2L (d := d) hz hN hP hT hl hs (by omega) (by omega) hf (by omega) hd rfl 0 (by omega) h77 M gB σB col Ll _ _ _ _ _ tB ((fB _ (by omega) (by omega)).trans A1) ((fB _ (by omega) (by omega)).trans A2) (fun z hz9 => absurd hz9 (Nat.not_lt_zero _)) (fun i j hi => absurd hi (Nat.not_lt_zero _)) (fun h3 M3 g3 σ3 c3 l3 v5 v6 v7 v8 v9 t3 a31 a32 f3 hr3 hM3 => ?_)
            obtain ⟨C, D, Mo, FA, ⟨gq, SA, SB⟩, SC⟩ := id t3
            have hob3 := C.1.ob
            refine x_aload_n (pc := 359) dX7_rank_359 rfl ?_
            refine x_y0 (pc := 360) dX7_rank_360 wX7_reduce iX7_reduce kX7_162 (by decide) rfl (Nat.le_of_ble_eq_true rfl) hob3 (by omega) (m_reduceK hf C hz hN hP ⟨g3, σ3, Mo⟩ (by omega) (by omega) hM3) (fun v360 h360 e360 => ?_)
            obtain ⟨C4, f360, M4, ld4, k4, rfl, ⟨g4, σ4, mo4⟩, q4, k42, k43, rk4, ls4, in4, sp4⟩ := e360
            refine x_iret (pc := 363) dX7_rank_363 rfl (by
              have key : k4 = cov (Rb l) (st l) (en l) (min a b) (max a b) := by
                refine rank_K (pk := fun t => a - t) (ak := fun t => a - t - 1) (n := a - b) hf hP hB (by omega) (by omega) (fun tt htt => ?_) (fun tt htt r h1 h2 => ⟨by have := h2.1; omega, by have := h1.2; omega⟩) (fun r => ?_) (M := M3) (fun z hz9 c => ?_) (k1 := k4) (M1 := fun i => tr (szs S l b) f (M4 i)) (H := fun r => (ld4 r).toNat) ?_ ?_
                · have := hd (a - tt - 1) (by omega) (by omega)
                  refine ⟨by omega, ?_, ?_⟩
                  · unfold so; rw [this]; show a - tt - 1 + 1 = a - tt; omega
                  · unfold ta; rw [this]; show a - tt - 1 = a - (tt + 1); omega
                · unfold lv
                  try dsimp only
                  rw [show a - (a - b) = b by omega]
                  omega
                · try dsimp only
                  rw [show a - (a - b) = b by omega]
                  exact hr3 z hz9 c
                · try dsimp only
                  rw [show a - (a - b) = b by omega]
                  exact rk4
                · intro v
                  try dsimp only
                  rw [show a - (a - b) = b by omega]
                  exact sp4 v
              exact ⟨_, rfl, rfl, Or.inl ⟨⟨by omega, by omega, by omega, by omega, by omega, by omega, hall⟩, by rw [key]⟩, ⟨M4, ld4, k4, _, g4, σ4, F, Qs, t3.of C4 mo4 f360⟩, ⟨_, _, (f360 _ (by omega) (by omega)).trans a31, (f360 _ (by omega) (by omega)).trans a32⟩, ((fB.t.k6).tr f3).tr f360.t.k6⟩)
      · have d3 := bz_e c20
        refine x_iconst (pc := 23) dX7_rank_23 ?_
        refine x_iret (pc := 24) dX7_rank_24 rfl ⟨_, rfl, rfl, Or.inr ⟨fun q => by omega, rfl⟩, ⟨M, ld, m, w, g, σ, F, Qs, t⟩, ⟨col, Ll, A1, A2⟩, Fk6.rf⟩
