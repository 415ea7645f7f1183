/-- the two turned tables, so far -/
def FfP (b : Bool) (N t x u nn c f : Nat) (val : Nat → Nat → Int) (E0 E : Nat → Int) : Prop := (0 < t → ∀ place ix, place < 4 → ix < 4 → E (pos b (t - 1) place ix) = if place < x ∧ ix < nn ∧ (place < c ∨ (place = c ∧ ix < f)) then val place ix else 0) ∧ (t + 1 < N → ∀ place ix, place < 4 → ix < 4 → E (pos b t place ix) = if place < u ∧ ix < nn ∧ (x + place < c ∨ (x + place = c ∧ ix < f)) then val (x + place) ix else 0) ∧ ∀ y, ¬ inB N t y → E y = E0 y
theorem FfP.put {b : Bool} {N t x u nn c f : Nat} {val : Nat → Nat → Int} {E0 E : Nat → Int} (h : FfP b N t x u nn c f val E0 E) (hc : c < x + u) (hf : f < nn) (hx : x ≤ 4) (hu : u ≤ 4) (hn : nn ≤ 4) (hx0 : 0 < x → 0 < t) (hu0 : 0 < u → t + 1 < N) : FfP b N t x u nn c (f + 1) val E0 (up E (pos b (if c < x then t - 1 else t) (if c < x then c else c - x) f) (val c f)) := by
  have hne : ∀ k k' pl ix pl' ix', k ≠ k' → pl < 4 → ix < 4 → pl' < 4 → ix' < 4 → pos b k pl ix ≠ pos b k' pl' ix' := fun k k' pl ix pl' ix' hk h1 h2 h3 h4 e => by
    have a := pos_rg (b := b) (k := k) h1 h2
    have c := pos_rg (b := b) (k := k') h3 h4
    omega
  by_cases cx : c < x
  · rw [if_pos cx, if_pos cx]
    refine ⟨fun t0 place ix h1 h2 => ?_, fun t1 place ix h1 h2 => ?_, fun y hy => ?_⟩
    · by_cases e : place = c ∧ ix = f
      · rw [e.1, e.2, up_s, if_pos (by omega)]
      · rw [up_n _ _ (fun z => e (pos_inj h1 h2 (by omega) (by omega) z)), h.1 t0 place ix h1 h2]
        by_cases q : place < x ∧ ix < nn ∧ (place < c ∨ (place = c ∧ ix < f))
        · rw [if_pos q, if_pos (by omega)]
        · rw [if_neg q, if_neg (by omega)]
    · rw [up_n _ _ (hne _ _ _ _ _ _ (by omega) h1 h2 (by omega) (by omega)), h.2.1 t1 place ix h1 h2]
      by_cases q : place < u ∧ ix < nn ∧ (x + place < c ∨ (x + place = c ∧ ix < f))
      · rw [if_pos q, if_pos (by omega)]
      · rw [if_neg q, if_neg (by omega)]
    · have := pos_rg (b := b) (k := t - 1) (show c < 4 by omega) (show f < 4 by omega)
      rw [up_n _ _ (fun e => hy (Or.inl ⟨by omega, by omega⟩))]
      exact h.2.2 y hy
  · rw [if_neg cx, if_neg cx]
    refine ⟨fun t0 place ix h1 h2 => ?_, fun t1 place ix h1 h2 => ?_, fun y hy => ?_⟩
    · rw [up_n _ _ (hne _ _ _ _ _ _ (by omega) h1 h2 (by omega) (by omega)), h.1 t0 place ix h1 h2]
      by_cases q : place < x ∧ ix < nn ∧ (place < c ∨ (place = c ∧ ix < f))
      · rw [if_pos q, if_pos (by omega)]
      · rw [if_neg q, if_neg (by omega)]
    · by_cases e : place = c - x ∧ ix = f
      · rw [e.1, e.2, up_s, if_pos (by omega), show x + (c - x) = c by omega]
      · rw [up_n _ _ (fun z => e (pos_inj h1 h2 (by omega) (by omega) z)), h.2.1 t1 place ix h1 h2]
        by_cases q : place < u ∧ ix < nn ∧ (x + place < c ∨ (x + place = c ∧ ix < f))
        · rw [if_pos q, if_pos (by omega)]
        · rw [if_neg q, if_neg (by omega)]
    · have := pos_rg (b := b) (k := t) (show c - x < 4 by omega) (show f < 4 by omega)
      rw [up_n _ _ (fun e => hy (Or.inr ⟨by omega, by omega⟩))]
      exact h.2.2 y hy
theorem FfP.next {b : Bool} {N t x u nn c : Nat} {val : Nat → Nat → Int} {E0 E : Nat → Int} (h : FfP b N t x u nn c nn val E0 E) : FfP b N t x u nn (c + 1) 0 val E0 E := by
  refine ⟨fun t0 place ix h1 h2 => ?_, fun t1 place ix h1 h2 => ?_, h.2.2⟩
  · rw [h.1 t0 place ix h1 h2]
    by_cases q : place < x ∧ ix < nn ∧ (place < c ∨ (place = c ∧ ix < nn))
    · rw [if_pos q, if_pos (by omega)]
    · rw [if_neg q, if_neg (by omega)]
  · rw [h.2.1 t1 place ix h1 h2]
    by_cases q : place < u ∧ ix < nn ∧ (x + place < c ∨ (x + place = c ∧ ix < nn))
    · rw [if_pos q, if_pos (by omega)]
    · rw [if_neg q, if_neg (by omega)]
theorem FfP.clear {b : Bool} {N t x u nn : Nat} {val : Nat → Nat → Int} {E1 : Nat → Int} : FfP b N t x u nn 0 0 val E1 (clE N t 4 0 E1) := by
  refine ⟨fun t0 place ix h1 h2 => ?_, fun t1 place ix h1 h2 => ?_, fun y hy => ?_⟩
  · have := pos_rg (b := b) (k := t - 1) h1 h2
    rw [if_neg (by omega)]
    exact if_pos ⟨Or.inl ⟨t0, by omega⟩, by omega⟩
  · have := pos_rg (b := b) (k := t) h1 h2
    rw [if_neg (by omega)]
    exact if_pos ⟨Or.inr ⟨t1, by omega⟩, by omega⟩
  · exact if_neg (fun q => hy q.1)

theorem k_tf3 {G : GL} {d : Nat} {sz p N : Nat} (hz : 615 ≤ sz) (hN : 1 ≤ N ∧ N ≤ 8) (hP : isP p) {W : Nat → Nat} {S T : Nat → Int} {l t z x u mm nn : Nat} (ht : t < N) {b : Bool} (hx : x ≤ 4) (hu : u ≤ 4) (hnn : nn ≤ 4) (hx0 : 0 < x → 0 < t) (hu0 : 0 < u → t + 1 < N) {M : Nat → Nat → Int} {ld : Nat → Int} {m w : Nat} (hm : m ≤ 8) (hw : w = x + u) (hM : inQ m w M p) (hld : ∀ r, r < m → 0 ≤ ld r ∧ ld r < w) {F : Nat → Int} {Qs : Nat → Nat → Int} {g : Nat → Option Nat} {σ : Nat → Nat} {f0 : Nat → Int} {Kf : Nat → Nat} (hKf : ∀ i, i < nn → f0 i = (Kf i : Int) ∧ Kf i < w) {E0 : Nat → Int} {i12 w3 h4 h5 : Int} {v6 v7 : AV} {Q : Option AV → HP → Nat → Prop} {hp : HP} (tt : TS hp p N W S T M ld m w g σ F Qs) (A1 : hp 360 = ar 0 9 f0) {c f : Nat} (hc : c < x + u) (hf : f < nn) {v19 : AV} (hq : Ex G (d + 3) 0 0 mX7_turn 612 [vr 92, vi l, vi t, vi z, vi h4, vi h5, v6, v7, vi (bz b), vi x, vi u, vi mm, vi i12, vi nn, vi w3, vi c, vi f, vi (vvS p M ld c (Kf f) (if c = Kf f then 1 else 0) m), vi m, v19] [] hp sz Q) : ∀ k, k ≤ m → Ex G (d + 3) 0 0 mX7_turn 563 [vr 92, vi l, vi t, vi z, vi h4, vi h5, v6, v7, vi (bz b), vi x, vi u, vi mm, vi i12, vi nn, vi w3, vi c, vi f, vi (vvS p M ld c (Kf f) (if c = Kf f then 1 else 0) k), vi k, v19] [] hp sz Q := by
  obtain ⟨C, D, Mo, FA, ⟨gq, SA, SB⟩, SC⟩ := id tt
  obtain ⟨C0, C1, C2, C3, C4, C5, C6, C7, C8, C11, C12, C13, C14, C15, C16, C17, C18, C19, C20, C21, C22, C23⟩ := id C
  have hob := C0.ob
  obtain ⟨D1, D2, D3, D4⟩ := id D
  obtain ⟨O1, O2, O3, O4, O5, O6⟩ := id Mo
  obtain ⟨hk1, hk2⟩ := hKf f hf
  refine down ?_ (fun k hk ih => ?_)
  · refine x_iload (pc := 563) dX7_turn_563 rfl ?_
    refine x_aload_n (pc := 565) dX7_turn_565 rfl ?_
    refine x_gf (pc := 566) dX7_turn_566 fX7_146 (by assumption) (by omega) ?_
    refine x_icmp_ge (pc := 569) (tgt := 612) dX7_turn_569 (by decide) (by omega) (by omega) (fun c569 => ?_) (fun c569 => ?_)
    · exact hq
    · exact absurd c569 (by omega)
  · refine x_iload (pc := 563) dX7_turn_563 rfl ?_
    refine x_aload_n (pc := 565) dX7_turn_565 rfl ?_
    refine x_gf (pc := 566) dX7_turn_566 fX7_146 (by assumption) (by omega) ?_
    refine x_icmp_ge (pc := 569) (tgt := 612) dX7_turn_569 (by decide) (by omega) (by omega) (fun c569 => ?_) (fun c569 => ?_)
    · exact absurd c569 (by omega)
    · refine x_aload_n (pc := 572) dX7_turn_572 rfl ?_
      refine x_gf (pc := 573) dX7_turn_573 fX7_30 (by assumption) (by omega) ?_
      refine x_iload (pc := 576) dX7_turn_576 rfl ?_
      refine x_il (pc := 578) dX7_turn_578 (by assumption) (by omega) rfl (by omega) ?_
      refine x_iload (pc := 579) dX7_turn_579 rfl ?_
      refine x_icmp_ne (pc := 581) (tgt := 606) dX7_turn_581 (by decide) (by have := hld k hk; omega) (by omega) (fun c581 => ?_) (fun c581 => ?_)
      · refine x_iinc (pc := 606) dX7_turn_606 rfl (by decide) rfl ?_
        show Ex _ _ _ _ _ _ [_, _, _, _, _, _, _, _, _, _, _, _, _, _, _, _, _, _, _, _] _ _ _ _
        refine x_goto (pc := 609) (tgt := 563) dX7_turn_609 (by decide) ?_
        first
          | (have ih9 := ih
             rw [show (vvS p M ld c (Kf f) (if c = Kf f then 1 else 0) (k + 1)) = (-(M k (Kf f))) % p from if_pos c581] at ih9
             exact ih9)
          | (have ih9 := ih
             rw [show (vvS p M ld c (Kf f) (if c = Kf f then 1 else 0) (k + 1)) = (vvS p M ld c (Kf f) (if c = Kf f then 1 else 0) k) from if_neg c581] at ih9
             exact ih9)
      · refine x_aload_n (pc := 584) dX7_turn_584 rfl ?_
        refine x_aload_n (pc := 585) dX7_turn_585 rfl ?_
        refine x_gf (pc := 586) dX7_turn_586 fX7_27 (by assumption) (by omega) ?_
        refine x_iload (pc := 589) dX7_turn_589 rfl ?_
        obtain ⟨a1, a2, a3, a4⟩ := Mo.lt (i := k) (by omega)
        refine x_al (pc := 591) dX7_turn_591 (by assumption) (by omega) rfl (by omega) (by assumption) ?_
        refine x_aload_n (pc := 592) dX7_turn_592 rfl ?_
        refine x_gf (pc := 593) dX7_turn_593 fX7_33 (by assumption) (by omega) ?_
        refine x_iload (pc := 596) dX7_turn_596 rfl ?_
        refine x_il (pc := 598) dX7_turn_598 (by assumption) (by omega) rfl (by omega) ?_
        rw [hk1]
        refine x_il (pc := 599) dX7_turn_599 a4 (by omega) rfl (by omega) ?_
        refine x_ineg (pc := 600) dX7_turn_600 ?_
        refine x_w1 (pc := 601) dX7_turn_601 wX7_rest iX7_rest kX7_132 (by decide) rfl (Nat.le_of_ble_eq_true rfl) (by assumption) (by omega) (m_rest C hz hN hP (by have := hM k (Kf f) hk hk2; have := hP.le; omega)) ?_
        refine x_istore (pc := 604) dX7_turn_604 (by decide) rfl ?_
        show Ex _ _ _ _ _ _ [_, _, _, _, _, _, _, _, _, _, _, _, _, _, _, _, _, _, _, _] _ _ _ _
        refine x_iinc (pc := 606) dX7_turn_606 rfl (by decide) rfl ?_
        show Ex _ _ _ _ _ _ [_, _, _, _, _, _, _, _, _, _, _, _, _, _, _, _, _, _, _, _] _ _ _ _
        refine x_goto (pc := 609) (tgt := 563) dX7_turn_609 (by decide) ?_
        first
          | (have ih9 := ih
             rw [show (vvS p M ld c (Kf f) (if c = Kf f then 1 else 0) (k + 1)) = (-(M k (Kf f))) % p from if_pos c581] at ih9
             exact ih9)
          | (have ih9 := ih
             rw [show (vvS p M ld c (Kf f) (if c = Kf f then 1 else 0) (k + 1)) = (vvS p M ld c (Kf f) (if c = Kf f then 1 else 0) k) from if_neg c581] at ih9
             exact ih9)

theorem TS.k6b {h h' : HP} {p N : Nat} {W : Nat → Nat} {S T : Nat → Int} {M : Nat → Nat → Int} {ld : Nat → Int} {m w : Nat} {g : Nat → Option Nat} {σ : Nat → Nat} {F : Nat → Int} {Qs : Nat → Nat → Int} (t : TS h p N W S T M ld m w g σ F Qs) (f : ∀ x, x ≠ 97 → h' x = h x) : TS h' p N W S T M ld m w g σ F Qs := by
  obtain ⟨t1, t2, t3, t4, ⟨g', t5, t5b⟩, t6⟩ := t
  exact ⟨t1.keep (f _ (by omega)), t2.keep (fun x _ h2 => f x (by omega)), t3.keep (f _ (by omega)) (fun x h1 h2 => f x (by omega)), (f _ (by omega)).trans t4, ⟨g', (f _ (by omega)).trans t5, t5b⟩, fun i hi => (f _ (by omega)).trans (t6 i hi)⟩
theorem k_tf2 {G : GL} {d : Nat} {sz p N : Nat} (hz : 615 ≤ sz) (hN : 1 ≤ N ∧ N ≤ 8) (hP : isP p) {W : Nat → Nat} {S T : Nat → Int} {l t z x u mm nn : Nat} (ht : t < N) {b : Bool} (hx : x ≤ 4) (hu : u ≤ 4) (hnn : nn ≤ 4) (hx0 : 0 < x → 0 < t) (hu0 : 0 < u → t + 1 < N) {M : Nat → Nat → Int} {ld : Nat → Int} {m w : Nat} (hm : m ≤ 8) (hw : w = x + u) (hM : inQ m w M p) (hld : ∀ r, r < m → 0 ≤ ld r ∧ ld r < w) {F : Nat → Int} {Qs : Nat → Nat → Int} {g : Nat → Option Nat} {σ : Nat → Nat} {f0 : Nat → Int} {Kf : Nat → Nat} (hKf : ∀ i, i < nn → f0 i = (Kf i : Int) ∧ Kf i < w) {E0 : Nat → Int} {i12 w3 h4 h5 : Int} {v6 v7 : AV} {Q : Option AV → HP → Nat → Prop} {c : Nat} (hc : c < x + u) : ∀ f, f ≤ nn → ∀ (hp : HP) (E : Nat → Int) (v17 v18 v19 : AV), TS hp p N W S T M ld m w g σ F Qs → hp 360 = ar 0 9 f0 → hp 97 = ar 0 128 E → FfP b N t x u nn c f (fun c ix => vvS p M ld c (Kf ix) (if c = Kf ix then 1 else 0) m) E0 E → (∀ h E1 v17 v18 v19, TS h p N W S T M ld m w g σ F Qs → h 360 = ar 0 9 f0 → h 97 = ar 0 128 E1 → Fr hp h 97 97 → FfP b N t x u nn c nn (fun c ix => vvS p M ld c (Kf ix) (if c = Kf ix then 1 else 0) m) E0 E1 → Ex G (d + 3) 0 0 mX7_turn 688 [vr 92, vi l, vi t, vi z, vi h4, vi h5, v6, v7, vi (bz b), vi x, vi u, vi mm, vi i12, vi nn, vi w3, vi c, vi nn, v17, v18, v19] [] h sz Q) → Ex G (d + 3) 0 0 mX7_turn 534 [vr 92, vi l, vi t, vi z, vi h4, vi h5, v6, v7, vi (bz b), vi x, vi u, vi mm, vi i12, vi nn, vi w3, vi c, vi f, v17, v18, v19] [] hp sz Q := by
  refine down (fun hp E v17 v18 v19 tt A1 A2 ff hq => ?_) (fun f hf ih hp E v17 v18 v19 tt A1 A2 ff hq => ?_)
  · obtain ⟨C, D, Mo, FA, ⟨gq, SA, SB⟩, SC⟩ := id tt
    obtain ⟨C0, C1, C2, C3, C4, C5, C6, C7, C8, C11, C12, C13, C14, C15, C16, C17, C18, C19, C20, C21, C22, C23⟩ := id C
    have hob := C0.ob
    obtain ⟨D1, D2, D3, D4⟩ := id D
    obtain ⟨O1, O2, O3, O4, O5, O6⟩ := id Mo
    refine x_iload (pc := 534) dX7_turn_534 rfl ?_
    refine x_iload (pc := 536) dX7_turn_536 rfl ?_
    refine x_icmp_ge (pc := 538) (tgt := 688) dX7_turn_538 (by decide) (by omega) (by omega) (fun c538 => ?_) (fun c538 => ?_)
    · exact hq hp E _ _ _ tt A1 A2 Fr.rf ff
    · exact absurd c538 (by omega)
  · obtain ⟨C, D, Mo, FA, ⟨gq, SA, SB⟩, SC⟩ := id tt
    obtain ⟨C0, C1, C2, C3, C4, C5, C6, C7, C8, C11, C12, C13, C14, C15, C16, C17, C18, C19, C20, C21, C22, C23⟩ := id C
    have hob := C0.ob
    obtain ⟨D1, D2, D3, D4⟩ := id D
    obtain ⟨O1, O2, O3, O4, O5, O6⟩ := id Mo
    obtain ⟨hk1, hk2⟩ := hKf f hf
    refine x_iload (pc := 534) dX7_turn_534 rfl ?_
    refine x_iload (pc := 536) dX7_turn_536 rfl ?_
    refine x_icmp_ge (pc := 538) (tgt := 688) dX7_turn_538 (by decide) (by omega) (by omega) (fun c538 => ?_) (fun c538 => ?_)
    · exact absurd c538 (by omega)
    · refine x_iload (pc := 541) dX7_turn_541 rfl ?_
      refine x_aload_n (pc := 543) dX7_turn_543 rfl ?_
      refine x_gf (pc := 544) dX7_turn_544 fX7_33 (by assumption) (by omega) ?_
      refine x_iload (pc := 547) dX7_turn_547 rfl ?_
      refine x_il (pc := 549) dX7_turn_549 (by assumption) (by omega) rfl (by omega) ?_
      rw [hk1]
      refine x_icmp_ne (pc := 550) (tgt := 557) dX7_turn_550 (by decide) (by omega) (by omega) (fun c550 => ?_) (fun c550 => ?_)
      · refine x_iconst (pc := 557) dX7_turn_557 ?_
        refine x_istore (pc := 558) dX7_turn_558 (by decide) rfl ?_
        show Ex _ _ _ _ _ _ [_, _, _, _, _, _, _, _, _, _, _, _, _, _, _, _, _, _, _, _] _ _ _ _
        refine x_iconst (pc := 560) dX7_turn_560 ?_
        refine x_istore (pc := 561) dX7_turn_561 (by decide) rfl ?_
        show Ex _ _ _ _ _ _ [_, _, _, _, _, _, _, _, _, _, _, _, _, _, _, _, _, _, _, _] _ _ _ _
        first
          | (have key : Ex G (d + 3) 0 0 mX7_turn 563 [vr 92, vi l, vi t, vi z, vi h4, vi h5, v6, v7, vi (bz b), vi x, vi u, vi mm, vi i12, vi nn, vi w3, vi c, vi f, vi (vvS p M ld c (Kf f) (if c = Kf f then 1 else 0) 0), vi (0 : Nat), v19] [] hp sz Q := by
               refine k_tf3 (d := d) (E0 := E0) hz hN hP ht hx hu hnn hx0 hu0 hm hw hM hld hKf tt A1 hc hf ?_ 0 (by omega)
               by_cases cx : c < x
               · refine x_iload (pc := 612) dX7_turn_612 rfl ?_
                 refine x_iload (pc := 614) dX7_turn_614 rfl ?_
                 refine x_icmp_ge (pc := 616) (tgt := 625) dX7_turn_616 (by decide) (by omega) (by omega) (fun c616 => ?_) (fun c616 => ?_)
                 · exact absurd c616 (by omega)
                 · refine x_iload_n (pc := 619) dX7_turn_619 rfl ?_
                   refine x_iconst (pc := 620) dX7_turn_620 ?_
                   refine x_isub (pc := 621) dX7_turn_621 ?_
                   rw [show (t : Int) - 1 = ((t - 1 : Nat) : Int) by omega]
                   refine x_goto (pc := 622) (tgt := 626) dX7_turn_622 (by decide) ?_
                   refine x_istore (pc := 626) dX7_turn_626 (by decide) rfl ?_
                   show Ex _ _ _ _ _ _ [_, _, _, _, _, _, _, _, _, _, _, _, _, _, _, _, _, _, _, _] _ _ _ _
                   refine x_iload (pc := 628) dX7_turn_628 rfl ?_
                   refine x_iload (pc := 630) dX7_turn_630 rfl ?_
                   refine x_icmp_ge (pc := 632) (tgt := 640) dX7_turn_632 (by decide) (by omega) (by omega) (fun c632 => ?_) (fun c632 => ?_)
                   · exact absurd c632 (by omega)
                   · refine x_iload (pc := 635) dX7_turn_635 rfl ?_
                     refine x_goto (pc := 637) (tgt := 645) dX7_turn_637 (by decide) ?_
                     refine x_istore (pc := 645) dX7_turn_645 (by decide) rfl ?_
                     show Ex _ _ _ _ _ _ [_, _, _, _, _, _, _, _, _, _, _, _, _, _, _, _, _, _, _, _] _ _ _ _
                     refine x_aload_n (pc := 647) dX7_turn_647 rfl ?_
                     refine x_gf (pc := 648) dX7_turn_648 fX7_22 (by assumption) (by omega) ?_
                     refine x_iload (pc := 651) dX7_turn_651 rfl ?_
                     refine x_if_eq (pc := 653) (tgt := 669) dX7_turn_653 (by decide) (bz_rg _) (fun c653 => ?_) (fun c653 => ?_)
                     · refine x_iconst (pc := 669) dX7_turn_669 ?_
                       refine x_iload (pc := 670) dX7_turn_670 rfl ?_
                       refine x_iload (pc := 672) dX7_turn_672 rfl ?_
                       refine x_iload (pc := 674) dX7_turn_674 rfl ?_
                       refine x_t4 (pc := 676) dX7_turn_676 wX7_cell sX7_cell kX7_128 (by decide) rfl (Nat.le_of_ble_eq_true rfl) (m_cell (l := 0) (k := (t - 1)) (r := f) (c := c)) ?_
                       refine x_iload (pc := 679) dX7_turn_679 rfl ?_
                       refine x_is (pc := 681) dX7_turn_681 (by assumption) (by omega) rfl (by omega) ?_
                       first
                         | rw [show 0 * 128 + (t - 1) * 16 + c * 4 + f = pos b (t - 1) c f from (by rw [← pos_t c653]; omega)]
                         | rw [show 0 * 128 + (t - 1) * 16 + f * 4 + c = pos b (t - 1) c f from (by rw [← pos_f c653]; omega)]
                       refine x_iinc (pc := 682) dX7_turn_682 rfl (by decide) rfl ?_
                       show Ex _ _ _ _ _ _ [_, _, _, _, _, _, _, _, _, _, _, _, _, _, _, _, _, _, _, _] _ _ _ _
                       refine x_goto (pc := 685) (tgt := 534) dX7_turn_685 (by decide) ?_
                       have f2 := ff.put hc hf hx hu hnn hx0 hu0
                       rw [if_pos cx, if_pos cx] at f2
                       exact ih _ _ _ _ _ (tt.k6b (fun x hx => up_n _ _ hx)) ((up_n _ _ (by omega)).trans A1) (up_s _ _ _) f2 (fun h E9 v17 v18 v19 t9 a9 b9 fr9 g9 => hq h E9 v17 v18 v19 t9 a9 b9 ((Fr.rf.up (by omega) (by omega)).tr fr9) g9)
                     · refine x_iconst (pc := 656) dX7_turn_656 ?_
                       refine x_iload (pc := 657) dX7_turn_657 rfl ?_
                       refine x_iload (pc := 659) dX7_turn_659 rfl ?_
                       refine x_iload (pc := 661) dX7_turn_661 rfl ?_
                       refine x_t4 (pc := 663) dX7_turn_663 wX7_cell sX7_cell kX7_128 (by decide) rfl (Nat.le_of_ble_eq_true rfl) (m_cell (l := 0) (k := (t - 1)) (r := c) (c := f)) ?_
                       refine x_goto (pc := 666) (tgt := 679) dX7_turn_666 (by decide) ?_
                       refine x_iload (pc := 679) dX7_turn_679 rfl ?_
                       refine x_is (pc := 681) dX7_turn_681 (by assumption) (by omega) rfl (by omega) ?_
                       first
                         | rw [show 0 * 128 + (t - 1) * 16 + c * 4 + f = pos b (t - 1) c f from (by rw [← pos_t c653]; omega)]
                         | rw [show 0 * 128 + (t - 1) * 16 + f * 4 + c = pos b (t - 1) c f from (by rw [← pos_f c653]; omega)]
                       refine x_iinc (pc := 682) dX7_turn_682 rfl (by decide) rfl ?_
                       show Ex _ _ _ _ _ _ [_, _, _, _, _, _, _, _, _, _, _, _, _, _, _, _, _, _, _, _] _ _ _ _
                       refine x_goto (pc := 685) (tgt := 534) dX7_turn_685 (by decide) ?_
                       have f2 := ff.put hc hf hx hu hnn hx0 hu0
                       rw [if_pos cx, if_pos cx] at f2
                       exact ih _ _ _ _ _ (tt.k6b (fun x hx => up_n _ _ hx)) ((up_n _ _ (by omega)).trans A1) (up_s _ _ _) f2 (fun h E9 v17 v18 v19 t9 a9 b9 fr9 g9 => hq h E9 v17 v18 v19 t9 a9 b9 ((Fr.rf.up (by omega) (by omega)).tr fr9) g9)
               · refine x_iload (pc := 612) dX7_turn_612 rfl ?_
                 refine x_iload (pc := 614) dX7_turn_614 rfl ?_
                 refine x_icmp_ge (pc := 616) (tgt := 625) dX7_turn_616 (by decide) (by omega) (by omega) (fun c616 => ?_) (fun c616 => ?_)
                 · refine x_iload_n (pc := 625) dX7_turn_625 rfl ?_
                   refine x_istore (pc := 626) dX7_turn_626 (by decide) rfl ?_
                   show Ex _ _ _ _ _ _ [_, _, _, _, _, _, _, _, _, _, _, _, _, _, _, _, _, _, _, _] _ _ _ _
                   refine x_iload (pc := 628) dX7_turn_628 rfl ?_
                   refine x_iload (pc := 630) dX7_turn_630 rfl ?_
                   refine x_icmp_ge (pc := 632) (tgt := 640) dX7_turn_632 (by decide) (by omega) (by omega) (fun c632 => ?_) (fun c632 => ?_)
                   · refine x_iload (pc := 640) dX7_turn_640 rfl ?_
                     refine x_iload (pc := 642) dX7_turn_642 rfl ?_
                     refine x_isub (pc := 644) dX7_turn_644 ?_
                     rw [show (c : Int) - (x : Int) = ((c - x : Nat) : Int) by omega]
                     refine x_istore (pc := 645) dX7_turn_645 (by decide) rfl ?_
                     show Ex _ _ _ _ _ _ [_, _, _, _, _, _, _, _, _, _, _, _, _, _, _, _, _, _, _, _] _ _ _ _
                     refine x_aload_n (pc := 647) dX7_turn_647 rfl ?_
                     refine x_gf (pc := 648) dX7_turn_648 fX7_22 (by assumption) (by omega) ?_
                     refine x_iload (pc := 651) dX7_turn_651 rfl ?_
                     refine x_if_eq (pc := 653) (tgt := 669) dX7_turn_653 (by decide) (bz_rg _) (fun c653 => ?_) (fun c653 => ?_)
                     · refine x_iconst (pc := 669) dX7_turn_669 ?_
                       refine x_iload (pc := 670) dX7_turn_670 rfl ?_
                       refine x_iload (pc := 672) dX7_turn_672 rfl ?_
                       refine x_iload (pc := 674) dX7_turn_674 rfl ?_
                       refine x_t4 (pc := 676) dX7_turn_676 wX7_cell sX7_cell kX7_128 (by decide) rfl (Nat.le_of_ble_eq_true rfl) (m_cell (l := 0) (k := t) (r := f) (c := (c - x))) ?_
                       refine x_iload (pc := 679) dX7_turn_679 rfl ?_
                       refine x_is (pc := 681) dX7_turn_681 (by assumption) (by omega) rfl (by omega) ?_
                       first
                         | rw [show 0 * 128 + t * 16 + (c - x) * 4 + f = pos b t (c - x) f from (by rw [← pos_t c653]; omega)]
                         | rw [show 0 * 128 + t * 16 + f * 4 + (c - x) = pos b t (c - x) f from (by rw [← pos_f c653]; omega)]
                       refine x_iinc (pc := 682) dX7_turn_682 rfl (by decide) rfl ?_
                       show Ex _ _ _ _ _ _ [_, _, _, _, _, _, _, _, _, _, _, _, _, _, _, _, _, _, _, _] _ _ _ _
                       refine x_goto (pc := 685) (tgt := 534) dX7_turn_685 (by decide) ?_
                       have f2 := ff.put hc hf hx hu hnn hx0 hu0
                       rw [if_neg cx, if_neg cx] at f2
                       exact ih _ _ _ _ _ (tt.k6b (fun x hx => up_n _ _ hx)) ((up_n _ _ (by omega)).trans A1) (up_s _ _ _) f2 (fun h E9 v17 v18 v19 t9 a9 b9 fr9 g9 => hq h E9 v17 v18 v19 t9 a9 b9 ((Fr.rf.up (by omega) (by omega)).tr fr9) g9)
                     · refine x_iconst (pc := 656) dX7_turn_656 ?_
                       refine x_iload (pc := 657) dX7_turn_657 rfl ?_
                       refine x_iload (pc := 659) dX7_turn_659 rfl ?_
                       refine x_iload (pc := 661) dX7_turn_661 rfl ?_
                       refine x_t4 (pc := 663) dX7_turn_663 wX7_cell sX7_cell kX7_128 (by decide) rfl (Nat.le_of_ble_eq_true rfl) (m_cell (l := 0) (k := t) (r := (c - x)) (c := f)) ?_
                       refine x_goto (pc := 666) (tgt := 679) dX7_turn_666 (by decide) ?_
                       refine x_iload (pc := 679) dX7_turn_679 rfl ?_
                       refine x_is (pc := 681) dX7_turn_681 (by assumption) (by omega) rfl (by omega) ?_
                       first
                         | rw [show 0 * 128 + t * 16 + (c - x) * 4 + f = pos b t (c - x) f from (by rw [← pos_t c653]; omega)]
                         | rw [show 0 * 128 + t * 16 + f * 4 + (c - x) = pos b t (c - x) f from (by rw [← pos_f c653]; omega)]
                       refine x_iinc (pc := 682) dX7_turn_682 rfl (by decide) rfl ?_
                       show Ex _ _ _ _ _ _ [_, _, _, _, _, _, _, _, _, _, _, _, _, _, _, _, _, _, _, _] _ _ _ _
                       refine x_goto (pc := 685) (tgt := 534) dX7_turn_685 (by decide) ?_
                       have f2 := ff.put hc hf hx hu hnn hx0 hu0
                       rw [if_neg cx, if_neg cx] at f2
                       exact ih _ _ _ _ _ (tt.k6b (fun x hx => up_n _ _ hx)) ((up_n _ _ (by omega)).trans A1) (up_s _ _ _) f2 (fun h E9 v17 v18 v19 t9 a9 b9 fr9 g9 => hq h E9 v17 v18 v19 t9 a9 b9 ((Fr.rf.up (by omega) (by omega)).tr fr9) g9)
                   · exact absurd c632 (by omega)
                 · exact absurd c616 (by omega)
             rw [show (vvS p M ld c (Kf f) (if c = Kf f then 1 else 0) 0) = 1 from if_pos (by omega)] at key
             exact key)
          | (have key : Ex G (d + 3) 0 0 mX7_turn 563 [vr 92, vi l, vi t, vi z, vi h4, vi h5, v6, v7, vi (bz b), vi x, vi u, vi mm, vi i12, vi nn, vi w3, vi c, vi f, vi (vvS p M ld c (Kf f) (if c = Kf f then 1 else 0) 0), vi (0 : Nat), v19] [] hp sz Q := by
               refine k_tf3 (d := d) (E0 := E0) hz hN hP ht hx hu hnn hx0 hu0 hm hw hM hld hKf tt A1 hc hf ?_ 0 (by omega)
               by_cases cx : c < x
               · refine x_iload (pc := 612) dX7_turn_612 rfl ?_
                 refine x_iload (pc := 614) dX7_turn_614 rfl ?_
                 refine x_icmp_ge (pc := 616) (tgt := 625) dX7_turn_616 (by decide) (by omega) (by omega) (fun c616 => ?_) (fun c616 => ?_)
                 · exact absurd c616 (by omega)
                 · refine x_iload_n (pc := 619) dX7_turn_619 rfl ?_
                   refine x_iconst (pc := 620) dX7_turn_620 ?_
                   refine x_isub (pc := 621) dX7_turn_621 ?_
                   rw [show (t : Int) - 1 = ((t - 1 : Nat) : Int) by omega]
                   refine x_goto (pc := 622) (tgt := 626) dX7_turn_622 (by decide) ?_
                   refine x_istore (pc := 626) dX7_turn_626 (by decide) rfl ?_
                   show Ex _ _ _ _ _ _ [_, _, _, _, _, _, _, _, _, _, _, _, _, _, _, _, _, _, _, _] _ _ _ _
                   refine x_iload (pc := 628) dX7_turn_628 rfl ?_
                   refine x_iload (pc := 630) dX7_turn_630 rfl ?_
                   refine x_icmp_ge (pc := 632) (tgt := 640) dX7_turn_632 (by decide) (by omega) (by omega) (fun c632 => ?_) (fun c632 => ?_)
                   · exact absurd c632 (by omega)
                   · refine x_iload (pc := 635) dX7_turn_635 rfl ?_
                     refine x_goto (pc := 637) (tgt := 645) dX7_turn_637 (by decide) ?_
                     refine x_istore (pc := 645) dX7_turn_645 (by decide) rfl ?_
                     show Ex _ _ _ _ _ _ [_, _, _, _, _, _, _, _, _, _, _, _, _, _, _, _, _, _, _, _] _ _ _ _
                     refine x_aload_n (pc := 647) dX7_turn_647 rfl ?_
                     refine x_gf (pc := 648) dX7_turn_648 fX7_22 (by assumption) (by omega) ?_
                     refine x_iload (pc := 651) dX7_turn_651 rfl ?_
                     refine x_if_eq (pc := 653) (tgt := 669) dX7_turn_653 (by decide) (bz_rg _) (fun c653 => ?_) (fun c653 => ?_)
                     · refine x_iconst (pc := 669) dX7_turn_669 ?_
                       refine x_iload (pc := 670) dX7_turn_670 rfl ?_
                       refine x_iload (pc := 672) dX7_turn_672 rfl ?_
                       refine x_iload (pc := 674) dX7_turn_674 rfl ?_
                       refine x_t4 (pc := 676) dX7_turn_676 wX7_cell sX7_cell kX7_128 (by decide) rfl (Nat.le_of_ble_eq_true rfl) (m_cell (l := 0) (k := (t - 1)) (r := f) (c := c)) ?_
                       refine x_iload (pc := 679) dX7_turn_679 rfl ?_
                       refine x_is (pc := 681) dX7_turn_681 (by assumption) (by omega) rfl (by omega) ?_
                       first
                         | rw [show 0 * 128 + (t - 1) * 16 + c * 4 + f = pos b (t - 1) c f from (by rw [← pos_t c653]; omega)]
                         | rw [show 0 * 128 + (t - 1) * 16 + f * 4 + c = pos b (t - 1) c f from (by rw [← pos_f c653]; omega)]
                       refine x_iinc (pc := 682) dX7_turn_682 rfl (by decide) rfl ?_
                       show Ex _ _ _ _ _ _ [_, _, _, _, _, _, _, _, _, _, _, _, _, _, _, _, _, _, _, _] _ _ _ _
                       refine x_goto (pc := 685) (tgt := 534) dX7_turn_685 (by decide) ?_
                       have f2 := ff.put hc hf hx hu hnn hx0 hu0
                       rw [if_pos cx, if_pos cx] at f2
                       exact ih _ _ _ _ _ (tt.k6b (fun x hx => up_n _ _ hx)) ((up_n _ _ (by omega)).trans A1) (up_s _ _ _) f2 (fun h E9 v17 v18 v19 t9 a9 b9 fr9 g9 => hq h E9 v17 v18 v19 t9 a9 b9 ((Fr.rf.up (by omega) (by omega)).tr fr9) g9)
                     · refine x_iconst (pc := 656) dX7_turn_656 ?_
                       refine x_iload (pc := 657) dX7_turn_657 rfl ?_
                       refine x_iload (pc := 659) dX7_turn_659 rfl ?_
                       refine x_iload (pc := 661) dX7_turn_661 rfl ?_
                       refine x_t4 (pc := 663) dX7_turn_663 wX7_cell sX7_cell kX7_128 (by decide) rfl (Nat.le_of_ble_eq_true rfl) (m_cell (l := 0) (k := (t - 1)) (r := c) (c := f)) ?_
                       refine x_goto (pc := 666) (tgt := 679) dX7_turn_666 (by decide) ?_
                       refine x_iload (pc := 679) dX7_turn_679 rfl ?_
                       refine x_is (pc := 681) dX7_turn_681 (by assumption) (by omega) rfl (by omega) ?_
                       first
                         | rw [show 0 * 128 + (t - 1) * 16 + c * 4 + f = pos b (t - 1) c f from (by rw [← pos_t c653]; omega)]
                         | rw [show 0 * 128 + (t - 1) * 16 + f * 4 + c = pos b (t - 1) c f from (by rw [← pos_f c653]; omega)]
                       refine x_iinc (pc := 682) dX7_turn_682 rfl (by decide) rfl ?_
                       show Ex _ _ _ _ _ _ [_, _, _, _, _, _, _, _, _, _, _, _, _, _, _, _, _, _, _, _] _ _ _ _
                       refine x_goto (pc := 685) (tgt := 534) dX7_turn_685 (by decide) ?_
                       have f2 := ff.put hc hf hx hu hnn hx0 hu0
                       rw [if_pos cx, if_pos cx] at f2
                       exact ih _ _ _ _ _ (tt.k6b (fun x hx => up_n _ _ hx)) ((up_n _ _ (by omega)).trans A1) (up_s _ _ _) f2 (fun h E9 v17 v18 v19 t9 a9 b9 fr9 g9 => hq h E9 v17 v18 v19 t9 a9 b9 ((Fr.rf.up (by omega) (by omega)).tr fr9) g9)
               · refine x_iload (pc := 612) dX7_turn_612 rfl ?_
                 refine x_iload (pc := 614) dX7_turn_614 rfl ?_
                 refine x_icmp_ge (pc := 616) (tgt := 625) dX7_turn_616 (by decide) (by omega) (by omega) (fun c616 => ?_) (fun c616 => ?_)
                 · refine x_iload_n (pc := 625) dX7_turn_625 rfl ?_
                   refine x_istore (pc := 626) dX7_turn_626 (by decide) rfl ?_
                   show Ex _ _ _ _ _ _ [_, _, _, _, _, _, _, _, _, _, _, _, _, _, _, _, _, _, _, _] _ _ _ _
                   refine x_iload (pc := 628) dX7_turn_628 rfl ?_
                   refine x_iload (pc := 630) dX7_turn_630 rfl ?_
                   refine x_icmp_ge (pc := 632) (tgt := 640) dX7_turn_632 (by decide) (by omega) (by omega) (fun c632 => ?_) (fun c632 => ?_)
                   · refine x_iload (pc := 640) dX7_turn_640 rfl ?_
                     refine x_iload (pc := 642) dX7_turn_642 rfl ?_
                     refine x_isub (pc := 644) dX7_turn_644 ?_
                     rw [show (c : Int) - (x : Int) = ((c - x : Nat) : Int) by omega]
                     refine x_istore (pc := 645) dX7_turn_645 (by decide) rfl ?_
                     show Ex _ _ _ _ _ _ [_, _, _, _, _, _, _, _, _, _, _, _, _, _, _, _, _, _, _, _] _ _ _ _
                     refine x_aload_n (pc := 647) dX7_turn_647 rfl ?_
                     refine x_gf (pc := 648) dX7_turn_648 fX7_22 (by assumption) (by omega) ?_
                     refine x_iload (pc := 651) dX7_turn_651 rfl ?_
                     refine x_if_eq (pc := 653) (tgt := 669) dX7_turn_653 (by decide) (bz_rg _) (fun c653 => ?_) (fun c653 => ?_)
                     · refine x_iconst (pc := 669) dX7_turn_669 ?_
                       refine x_iload (pc := 670) dX7_turn_670 rfl ?_
                       refine x_iload (pc := 672) dX7_turn_672 rfl ?_
                       refine x_iload (pc := 674) dX7_turn_674 rfl ?_
                       refine x_t4 (pc := 676) dX7_turn_676 wX7_cell sX7_cell kX7_128 (by decide) rfl (Nat.le_of_ble_eq_true rfl) (m_cell (l := 0) (k := t) (r := f) (c := (c - x))) ?_
                       refine x_iload (pc := 679) dX7_turn_679 rfl ?_
                       refine x_is (pc := 681) dX7_turn_681 (by assumption) (by omega) rfl (by omega) ?_
                       first
                         | rw [show 0 * 128 + t * 16 + (c - x) * 4 + f = pos b t (c - x) f from (by rw [← pos_t c653]; omega)]
                         | rw [show 0 * 128 + t * 16 + f * 4 + (c - x) = pos b t (c - x) f from (by rw [← pos_f c653]; omega)]
                       refine x_iinc (pc := 682) dX7_turn_682 rfl (by decide) rfl ?_
                       show Ex _ _ _ _ _ _ [_, _, _, _, _, _, _, _, _, _, _, _, _, _, _, _, _, _, _, _] _ _ _ _
                       refine x_goto (pc := 685) (tgt := 534) dX7_turn_685 (by decide) ?_
                       have f2 := ff.put hc hf hx hu hnn hx0 hu0
                       rw [if_neg cx, if_neg cx] at f2
                       exact ih _ _ _ _ _ (tt.k6b (fun x hx => up_n _ _ hx)) ((up_n _ _ (by omega)).trans A1) (up_s _ _ _) f2 (fun h E9 v17 v18 v19 t9 a9 b9 fr9 g9 => hq h E9 v17 v18 v19 t9 a9 b9 ((Fr.rf.up (by omega) (by omega)).tr fr9) g9)
                     · refine x_iconst (pc := 656) dX7_turn_656 ?_
                       refine x_iload (pc := 657) dX7_turn_657 rfl ?_
                       refine x_iload (pc := 659) dX7_turn_659 rfl ?_
                       refine x_iload (pc := 661) dX7_turn_661 rfl ?_
                       refine x_t4 (pc := 663) dX7_turn_663 wX7_cell sX7_cell kX7_128 (by decide) rfl (Nat.le_of_ble_eq_true rfl) (m_cell (l := 0) (k := t) (r := (c - x)) (c := f)) ?_
                       refine x_goto (pc := 666) (tgt := 679) dX7_turn_666 (by decide) ?_
                       refine x_iload (pc := 679) dX7_turn_679 rfl ?_
                       refine x_is (pc := 681) dX7_turn_681 (by assumption) (by omega) rfl (by omega) ?_
                       first
                         | rw [show 0 * 128 + t * 16 + (c - x) * 4 + f = pos b t (c - x) f from (by rw [← pos_t c653]; omega)]
                         | rw [show 0 * 128 + t * 16 + f * 4 + (c - x) = pos b t (c - x) f from (by rw [← pos_f c653]; omega)]
                       refine x_iinc (pc := 682) dX7_turn_682 rfl (by decide) rfl ?_
                       show Ex _ _ _ _ _ _ [_, _, _, _, _, _, _, _, _, _, _, _, _, _, _, _, _, _, _, _] _ _ _ _
                       refine x_goto (pc := 685) (tgt := 534) dX7_turn_685 (by decide) ?_
                       have f2 := ff.put hc hf hx hu hnn hx0 hu0
                       rw [if_neg cx, if_neg cx] at f2
                       exact ih _ _ _ _ _ (tt.k6b (fun x hx => up_n _ _ hx)) ((up_n _ _ (by omega)).trans A1) (up_s _ _ _) f2 (fun h E9 v17 v18 v19 t9 a9 b9 fr9 g9 => hq h E9 v17 v18 v19 t9 a9 b9 ((Fr.rf.up (by omega) (by omega)).tr fr9) g9)
                   · exact absurd c632 (by omega)
                 · exact absurd c616 (by omega)
             rw [show (vvS p M ld c (Kf f) (if c = Kf f then 1 else 0) 0) = 0 from if_neg (by omega)] at key
             exact key)
      · refine x_iconst (pc := 553) dX7_turn_553 ?_
        refine x_goto (pc := 554) (tgt := 558) dX7_turn_554 (by decide) ?_
        refine x_istore (pc := 558) dX7_turn_558 (by decide) rfl ?_
        show Ex _ _ _ _ _ _ [_, _, _, _, _, _, _, _, _, _, _, _, _, _, _, _, _, _, _, _] _ _ _ _
        refine x_iconst (pc := 560) dX7_turn_560 ?_
        refine x_istore (pc := 561) dX7_turn_561 (by decide) rfl ?_
        show Ex _ _ _ _ _ _ [_, _, _, _, _, _, _, _, _, _, _, _, _, _, _, _, _, _, _, _] _ _ _ _
        first
          | (have key : Ex G (d + 3) 0 0 mX7_turn 563 [vr 92, vi l, vi t, vi z, vi h4, vi h5, v6, v7, vi (bz b), vi x, vi u, vi mm, vi i12, vi nn, vi w3, vi c, vi f, vi (vvS p M ld c (Kf f) (if c = Kf f then 1 else 0) 0), vi (0 : Nat), v19] [] hp sz Q := by
               refine k_tf3 (d := d) (E0 := E0) hz hN hP ht hx hu hnn hx0 hu0 hm hw hM hld hKf tt A1 hc hf ?_ 0 (by omega)
               by_cases cx : c < x
               · refine x_iload (pc := 612) dX7_turn_612 rfl ?_
                 refine x_iload (pc := 614) dX7_turn_614 rfl ?_
                 refine x_icmp_ge (pc := 616) (tgt := 625) dX7_turn_616 (by decide) (by omega) (by omega) (fun c616 => ?_) (fun c616 => ?_)
                 · exact absurd c616 (by omega)
                 · refine x_iload_n (pc := 619) dX7_turn_619 rfl ?_
                   refine x_iconst (pc := 620) dX7_turn_620 ?_
                   refine x_isub (pc := 621) dX7_turn_621 ?_
                   rw [show (t : Int) - 1 = ((t - 1 : Nat) : Int) by omega]
                   refine x_goto (pc := 622) (tgt := 626) dX7_turn_622 (by decide) ?_
                   refine x_istore (pc := 626) dX7_turn_626 (by decide) rfl ?_
                   show Ex _ _ _ _ _ _ [_, _, _, _, _, _, _, _, _, _, _, _, _, _, _, _, _, _, _, _] _ _ _ _
                   refine x_iload (pc := 628) dX7_turn_628 rfl ?_
                   refine x_iload (pc := 630) dX7_turn_630 rfl ?_
                   refine x_icmp_ge (pc := 632) (tgt := 640) dX7_turn_632 (by decide) (by omega) (by omega) (fun c632 => ?_) (fun c632 => ?_)
                   · exact absurd c632 (by omega)
                   · refine x_iload (pc := 635) dX7_turn_635 rfl ?_
                     refine x_goto (pc := 637) (tgt := 645) dX7_turn_637 (by decide) ?_
                     refine x_istore (pc := 645) dX7_turn_645 (by decide) rfl ?_
                     show Ex _ _ _ _ _ _ [_, _, _, _, _, _, _, _, _, _, _, _, _, _, _, _, _, _, _, _] _ _ _ _
                     refine x_aload_n (pc := 647) dX7_turn_647 rfl ?_
                     refine x_gf (pc := 648) dX7_turn_648 fX7_22 (by assumption) (by omega) ?_
                     refine x_iload (pc := 651) dX7_turn_651 rfl ?_
                     refine x_if_eq (pc := 653) (tgt := 669) dX7_turn_653 (by decide) (bz_rg _) (fun c653 => ?_) (fun c653 => ?_)
                     · refine x_iconst (pc := 669) dX7_turn_669 ?_
                       refine x_iload (pc := 670) dX7_turn_670 rfl ?_
                       refine x_iload (pc := 672) dX7_turn_672 rfl ?_
                       refine x_iload (pc := 674) dX7_turn_674 rfl ?_
                       refine x_t4 (pc := 676) dX7_turn_676 wX7_cell sX7_cell kX7_128 (by decide) rfl (Nat.le_of_ble_eq_true rfl) (m_cell (l := 0) (k := (t - 1)) (r := f) (c := c)) ?_
                       refine x_iload (pc := 679) dX7_turn_679 rfl ?_
                       refine x_is (pc := 681) dX7_turn_681 (by assumption) (by omega) rfl (by omega) ?_
                       first
                         | rw [show 0 * 128 + (t - 1) * 16 + c * 4 + f = pos b (t - 1) c f from (by rw [← pos_t c653]; omega)]
                         | rw [show 0 * 128 + (t - 1) * 16 + f * 4 + c = pos b (t - 1) c f from (by rw [← pos_f c653]; omega)]
                       refine x_iinc (pc := 682) dX7_turn_682 rfl (by decide) rfl ?_
                       show Ex _ _ _ _ _ _ [_, _, _, _, _, _, _, _, _, _, _, _, _, _, _, _, _, _, _, _] _ _ _ _
                       refine x_goto (pc := 685) (tgt := 534) dX7_turn_685 (by decide) ?_
                       have f2 := ff.put hc hf hx hu hnn hx0 hu0
                       rw [if_pos cx, if_pos cx] at f2
                       exact ih _ _ _ _ _ (tt.k6b (fun x hx => up_n _ _ hx)) ((up_n _ _ (by omega)).trans A1) (up_s _ _ _) f2 (fun h E9 v17 v18 v19 t9 a9 b9 fr9 g9 => hq h E9 v17 v18 v19 t9 a9 b9 ((Fr.rf.up (by omega) (by omega)).tr fr9) g9)
                     · refine x_iconst (pc := 656) dX7_turn_656 ?_
                       refine x_iload (pc := 657) dX7_turn_657 rfl ?_
                       refine x_iload (pc := 659) dX7_turn_659 rfl ?_
                       refine x_iload (pc := 661) dX7_turn_661 rfl ?_
                       refine x_t4 (pc := 663) dX7_turn_663 wX7_cell sX7_cell kX7_128 (by decide) rfl (Nat.le_of_ble_eq_true rfl) (m_cell (l := 0) (k := (t - 1)) (r := c) (c := f)) ?_
                       refine x_goto (pc := 666) (tgt := 679) dX7_turn_666 (by decide) ?_
                       refine x_iload (pc := 679) dX7_turn_679 rfl ?_
                       refine x_is (pc := 681) dX7_turn_681 (by assumption) (by omega) rfl (by omega) ?_
                       first
                         | rw [show 0 * 128 + (t - 1) * 16 + c * 4 + f = pos b (t - 1) c f from (by rw [← pos_t c653]; omega)]
                         | rw [show 0 * 128 + (t - 1) * 16 + f * 4 + c = pos b (t - 1) c f from (by rw [← pos_f c653]; omega)]
                       refine x_iinc (pc := 682) dX7_turn_682 rfl (by decide) rfl ?_
                       show Ex _ _ _ _ _ _ [_, _, _, _, _, _, _, _, _, _, _, _, _, _, _, _, _, _, _, _] _ _ _ _
                       refine x_goto (pc := 685) (tgt := 534) dX7_turn_685 (by decide) ?_
                       have f2 := ff.put hc hf hx hu hnn hx0 hu0
                       rw [if_pos cx, if_pos cx] at f2
                       exact ih _ _ _ _ _ (tt.k6b (fun x hx => up_n _ _ hx)) ((up_n _ _ (by omega)).trans A1) (up_s _ _ _) f2 (fun h E9 v17 v18 v19 t9 a9 b9 fr9 g9 => hq h E9 v17 v18 v19 t9 a9 b9 ((Fr.rf.up (by omega) (by omega)).tr fr9) g9)
               · refine x_iload (pc := 612) dX7_turn_612 rfl ?_
                 refine x_iload (pc := 614) dX7_turn_614 rfl ?_
                 refine x_icmp_ge (pc := 616) (tgt := 625) dX7_turn_616 (by decide) (by omega) (by omega) (fun c616 => ?_) (fun c616 => ?_)
                 · refine x_iload_n (pc := 625) dX7_turn_625 rfl ?_
                   refine x_istore (pc := 626) dX7_turn_626 (by decide) rfl ?_
                   show Ex _ _ _ _ _ _ [_, _, _, _, _, _, _, _, _, _, _, _, _, _, _, _, _, _, _, _] _ _ _ _
                   refine x_iload (pc := 628) dX7_turn_628 rfl ?_
                   refine x_iload (pc := 630) dX7_turn_630 rfl ?_
                   refine x_icmp_ge (pc := 632) (tgt := 640) dX7_turn_632 (by decide) (by omega) (by omega) (fun c632 => ?_) (fun c632 => ?_)
                   · refine x_iload (pc := 640) dX7_turn_640 rfl ?_
                     refine x_iload (pc := 642) dX7_turn_642 rfl ?_
                     refine x_isub (pc := 644) dX7_turn_644 ?_
                     rw [show (c : Int) - (x : Int) = ((c - x : Nat) : Int) by omega]
                     refine x_istore (pc := 645) dX7_turn_645 (by decide) rfl ?_
                     show Ex _ _ _ _ _ _ [_, _, _, _, _, _, _, _, _, _, _, _, _, _, _, _, _, _, _, _] _ _ _ _
                     refine x_aload_n (pc := 647) dX7_turn_647 rfl ?_
                     refine x_gf (pc := 648) dX7_turn_648 fX7_22 (by assumption) (by omega) ?_
                     refine x_iload (pc := 651) dX7_turn_651 rfl ?_
                     refine x_if_eq (pc := 653) (tgt := 669) dX7_turn_653 (by decide) (bz_rg _) (fun c653 => ?_) (fun c653 => ?_)
                     · refine x_iconst (pc := 669) dX7_turn_669 ?_
                       refine x_iload (pc := 670) dX7_turn_670 rfl ?_
                       refine x_iload (pc := 672) dX7_turn_672 rfl ?_
                       refine x_iload (pc := 674) dX7_turn_674 rfl ?_
                       refine x_t4 (pc := 676) dX7_turn_676 wX7_cell sX7_cell kX7_128 (by decide) rfl (Nat.le_of_ble_eq_true rfl) (m_cell (l := 0) (k := t) (r := f) (c := (c - x))) ?_
                       refine x_iload (pc := 679) dX7_turn_679 rfl ?_
                       refine x_is (pc := 681) dX7_turn_681 (by assumption) (by omega) rfl (by omega) ?_
                       first
                         | rw [show 0 * 128 + t * 16 + (c - x) * 4 + f = pos b t (c - x) f from (by rw [← pos_t c653]; omega)]
                         | rw [show 0 * 128 + t * 16 + f * 4 + (c - x) = pos b t (c - x) f from (by rw [← pos_f c653]; omega)]
                       refine x_iinc (pc := 682) dX7_turn_682 rfl (by decide) rfl ?_
                       show Ex _ _ _ _ _ _ [_, _, _, _, _, _, _, _, _, _, _, _, _, _, _, _, _, _, _, _] _ _ _ _
                       refine x_goto (pc := 685) (tgt := 534) dX7_turn_685 (by decide) ?_
                       have f2 := ff.put hc hf hx hu hnn hx0 hu0
                       rw [if_neg cx, if_neg cx] at f2
                       exact ih _ _ _ _ _ (tt.k6b (fun x hx => up_n _ _ hx)) ((up_n _ _ (by omega)).trans A1) (up_s _ _ _) f2 (fun h E9 v17 v18 v19 t9 a9 b9 fr9 g9 => hq h E9 v17 v18 v19 t9 a9 b9 ((Fr.rf.up (by omega) (by omega)).tr fr9) g9)
                     · refine x_iconst (pc := 656) dX7_turn_656 ?_
                       refine x_iload (pc := 657) dX7_turn_657 rfl ?_
                       refine x_iload (pc := 659) dX7_turn_659 rfl ?_
                       refine x_iload (pc := 661) dX7_turn_661 rfl ?_
                       refine x_t4 (pc := 663) dX7_turn_663 wX7_cell sX7_cell kX7_128 (by decide) rfl (Nat.le_of_ble_eq_true rfl) (m_cell (l := 0) (k := t) (r := (c - x)) (c := f)) ?_
                       refine x_goto (pc := 666) (tgt := 679) dX7_turn_666 (by decide) ?_
                       refine x_iload (pc := 679) dX7_turn_679 rfl ?_
                       refine x_is (pc := 681) dX7_turn_681 (by assumption) (by omega) rfl (by omega) ?_
                       first
                         | rw [show 0 * 128 + t * 16 + (c - x) * 4 + f = pos b t (c - x) f from (by rw [← pos_t c653]; omega)]
                         | rw [show 0 * 128 + t * 16 + f * 4 + (c - x) = pos b t (c - x) f from (by rw [← pos_f c653]; omega)]
                       refine x_iinc (pc := 682) dX7_turn_682 rfl (by decide) rfl ?_
                       show Ex _ _ _ _ _ _ [_, _, _, _, _, _, _, _, _, _, _, _, _, _, _, _, _, _, _, _] _ _ _ _
                       refine x_goto (pc := 685) (tgt := 534) dX7_turn_685 (by decide) ?_
                       have f2 := ff.put hc hf hx hu hnn hx0 hu0
                       rw [if_neg cx, if_neg cx] at f2
                       exact ih _ _ _ _ _ (tt.k6b (fun x hx => up_n _ _ hx)) ((up_n _ _ (by omega)).trans A1) (up_s _ _ _) f2 (fun h E9 v17 v18 v19 t9 a9 b9 fr9 g9 => hq h E9 v17 v18 v19 t9 a9 b9 ((Fr.rf.up (by omega) (by omega)).tr fr9) g9)
                   · exact absurd c632 (by omega)
                 · exact absurd c616 (by omega)
             rw [show (vvS p M ld c (Kf f) (if c = Kf f then 1 else 0) 0) = 1 from if_pos (by omega)] at key
             exact key)
          | (have key : Ex G (d + 3) 0 0 mX7_turn 563 [vr 92, vi l, vi t, vi z, vi h4, vi h5, v6, v7, vi (bz b), vi x, vi u, vi mm, vi i12, vi nn, vi w3, vi c, vi f, vi (vvS p M ld c (Kf f) (if c = Kf f then 1 else 0) 0), vi (0 : Nat), v19] [] hp sz Q := by
               refine k_tf3 (d := d) (E0 := E0) hz hN hP ht hx hu hnn hx0 hu0 hm hw hM hld hKf tt A1 hc hf ?_ 0 (by omega)
               by_cases cx : c < x
               · refine x_iload (pc := 612) dX7_turn_612 rfl ?_
                 refine x_iload (pc := 614) dX7_turn_614 rfl ?_
                 refine x_icmp_ge (pc := 616) (tgt := 625) dX7_turn_616 (by decide) (by omega) (by omega) (fun c616 => ?_) (fun c616 => ?_)
                 · exact absurd c616 (by omega)
                 · refine x_iload_n (pc := 619) dX7_turn_619 rfl ?_
                   refine x_iconst (pc := 620) dX7_turn_620 ?_
                   refine x_isub (pc := 621) dX7_turn_621 ?_
                   rw [show (t : Int) - 1 = ((t - 1 : Nat) : Int) by omega]
                   refine x_goto (pc := 622) (tgt := 626) dX7_turn_622 (by decide) ?_
                   refine x_istore (pc := 626) dX7_turn_626 (by decide) rfl ?_
                   show Ex _ _ _ _ _ _ [_, _, _, _, _, _, _, _, _, _, _, _, _, _, _, _, _, _, _, _] _ _ _ _
                   refine x_iload (pc := 628) dX7_turn_628 rfl ?_
                   refine x_iload (pc := 630) dX7_turn_630 rfl ?_
                   refine x_icmp_ge (pc := 632) (tgt := 640) dX7_turn_632 (by decide) (by omega) (by omega) (fun c632 => ?_) (fun c632 => ?_)
                   · exact absurd c632 (by omega)
                   · refine x_iload (pc := 635) dX7_turn_635 rfl ?_
                     refine x_goto (pc := 637) (tgt := 645) dX7_turn_637 (by decide) ?_
                     refine x_istore (pc := 645) dX7_turn_645 (by decide) rfl ?_
                     show Ex _ _ _ _ _ _ [_, _, _, _, _, _, _, _, _, _, _, _, _, _, _, _, _, _, _, _] _ _ _ _
                     refine x_aload_n (pc := 647) dX7_turn_647 rfl ?_
                     refine x_gf (pc := 648) dX7_turn_648 fX7_22 (by assumption) (by omega) ?_
                     refine x_iload (pc := 651) dX7_turn_651 rfl ?_
                     refine x_if_eq (pc := 653) (tgt := 669) dX7_turn_653 (by decide) (bz_rg _) (fun c653 => ?_) (fun c653 => ?_)
                     · refine x_iconst (pc := 669) dX7_turn_669 ?_
                       refine x_iload (pc := 670) dX7_turn_670 rfl ?_
                       refine x_iload (pc := 672) dX7_turn_672 rfl ?_
                       refine x_iload (pc := 674) dX7_turn_674 rfl ?_
                       refine x_t4 (pc := 676) dX7_turn_676 wX7_cell sX7_cell kX7_128 (by decide) rfl (Nat.le_of_ble_eq_true rfl) (m_cell (l := 0) (k := (t - 1)) (r := f) (c := c)) ?_
                       refine x_iload (pc := 679) dX7_turn_679 rfl ?_
                       refine x_is (pc := 681) dX7_turn_681 (by assumption) (by omega) rfl (by omega) ?_
                       first
                         | rw [show 0 * 128 + (t - 1) * 16 + c * 4 + f = pos b (t - 1) c f from (by rw [← pos_t c653]; omega)]
                         | rw [show 0 * 128 + (t - 1) * 16 + f * 4 + c = pos b (t - 1) c f from (by rw [← pos_f c653]; omega)]
                       refine x_iinc (pc := 682) dX7_turn_682 rfl (by decide) rfl ?_
                       show Ex _ _ _ _ _ _ [_, _, _, _, _, _, _, _, _, _, _, _, _, _, _, _, _, _, _, _] _ _ _ _
                       refine x_goto (pc := 685) (tgt := 534) dX7_turn_685 (by decide) ?_
                       have f2 := ff.put hc hf hx hu hnn hx0 hu0
                       rw [if_pos cx, if_pos cx] at f2
                       exact ih _ _ _ _ _ (tt.k6b (fun x hx => up_n _ _ hx)) ((up_n _ _ (by omega)).trans A1) (up_s _ _ _) f2 (fun h E9 v17 v18 v19 t9 a9 b9 fr9 g9 => hq h E9 v17 v18 v19 t9 a9 b9 ((Fr.rf.up (by omega) (by omega)).tr fr9) g9)
                     · refine x_iconst (pc := 656) dX7_turn_656 ?_
                       refine x_iload (pc := 657) dX7_turn_657 rfl ?_
                       refine x_iload (pc := 659) dX7_turn_659 rfl ?_
                       refine x_iload (pc := 661) dX7_turn_661 rfl ?_
                       refine x_t4 (pc := 663) dX7_turn_663 wX7_cell sX7_cell kX7_128 (by decide) rfl (Nat.le_of_ble_eq_true rfl) (m_cell (l := 0) (k := (t - 1)) (r := c) (c := f)) ?_
                       refine x_goto (pc := 666) (tgt := 679) dX7_turn_666 (by decide) ?_
                       refine x_iload (pc := 679) dX7_turn_679 rfl ?_
                       refine x_is (pc := 681) dX7_turn_681 (by assumption) (by omega) rfl (by omega) ?_
                       first
                         | rw [show 0 * 128 + (t - 1) * 16 + c * 4 + f = pos b (t - 1) c f from (by rw [← pos_t c653]; omega)]
                         | rw [show 0 * 128 + (t - 1) * 16 + f * 4 + c = pos b (t - 1) c f from (by rw [← pos_f c653]; omega)]
                       refine x_iinc (pc := 682) dX7_turn_682 rfl (by decide) rfl ?_
                       show Ex _ _ _ _ _ _ [_, _, _, _, _, _, _, _, _, _, _, _, _, _, _, _, _, _, _, _] _ _ _ _
                       refine x_goto (pc := 685) (tgt := 534) dX7_turn_685 (by decide) ?_
                       have f2 := ff.put hc hf hx hu hnn hx0 hu0
                       rw [if_pos cx, if_pos cx] at f2
                       exact ih _ _ _ _ _ (tt.k6b (fun x hx => up_n _ _ hx)) ((up_n _ _ (by omega)).trans A1) (up_s _ _ _) f2 (fun h E9 v17 v18 v19 t9 a9 b9 fr9 g9 => hq h E9 v17 v18 v19 t9 a9 b9 ((Fr.rf.up (by omega) (by omega)).tr fr9) g9)
               · refine x_iload (pc := 612) dX7_turn_612 rfl ?_
                 refine x_iload (pc := 614) dX7_turn_614 rfl ?_
                 refine x_icmp_ge (pc := 616) (tgt := 625) dX7_turn_616 (by decide) (by omega) (by omega) (fun c616 => ?_) (fun c616 => ?_)
                 · refine x_iload_n (pc := 625) dX7_turn_625 rfl ?_
                   refine x_istore (pc := 626) dX7_turn_626 (by decide) rfl ?_
                   show Ex _ _ _ _ _ _ [_, _, _, _, _, _, _, _, _, _, _, _, _, _, _, _, _, _, _, _] _ _ _ _
                   refine x_iload (pc := 628) dX7_turn_628 rfl ?_
                   refine x_iload (pc := 630) dX7_turn_630 rfl ?_
                   refine x_icmp_ge (pc := 632) (tgt := 640) dX7_turn_632 (by decide) (by omega) (by omega) (fun c632 => ?_) (fun c632 => ?_)
                   · refine x_iload (pc := 640) dX7_turn_640 rfl ?_
                     refine x_iload (pc := 642) dX7_turn_642 rfl ?_
                     refine x_isub (pc := 644) dX7_turn_644 ?_
                     rw [show (c : Int) - (x : Int) = ((c - x : Nat) : Int) by omega]
                     refine x_istore (pc := 645) dX7_turn_645 (by decide) rfl ?_
                     show Ex _ _ _ _ _ _ [_, _, _, _, _, _, _, _, _, _, _, _, _, _, _, _, _, _, _, _] _ _ _ _
                     refine x_aload_n (pc := 647) dX7_turn_647 rfl ?_
                     refine x_gf (pc := 648) dX7_turn_648 fX7_22 (by assumption) (by omega) ?_
                     refine x_iload (pc := 651) dX7_turn_651 rfl ?_
                     refine x_if_eq (pc := 653) (tgt := 669) dX7_turn_653 (by decide) (bz_rg _) (fun c653 => ?_) (fun c653 => ?_)
                     · refine x_iconst (pc := 669) dX7_turn_669 ?_
                       refine x_iload (pc := 670) dX7_turn_670 rfl ?_
                       refine x_iload (pc := 672) dX7_turn_672 rfl ?_
                       refine x_iload (pc := 674) dX7_turn_674 rfl ?_
                       refine x_t4 (pc := 676) dX7_turn_676 wX7_cell sX7_cell kX7_128 (by decide) rfl (Nat.le_of_ble_eq_true rfl) (m_cell (l := 0) (k := t) (r := f) (c := (c - x))) ?_
                       refine x_iload (pc := 679) dX7_turn_679 rfl ?_
                       refine x_is (pc := 681) dX7_turn_681 (by assumption) (by omega) rfl (by omega) ?_
                       first
                         | rw [show 0 * 128 + t * 16 + (c - x) * 4 + f = pos b t (c - x) f from (by rw [← pos_t c653]; omega)]
                         | rw [show 0 * 128 + t * 16 + f * 4 + (c - x) = pos b t (c - x) f from (by rw [← pos_f c653]; omega)]
                       refine x_iinc (pc := 682) dX7_turn_682 rfl (by decide) rfl ?_
                       show Ex _ _ _ _ _ _ [_, _, _, _, _, _, _, _, _, _, _, _, _, _, _, _, _, _, _, _] _ _ _ _
                       refine x_goto (pc := 685) (tgt := 534) dX7_turn_685 (by decide) ?_
                       have f2 := ff.put hc hf hx hu hnn hx0 hu0
                       rw [if_neg cx, if_neg cx] at f2
                       exact ih _ _ _ _ _ (tt.k6b (fun x hx => up_n _ _ hx)) ((up_n _ _ (by omega)).trans A1) (up_s _ _ _) f2 (fun h E9 v17 v18 v19 t9 a9 b9 fr9 g9 => hq h E9 v17 v18 v19 t9 a9 b9 ((Fr.rf.up (by omega) (by omega)).tr fr9) g9)
                     · refine x_iconst (pc := 656) dX7_turn_656 ?_
                       refine x_iload (pc := 657) dX7_turn_657 rfl ?_
                       refine x_iload (pc := 659) dX7_turn_659 rfl ?_
                       refine x_iload (pc := 661) dX7_turn_661 rfl ?_
                       refine x_t4 (pc := 663) dX7_turn_663 wX7_cell sX7_cell kX7_128 (by decide) rfl (Nat.le_of_ble_eq_true rfl) (m_cell (l := 0) (k := t) (r := (c - x)) (c := f)) ?_
                       refine x_goto (pc := 666) (tgt := 679) dX7_turn_666 (by decide) ?_
                       refine x_iload (pc := 679) dX7_turn_679 rfl ?_
                       refine x_is (pc := 681) dX7_turn_681 (by assumption) (by omega) rfl (by omega) ?_
                       first
                         | rw [show 0 * 128 + t * 16 + (c - x) * 4 + f = pos b t (c - x) f from (by rw [← pos_t c653]; omega)]
                         | rw [show 0 * 128 + t * 16 + f * 4 + (c - x) = pos b t (c - x) f from (by rw [← pos_f c653]; omega)]
                       refine x_iinc (pc := 682) dX7_turn_682 rfl (by decide) rfl ?_
                       show Ex _ _ _ _ _ _ [_, _, _, _, _, _, _, _, _, _, _, _, _, _, _, _, _, _, _, _] _ _ _ _
                       refine x_goto (pc := 685) (tgt := 534) dX7_turn_685 (by decide) ?_
                       have f2 := ff.put hc hf hx hu hnn hx0 hu0
                       rw [if_neg cx, if_neg cx] at f2
                       exact ih _ _ _ _ _ (tt.k6b (fun x hx => up_n _ _ hx)) ((up_n _ _ (by omega)).trans A1) (up_s _ _ _) f2 (fun h E9 v17 v18 v19 t9 a9 b9 fr9 g9 => hq h E9 v17 v18 v19 t9 a9 b9 ((Fr.rf.up (by omega) (by omega)).tr fr9) g9)
                   · exact absurd c632 (by omega)
                 · exact absurd c616 (by omega)
             rw [show (vvS p M ld c (Kf f) (if c = Kf f then 1 else 0) 0) = 0 from if_neg (by omega)] at key
             exact key)

theorem k_tf1 {G : GL} {d : Nat} {sz p N : Nat} (hz : 615 ≤ sz) (hN : 1 ≤ N ∧ N ≤ 8) (hP : isP p) {W : Nat → Nat} {S T : Nat → Int} {l t z x u mm nn : Nat} (ht : t < N) {b : Bool} (hx : x ≤ 4) (hu : u ≤ 4) (hnn : nn ≤ 4) (hx0 : 0 < x → 0 < t) (hu0 : 0 < u → t + 1 < N) {M : Nat → Nat → Int} {ld : Nat → Int} {m w : Nat} (hm : m ≤ 8) (hw : w = x + u) (hM : inQ m w M p) (hld : ∀ r, r < m → 0 ≤ ld r ∧ ld r < w) {F : Nat → Int} {Qs : Nat → Nat → Int} {g : Nat → Option Nat} {σ : Nat → Nat} {f0 : Nat → Int} {Kf : Nat → Nat} (hKf : ∀ i, i < nn → f0 i = (Kf i : Int) ∧ Kf i < w) {E0 : Nat → Int} {i12 w3 h4 h5 : Int} {v6 v7 : AV} {Q : Option AV → HP → Nat → Prop} : ∀ c, c ≤ x + u → ∀ (hp : HP) (E : Nat → Int) (v16 v17 v18 v19 : AV), TS hp p N W S T M ld m w g σ F Qs → hp 360 = ar 0 9 f0 → hp 97 = ar 0 128 E → FfP b N t x u nn c 0 (fun c ix => vvS p M ld c (Kf ix) (if c = Kf ix then 1 else 0) m) E0 E → (∀ h E1 v16 v17 v18 v19, TS h p N W S T M ld m w g σ F Qs → h 360 = ar 0 9 f0 → h 97 = ar 0 128 E1 → Fr hp h 97 97 → FfP b N t x u nn (x + u) 0 (fun c ix => vvS p M ld c (Kf ix) (if c = Kf ix then 1 else 0) m) E0 E1 → Ex G (d + 3) 0 0 mX7_turn 694 [vr 92, vi l, vi t, vi z, vi h4, vi h5, v6, v7, vi (bz b), vi x, vi u, vi mm, vi i12, vi nn, vi w3, vi (x + u : Nat), v16, v17, v18, v19] [] h sz Q) → Ex G (d + 3) 0 0 mX7_turn 521 [vr 92, vi l, vi t, vi z, vi h4, vi h5, v6, v7, vi (bz b), vi x, vi u, vi mm, vi i12, vi nn, vi w3, vi c, v16, v17, v18, v19] [] hp sz Q := by
  refine down (fun hp E v16 v17 v18 v19 tt A1 A2 ff hq => ?_) (fun c hc ih hp E v16 v17 v18 v19 tt A1 A2 ff hq => ?_)
  · obtain ⟨C, D, Mo, FA, ⟨gq, SA, SB⟩, SC⟩ := id tt
    obtain ⟨C0, C1, C2, C3, C4, C5, C6, C7, C8, C11, C12, C13, C14, C15, C16, C17, C18, C19, C20, C21, C22, C23⟩ := id C
    have hob := C0.ob
    obtain ⟨D1, D2, D3, D4⟩ := id D
    obtain ⟨O1, O2, O3, O4, O5, O6⟩ := id Mo
    refine x_iload (pc := 521) dX7_turn_521 rfl ?_
    refine x_iload (pc := 523) dX7_turn_523 rfl ?_
    refine x_iload (pc := 525) dX7_turn_525 rfl ?_
    refine x_iadd (pc := 527) dX7_turn_527 ?_
    refine x_icmp_ge (pc := 528) (tgt := 694) dX7_turn_528 (by decide) (by omega) (by omega) (fun c528 => ?_) (fun c528 => ?_)
    · exact hq hp E _ _ _ _ tt A1 A2 Fr.rf ff
    · exact absurd c528 (by omega)
  · obtain ⟨C, D, Mo, FA, ⟨gq, SA, SB⟩, SC⟩ := id tt
    obtain ⟨C0, C1, C2, C3, C4, C5, C6, C7, C8, C11, C12, C13, C14, C15, C16, C17, C18, C19, C20, C21, C22, C23⟩ := id C
    have hob := C0.ob
    obtain ⟨D1, D2, D3, D4⟩ := id D
    obtain ⟨O1, O2, O3, O4, O5, O6⟩ := id Mo
    refine x_iload (pc := 521) dX7_turn_521 rfl ?_
    refine x_iload (pc := 523) dX7_turn_523 rfl ?_
    refine x_iload (pc := 525) dX7_turn_525 rfl ?_
    refine x_iadd (pc := 527) dX7_turn_527 ?_
    refine x_icmp_ge (pc := 528) (tgt := 694) dX7_turn_528 (by decide) (by omega) (by omega) (fun c528 => ?_) (fun c528 => ?_)
    · exact absurd c528 (by omega)
    · refine x_iconst (pc := 531) dX7_turn_531 ?_
      refine x_istore (pc := 532) dX7_turn_532 (by decide) rfl ?_
      show Ex _ _ _ _ _ _ [_, _, _, _, _, _, _, _, _, _, _, _, _, _, _, _, _, _, _, _] _ _ _ _
      refine k_tf2 (d := d) hz hN hP ht hx hu hnn hx0 hu0 hm hw hM hld hKf hc 0 (by omega) hp E _ _ _ tt A1 A2 ff (fun h E1 v17 v18 v19 t1 a1 b1 fr1 g1 => ?_)
      refine x_iinc (pc := 688) dX7_turn_688 rfl (by decide) rfl ?_
      show Ex _ _ _ _ _ _ [_, _, _, _, _, _, _, _, _, _, _, _, _, _, _, _, _, _, _, _] _ _ _ _
      refine x_goto (pc := 691) (tgt := 521) dX7_turn_691 (by decide) ?_
      exact ih h E1 _ _ _ _ t1 a1 b1 g1.next (fun h2 E2 v16 v17 v18 v19 t2 a2 b2 fr2 => hq h2 E2 v16 v17 v18 v19 t2 a2 b2 (fr1.tr fr2))
