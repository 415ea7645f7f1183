theorem k_rank4R {K : Type} [Lean.Grind.CommRing K] {f : Int → K} {G : GL} {d : Nat} {sz p N : Nat} (hz : 615 ≤ sz) (hN : 1 ≤ N ∧ N ≤ 8) (hP : isP p) {W : Nat → Nat} {S T : Nat → Int} (hT : inTm T p) {l a b : Nat} (hl : l < 8) {s : Nat → Nat} (hs : sz8 S l s) (ha : a < N) (hb : b < N) {Q : Option AV → HP → Nat → Prop} (hf : Iot p f) (hab : a ≤ b) (hd : ∀ k, a ≤ k → k < b → Lw (W l) k = false) {M : Nat → Nat → Int} {ld : Nat → Int} {m w : Nat} {g : Nat → Option Nat} {σ : Nat → Nat} {F : Nat → Int} {Qs : Nat → Nat → Int} {x : Nat} (hx : x < s a) : ∀ tt, tt ≤ (b - a) → ∀ (hp : HP) (col Ll : Nat → Int) (v6 v7 v8 v9 : AV), TS hp p N W S T M ld m w g σ F Qs → hp 396 = ar 0 4 col → hp 397 = ar 0 4 Ll → (∀ j, j < 4 → 0 ≤ col j ∧ col j < p) → (∀ z, tr (s (a + tt)) f col z = vKd (TK f T (Lw (W l)) s l) (fun t => a + t) x tt z) → (∀ h col1 Ll1 v6 v7 v8 v9, TS h p N W S T M ld m w g σ F Qs → h 396 = ar 0 4 col1 → h 397 = ar 0 4 Ll1 → (∀ j, j < 4 → 0 ≤ col1 j ∧ col1 j < p) → (∀ z, tr (s (a + (b - a))) f col1 z = vKd (TK f T (Lw (W l)) s l) (fun t => a + t) x (b - a) z) → Fk6 hp h → Ex G (d + 3) 0 0 mX7_rank 315 [vr 92, vi l, vi a, vi b, vi x, vi ((a + (b - a)) : Nat), v6, v7, v8, v9] [] h sz Q) → Ex G (d + 3) 0 0 mX7_rank 131 [vr 92, vi l, vi a, vi b, vi x, vi ((a + tt) : Nat), v6, v7, v8, v9] [] hp sz Q := by
  have hpl := hP.le
  refine down (fun hp col Ll v6 v7 v8 v9 t A1 A2 hcol hv hq => ?_) (fun tt htt ih hp col Ll v6 v7 v8 v9 t A1 A2 hcol hv hq => ?_)
  · obtain ⟨C, D, Mo, FA, ⟨gq, SA, SB⟩, SC⟩ := id t
    obtain ⟨C0, C1, C2, C3, C4, C5, C6, C7, C8, C11, C12, C13, C14, C15, C16, C17, C18, C19, C20, C21, C22, C23⟩ := id C
    have hob := C0.ob
    obtain ⟨D1, D2, D3, D4⟩ := id D
    obtain ⟨O1, O2, O3, O4, O5, O6⟩ := id Mo
    refine x_iload (pc := 131) dX7_rank_131 rfl ?_
    refine x_iload_n (pc := 133) dX7_rank_133 rfl ?_
    refine x_icmp_eq (pc := 134) (tgt := 315) dX7_rank_134 (by decide) (by omega) (by omega) (fun c134 => ?_) (fun c134 => ?_)
    · exact hq hp col Ll _ _ _ _ t A1 A2 hcol hv Fk6.rf
    · exact absurd c134 (by omega)
  · obtain ⟨C, D, Mo, FA, ⟨gq, SA, SB⟩, SC⟩ := id t
    obtain ⟨C0, C1, C2, C3, C4, C5, C6, C7, C8, C11, C12, C13, C14, C15, C16, C17, C18, C19, C20, C21, C22, C23⟩ := id C
    have hob := C0.ob
    obtain ⟨D1, D2, D3, D4⟩ := id D
    obtain ⟨O1, O2, O3, O4, O5, O6⟩ := id Mo
    refine x_iload (pc := 131) dX7_rank_131 rfl ?_
    refine x_iload_n (pc := 133) dX7_rank_133 rfl ?_
    refine x_icmp_eq (pc := 134) (tgt := 315) dX7_rank_134 (by decide) (by omega) (by omega) (fun c134 => ?_) (fun c134 => ?_)
    · exact absurd c134 (by omega)
    · refine x_iload_n (pc := 137) dX7_rank_137 rfl ?_
      refine x_iload_n (pc := 138) dX7_rank_138 rfl ?_
      refine x_icmp_ge (pc := 139) (tgt := 147) dX7_rank_139 (by decide) (by omega) (by omega) (fun c139 => ?_) (fun c139 => ?_)
      · exact absurd c139 (by omega)
      · refine x_iload (pc := 142) dX7_rank_142 rfl ?_
        refine x_goto (pc := 144) (tgt := 151) dX7_rank_144 (by decide) ?_
        refine x_istore (pc := 151) dX7_rank_151 (by decide) rfl ?_
        show Ex _ _ _ _ _ _ [_, _, _, _, _, _, _, _, _, _] _ _ _ _
        refine x_iload_n (pc := 153) dX7_rank_153 rfl ?_
        refine x_iload_n (pc := 154) dX7_rank_154 rfl ?_
        refine x_icmp_ge (pc := 155) (tgt := 165) dX7_rank_155 (by decide) (by omega) (by omega) (fun c155 => ?_) (fun c155 => ?_)
        · exact absurd c155 (by omega)
        · refine x_iload (pc := 158) dX7_rank_158 rfl ?_
          refine x_iconst (pc := 160) dX7_rank_160 ?_
          refine x_iadd (pc := 161) dX7_rank_161 ?_
          refine x_goto (pc := 162) (tgt := 169) dX7_rank_162 (by decide) ?_
          refine x_istore (pc := 169) dX7_rank_169 (by decide) rfl ?_
          show Ex _ _ _ _ _ _ [_, _, _, _, _, _, _, _, _, _] _ _ _ _
          refine x_iconst (pc := 171) dX7_rank_171 ?_
          refine x_istore (pc := 172) dX7_rank_172 (by decide) rfl ?_
          show Ex _ _ _ _ _ _ [_, _, _, _, _, _, _, _, _, _] _ _ _ _
          have key5 : Ex G (d + 3) 0 0 mX7_rank 174 [vr 92, vi l, vi a, vi b, vi x, vi ((a + tt) : Nat), vi ((a + tt) : Nat), vi ((a + (tt + 1)) : Nat), vi (0 : Nat), v9] [] (up hp 397 (ar 0 4 (fun z => if z < 0 then ldS T p l (a + tt) col z (s (a + tt)) else Ll z))) sz Q := by
            have e6 : so (Lw (W l)) (a + tt) = (a + tt) := by
              have := hd (a + tt) (by omega) (by omega)
              unfold so
              rw [this]
              rfl
            have e7 : ta (Lw (W l)) (a + tt) = (a + (tt + 1)) := by
              have := hd (a + tt) (by omega) (by omega)
              unfold ta
              rw [this]
              rfl
            have hq4 := (hs (a + tt) (by omega)).2
            have hr4 := (hs (a + (tt + 1)) (by omega)).2
            refine k_rank5 (d := d) (x := x) (q := (a + tt)) (k := (a + tt)) (r := (a + (tt + 1))) (L0 := Ll) hz hN hP hT hl hs ha hb t A1 hcol (by omega) (by omega) (by omega) (fun v9 => ?_) 0 (by omega) _
            refine x_iconst (pc := 263) dX7_rank_263 ?_
            refine x_istore (pc := 264) dX7_rank_264 (by decide) rfl ?_
            show Ex _ _ _ _ _ _ [_, _, _, _, _, _, _, _, _, _] _ _ _ _
            have t5 := t.keep (h' := up hp 397 (ar 0 4 (fun z => if z < (s (a + (tt + 1))) then ldS T p l (a + tt) col z (s (a + tt)) else Ll z))) (fun x hx => up_n _ _ (by omega))
            have key : Ex G (d + 3) 0 0 mX7_rank 266 [vr 92, vi l, vi a, vi b, vi x, vi ((a + tt) : Nat), vi ((a + tt) : Nat), vi ((a + (tt + 1)) : Nat), vi (0 : Nat), v9] [] (up (up hp 397 (ar 0 4 (fun z => if z < (s (a + (tt + 1))) then ldS T p l (a + tt) col z (s (a + tt)) else Ll z))) 396 (ar 0 4 (fun z => if z < 0 then (if z < s (a + (tt + 1)) then (fun z => if z < (s (a + (tt + 1))) then ldS T p l (a + tt) col z (s (a + tt)) else Ll z) z else 0) else col z))) sz Q := by
              refine k_rank7 (d := d) (x := x) (q := (a + tt)) (k := (a + tt)) (r := (a + (tt + 1))) (col := col) hz hN hP hT hl hs ha hb t5 (up_s _ _ _) (by omega) ?_ 0 (by omega)
              refine x_iload (pc := 308) dX7_rank_308 rfl ?_
              refine x_istore (pc := 310) dX7_rank_310 (by decide) rfl ?_
              show Ex _ _ _ _ _ _ [_, _, _, _, _, _, _, _, _, _] _ _ _ _
              refine x_goto (pc := 312) (tgt := 131) dX7_rank_312 (by decide) ?_
              exact ih _ (fun z => if z < 4 then (if z < s (a + (tt + 1)) then (fun z => if z < (s (a + (tt + 1))) then ldS T p l (a + tt) col z (s (a + tt)) else Ll z) z else 0) else col z) (fun z => if z < (s (a + (tt + 1))) then ldS T p l (a + tt) col z (s (a + tt)) else Ll z) _ _ _ _ ((t.keep (fun x hx => up_n _ _ (by omega))).keep (fun x hx => up_n _ _ (by omega))) (up_s _ _ _) ((up_n _ _ (by omega)).trans (up_s _ _ _)) (fun j hj => by
                dsimp only
                rw [if_pos hj]
                by_cases e : j < s (a + (tt + 1))
                · rw [if_pos e, if_pos e]; exact ldS_rg (by omega) _
                · rw [if_neg e]; omega) (fun z => by
                refine (rank_step hf e6 e7 hq4 hr4 (col := col) (fun z hz9 => ?_) hv z).trans rfl
                dsimp only
                rw [if_pos (by omega), if_pos hz9, if_pos hz9]) (fun h c9 l9 w6 w7 w8 w9 t9 a19 a29 h9 v9' f9 => hq h c9 l9 w6 w7 w8 w9 t9 a19 a29 h9 v9' (((Fk6.rf.up (by omega) (by omega)).up (by omega) (by omega)).tr f9))
            rw [show (fun z => if z < 0 then (if z < s (a + (tt + 1)) then (fun z => if z < (s (a + (tt + 1))) then ldS T p l (a + tt) col z (s (a + tt)) else Ll z) z else 0) else col z) = col from funext fun z => if_neg (Nat.not_lt_zero _), show up (up hp 397 (ar 0 4 (fun z => if z < (s (a + (tt + 1))) then ldS T p l (a + tt) col z (s (a + tt)) else Ll z))) 396 (ar 0 4 col) = up hp 397 (ar 0 4 (fun z => if z < (s (a + (tt + 1))) then ldS T p l (a + tt) col z (s (a + tt)) else Ll z)) from by
              funext z
              by_cases e : z = 396
              · rw [e, up_s, up_n _ _ (by omega), A1]
              · rw [up_n _ _ e]] at key
            exact key
          rw [show (fun z => if z < 0 then ldS T p l (a + tt) col z (s (a + tt)) else Ll z) = Ll from funext fun z => if_neg (Nat.not_lt_zero _), show up hp 397 (ar 0 4 Ll) = hp from by
            funext z
            by_cases e : z = 397
            · rw [e, up_s, A2]
            · rw [up_n _ _ e]] at key5
          rw [show (((a + (tt + 1) : Nat) : Nat) : Int) = ((a + tt : Nat) : Int) + 1 by omega] at key5
          exact key5

theorem k_rank4L {K : Type} [Lean.Grind.CommRing K] {f : Int → K} {G : GL} {d : Nat} {sz p N : Nat} (hz : 615 ≤ sz) (hN : 1 ≤ N ∧ N ≤ 8) (hP : isP p) {W : Nat → Nat} {S T : Nat → Int} (hT : inTm T p) {l a b : Nat} (hl : l < 8) {s : Nat → Nat} (hs : sz8 S l s) (ha : a < N) (hb : b < N) {Q : Option AV → HP → Nat → Prop} (hf : Iot p f) (hab : b < a) (hd : ∀ k, b ≤ k → k < a → Lw (W l) k = true) {M : Nat → Nat → Int} {ld : Nat → Int} {m w : Nat} {g : Nat → Option Nat} {σ : Nat → Nat} {F : Nat → Int} {Qs : Nat → Nat → Int} {x : Nat} (hx : x < s a) : ∀ tt, tt ≤ (a - b) → ∀ (hp : HP) (col Ll : Nat → Int) (v6 v7 v8 v9 : AV), TS hp p N W S T M ld m w g σ F Qs → hp 396 = ar 0 4 col → hp 397 = ar 0 4 Ll → (∀ j, j < 4 → 0 ≤ col j ∧ col j < p) → (∀ z, tr (s (a - tt)) f col z = vKd (TK f T (Lw (W l)) s l) (fun t => a - t - 1) x tt z) → (∀ h col1 Ll1 v6 v7 v8 v9, TS h p N W S T M ld m w g σ F Qs → h 396 = ar 0 4 col1 → h 397 = ar 0 4 Ll1 → (∀ j, j < 4 → 0 ≤ col1 j ∧ col1 j < p) → (∀ z, tr (s (a - (a - b))) f col1 z = vKd (TK f T (Lw (W l)) s l) (fun t => a - t - 1) x (a - b) z) → Fk6 hp h → Ex G (d + 3) 0 0 mX7_rank 315 [vr 92, vi l, vi a, vi b, vi x, vi ((a - (a - b)) : Nat), v6, v7, v8, v9] [] h sz Q) → Ex G (d + 3) 0 0 mX7_rank 131 [vr 92, vi l, vi a, vi b, vi x, vi ((a - tt) : Nat), v6, v7, v8, v9] [] hp sz Q := by
  have hpl := hP.le
  refine down (fun hp col Ll v6 v7 v8 v9 t A1 A2 hcol hv hq => ?_) (fun tt htt ih hp col Ll v6 v7 v8 v9 t A1 A2 hcol hv hq => ?_)
  · obtain ⟨C, D, Mo, FA, ⟨gq, SA, SB⟩, SC⟩ := id t
    obtain ⟨C0, C1, C2, C3, C4, C5, C6, C7, C8, C11, C12, C13, C14, C15, C16, C17, C18, C19, C20, C21, C22, C23⟩ := id C
    have hob := C0.ob
    obtain ⟨D1, D2, D3, D4⟩ := id D
    obtain ⟨O1, O2, O3, O4, O5, O6⟩ := id Mo
    refine x_iload (pc := 131) dX7_rank_131 rfl ?_
    refine x_iload_n (pc := 133) dX7_rank_133 rfl ?_
    refine x_icmp_eq (pc := 134) (tgt := 315) dX7_rank_134 (by decide) (by omega) (by omega) (fun c134 => ?_) (fun c134 => ?_)
    · exact hq hp col Ll _ _ _ _ t A1 A2 hcol hv Fk6.rf
    · exact absurd c134 (by omega)
  · obtain ⟨C, D, Mo, FA, ⟨gq, SA, SB⟩, SC⟩ := id t
    obtain ⟨C0, C1, C2, C3, C4, C5, C6, C7, C8, C11, C12, C13, C14, C15, C16, C17, C18, C19, C20, C21, C22, C23⟩ := id C
    have hob := C0.ob
    obtain ⟨D1, D2, D3, D4⟩ := id D
    obtain ⟨O1, O2, O3, O4, O5, O6⟩ := id Mo
    refine x_iload (pc := 131) dX7_rank_131 rfl ?_
    refine x_iload_n (pc := 133) dX7_rank_133 rfl ?_
    refine x_icmp_eq (pc := 134) (tgt := 315) dX7_rank_134 (by decide) (by omega) (by omega) (fun c134 => ?_) (fun c134 => ?_)
    · exact absurd c134 (by omega)
    · refine x_iload_n (pc := 137) dX7_rank_137 rfl ?_
      refine x_iload_n (pc := 138) dX7_rank_138 rfl ?_
      refine x_icmp_ge (pc := 139) (tgt := 147) dX7_rank_139 (by decide) (by omega) (by omega) (fun c139 => ?_) (fun c139 => ?_)
      · refine x_iload (pc := 147) dX7_rank_147 rfl ?_
        refine x_iconst (pc := 149) dX7_rank_149 ?_
        refine x_isub (pc := 150) dX7_rank_150 ?_
        refine x_istore (pc := 151) dX7_rank_151 (by decide) rfl ?_
        show Ex _ _ _ _ _ _ [_, _, _, _, _, _, _, _, _, _] _ _ _ _
        refine x_iload_n (pc := 153) dX7_rank_153 rfl ?_
        refine x_iload_n (pc := 154) dX7_rank_154 rfl ?_
        refine x_icmp_ge (pc := 155) (tgt := 165) dX7_rank_155 (by decide) (by omega) (by omega) (fun c155 => ?_) (fun c155 => ?_)
        · refine x_iload (pc := 165) dX7_rank_165 rfl ?_
          refine x_iconst (pc := 167) dX7_rank_167 ?_
          refine x_isub (pc := 168) dX7_rank_168 ?_
          refine x_istore (pc := 169) dX7_rank_169 (by decide) rfl ?_
          show Ex _ _ _ _ _ _ [_, _, _, _, _, _, _, _, _, _] _ _ _ _
          refine x_iconst (pc := 171) dX7_rank_171 ?_
          refine x_istore (pc := 172) dX7_rank_172 (by decide) rfl ?_
          show Ex _ _ _ _ _ _ [_, _, _, _, _, _, _, _, _, _] _ _ _ _
          have key5 : Ex G (d + 3) 0 0 mX7_rank 174 [vr 92, vi l, vi a, vi b, vi x, vi ((a - tt) : Nat), vi ((a - tt - 1) : Nat), vi ((a - (tt + 1)) : Nat), vi (0 : Nat), v9] [] (up hp 397 (ar 0 4 (fun z => if z < 0 then ldS T p l (a - tt - 1) col z (s (a - tt)) else Ll z))) sz Q := by
            have e6 : so (Lw (W l)) (a - tt - 1) = (a - tt) := by
              have := hd (a - tt - 1) (by omega) (by omega)
              unfold so
              rw [this]
              show a - tt - 1 + 1 = a - tt; omega
            have e7 : ta (Lw (W l)) (a - tt - 1) = (a - (tt + 1)) := by
              have := hd (a - tt - 1) (by omega) (by omega)
              unfold ta
              rw [this]
              show a - tt - 1 = a - (tt + 1); omega
            have hq4 := (hs (a - tt) (by omega)).2
            have hr4 := (hs (a - (tt + 1)) (by omega)).2
            refine k_rank5 (d := d) (x := x) (q := (a - tt)) (k := (a - tt - 1)) (r := (a - (tt + 1))) (L0 := Ll) hz hN hP hT hl hs ha hb t A1 hcol (by omega) (by omega) (by omega) (fun v9 => ?_) 0 (by omega) _
            refine x_iconst (pc := 263) dX7_rank_263 ?_
            refine x_istore (pc := 264) dX7_rank_264 (by decide) rfl ?_
            show Ex _ _ _ _ _ _ [_, _, _, _, _, _, _, _, _, _] _ _ _ _
            have t5 := t.keep (h' := up hp 397 (ar 0 4 (fun z => if z < (s (a - (tt + 1))) then ldS T p l (a - tt - 1) col z (s (a - tt)) else Ll z))) (fun x hx => up_n _ _ (by omega))
            have key : Ex G (d + 3) 0 0 mX7_rank 266 [vr 92, vi l, vi a, vi b, vi x, vi ((a - tt) : Nat), vi ((a - tt - 1) : Nat), vi ((a - (tt + 1)) : Nat), vi (0 : Nat), v9] [] (up (up hp 397 (ar 0 4 (fun z => if z < (s (a - (tt + 1))) then ldS T p l (a - tt - 1) col z (s (a - tt)) else Ll z))) 396 (ar 0 4 (fun z => if z < 0 then (if z < s (a - (tt + 1)) then (fun z => if z < (s (a - (tt + 1))) then ldS T p l (a - tt - 1) col z (s (a - tt)) else Ll z) z else 0) else col z))) sz Q := by
              refine k_rank7 (d := d) (x := x) (q := (a - tt)) (k := (a - tt - 1)) (r := (a - (tt + 1))) (col := col) hz hN hP hT hl hs ha hb t5 (up_s _ _ _) (by omega) ?_ 0 (by omega)
              refine x_iload (pc := 308) dX7_rank_308 rfl ?_
              refine x_istore (pc := 310) dX7_rank_310 (by decide) rfl ?_
              show Ex _ _ _ _ _ _ [_, _, _, _, _, _, _, _, _, _] _ _ _ _
              refine x_goto (pc := 312) (tgt := 131) dX7_rank_312 (by decide) ?_
              exact ih _ (fun z => if z < 4 then (if z < s (a - (tt + 1)) then (fun z => if z < (s (a - (tt + 1))) then ldS T p l (a - tt - 1) col z (s (a - tt)) else Ll z) z else 0) else col z) (fun z => if z < (s (a - (tt + 1))) then ldS T p l (a - tt - 1) col z (s (a - tt)) else Ll z) _ _ _ _ ((t.keep (fun x hx => up_n _ _ (by omega))).keep (fun x hx => up_n _ _ (by omega))) (up_s _ _ _) ((up_n _ _ (by omega)).trans (up_s _ _ _)) (fun j hj => by
                dsimp only
                rw [if_pos hj]
                by_cases e : j < s (a - (tt + 1))
                · rw [if_pos e, if_pos e]; exact ldS_rg (by omega) _
                · rw [if_neg e]; omega) (fun z => by
                refine (rank_step hf e6 e7 hq4 hr4 (col := col) (fun z hz9 => ?_) hv z).trans rfl
                dsimp only
                rw [if_pos (by omega), if_pos hz9, if_pos hz9]) (fun h c9 l9 w6 w7 w8 w9 t9 a19 a29 h9 v9' f9 => hq h c9 l9 w6 w7 w8 w9 t9 a19 a29 h9 v9' (((Fk6.rf.up (by omega) (by omega)).up (by omega) (by omega)).tr f9))
            rw [show (fun z => if z < 0 then (if z < s (a - (tt + 1)) then (fun z => if z < (s (a - (tt + 1))) then ldS T p l (a - tt - 1) col z (s (a - tt)) else Ll z) z else 0) else col z) = col from funext fun z => if_neg (Nat.not_lt_zero _), show up (up hp 397 (ar 0 4 (fun z => if z < (s (a - (tt + 1))) then ldS T p l (a - tt - 1) col z (s (a - tt)) else Ll z))) 396 (ar 0 4 col) = up hp 397 (ar 0 4 (fun z => if z < (s (a - (tt + 1))) then ldS T p l (a - tt - 1) col z (s (a - tt)) else Ll z)) from by
              funext z
              by_cases e : z = 396
              · rw [e, up_s, up_n _ _ (by omega), A1]
              · rw [up_n _ _ e]] at key
            exact key
          rw [show (fun z => if z < 0 then ldS T p l (a - tt - 1) col z (s (a - tt)) else Ll z) = Ll from funext fun z => if_neg (Nat.not_lt_zero _), show up hp 397 (ar 0 4 Ll) = hp from by
            funext z
            by_cases e : z = 397
            · rw [e, up_s, A2]
            · rw [up_n _ _ e]] at key5
          rw [show (((a - (tt + 1) : Nat) : Nat) : Int) = ((a - tt : Nat) : Int) - 1 by omega, show (((a - tt - 1 : Nat) : Nat) : Int) = ((a - tt : Nat) : Int) - 1 by omega] at key5
          exact key5
        · exact absurd c155 (by omega)
      · exact absurd c139 (by omega)
