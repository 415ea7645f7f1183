/-! Spans at b: starts at b + 1, ends at b + 2 -/
def SpA (hp : HP) (b : Nat) (u v : Nat → Int) (c : Nat) : Prop := fld hp b 4 0 (vr (b + 1)) ∧ fld hp b 4 1 (vr (b + 2)) ∧ fld hp b 4 2 (vi c) ∧ hp (b + 1) = ar 0 32 u ∧ hp (b + 2) = ar 0 32 v
theorem SpA.ob {hp : HP} {b c : Nat} {u v : Nat → Int} (h : SpA hp b u v c) : isob hp b 4 := h.1.ob
theorem SpA.keep {hp hp' : HP} {b c : Nat} {u v : Nat → Int} (h : SpA hp b u v c) (e : ∀ x, b ≤ x → x ≤ b + 2 → hp' x = hp x) : SpA hp' b u v c := by
  obtain ⟨h1, h2, h3, h4, h5⟩ := h
  exact ⟨h1.keep (e _ (by omega) (by omega)), h2.keep (e _ (by omega) (by omega)), h3.keep (e _ (by omega) (by omega)), (e _ (by omega) (by omega)).trans h4, (e _ (by omega) (by omega)).trans h5⟩
theorem SpA.pfc {hp hp' : HP} {b c c' : Nat} {u v : Nat → Int} (h : SpA hp b u v c) (e : pf hp b 4 2 (vi c') hp') : SpA hp' b u v c' := by
  obtain ⟨h1, h2, h3, h4, h5⟩ := h
  exact ⟨e.2.2 0 _ (by decide) h1, e.2.2 1 _ (by decide) h2, e.2.1, (e.1 _ (by omega)).trans h4, (e.1 _ (by omega)).trans h5⟩
theorem SpA.upu {hp : HP} {b c : Nat} {u v u' : Nat → Int} (h : SpA hp b u v c) : SpA (up hp (b + 1) (ar 0 32 u')) b u' v c := by
  obtain ⟨h1, h2, h3, h4, h5⟩ := h
  exact ⟨h1.up (by omega), h2.up (by omega), h3.up (by omega), up_s _ _ _, (up_n _ _ (by omega)).trans h5⟩
theorem SpA.upv {hp : HP} {b c : Nat} {u v v' : Nat → Int} (h : SpA hp b u v c) : SpA (up hp (b + 2) (ar 0 32 v')) b u v' c := by
  obtain ⟨h1, h2, h3, h4, h5⟩ := h
  exact ⟨h1.up (by omega), h2.up (by omega), h3.up (by omega), (up_n _ _ (by omega)).trans h4, up_s _ _ _⟩

set_option maxRecDepth 4000 in
theorem t_Sclear {G : GL} {d : Nat} {hp : HP} {sz : Nat} {b c : Nat} {u v : Nat → Int} (S : SpA hp b u v c) (hz : b + 2 < sz) : Ct G d 0 0 mX4_clear [vr b] hp sz (Vd (fun h => Fr hp h b (b + 2) ∧ SpA h b u v 0) sz) := by
  show Ex _ _ _ _ _ _ [vr b] _ _ _ _
  have hob := S.ob
  obtain ⟨S1, S2, S3, S4, S5⟩ := id S
  refine x_aload_n (pc := 0) dX4_clear_0 rfl ?_
  refine x_iconst (pc := 1) dX4_clear_1 ?_
  refine x_pfi (pc := 2) dX4_clear_2 pX4_18 (by assumption) (by omega) (fun hp2 hf2 => ?_)
  refine x_vret (pc := 5) dX4_clear_5 rfl ⟨rfl, rfl, Fr.rf.pf hf2 (by omega) (by omega), S.pfc (c' := 0) hf2⟩

set_option maxRecDepth 4000 in
theorem t_Sadd {G : GL} {d : Nat} {hp : HP} {sz : Nat} {b c : Nat} {u v : Nat → Int} (S : SpA hp b u v c) (hz : b + 2 < sz) {x y : Int} (hc : c ≤ 32) : Ct G d 0 0 mX4_add [vr b, vi x, vi y] hp sz (Vd (fun h => Fr hp h b (b + 2) ∧ (c < 32 → SpA h b (up u c x) (up v c y) (c + 1)) ∧ (32 ≤ c → SpA h b u v c)) sz) := by
  show Ex _ _ _ _ _ _ [vr b, vi x, vi y] _ _ _ _
  have hob := S.ob
  obtain ⟨S1, S2, S3, S4, S5⟩ := id S
  refine x_aload_n (pc := 0) dX4_add_0 rfl ?_
  refine x_gf (pc := 1) dX4_add_1 fX4_18 (by assumption) (by omega) ?_
  refine x_bipush (pc := 4) dX4_add_4 (by decide) ?_
  refine x_icmp_ge (pc := 6) (tgt := 39) dX4_add_6 (by decide) (by omega) (by omega) (fun c6 => ?_) (fun c6 => ?_)
  · refine x_vret (pc := 39) dX4_add_39 rfl (by first | exact ⟨rfl, rfl, Fr.rf, fun h => absurd h (by omega), fun _ => S⟩ | exact ⟨rfl, rfl, ((Fr.rf.up (by omega) (by omega)).up (by omega) (by omega)).pf hf36 (by omega) (by omega), fun _ => Sc, fun h => absurd h (by omega)⟩)
  · refine x_aload_n (pc := 9) dX4_add_9 rfl ?_
    refine x_gf (pc := 10) dX4_add_10 fX4_9 (by assumption) (by omega) ?_
    refine x_aload_n (pc := 13) dX4_add_13 rfl ?_
    refine x_gf (pc := 14) dX4_add_14 fX4_18 (by assumption) (by omega) ?_
    refine x_iload_n (pc := 17) dX4_add_17 rfl ?_
    refine x_is (pc := 18) dX4_add_18 (by assumption) (by omega) rfl (by omega) ?_
    have Sa := S.upu (u' := up u c x)
    obtain ⟨S1, S2, S3, S4, S5⟩ := id Sa
    refine x_aload_n (pc := 19) dX4_add_19 rfl ?_
    refine x_gf (pc := 20) dX4_add_20 fX4_15 (by assumption) (by omega) ?_
    refine x_aload_n (pc := 23) dX4_add_23 rfl ?_
    refine x_gf (pc := 24) dX4_add_24 fX4_18 (by assumption) (by omega) ?_
    refine x_iload_n (pc := 27) dX4_add_27 rfl ?_
    refine x_is (pc := 28) dX4_add_28 (by assumption) (by omega) rfl (by omega) ?_
    have Sb := Sa.upv (v' := up v c y)
    obtain ⟨S1, S2, S3, S4, S5⟩ := id Sb
    have hob3 := Sb.ob
    refine x_aload_n (pc := 29) dX4_add_29 rfl ?_
    refine x_dupr (pc := 30) dX4_add_30 ?_
    refine x_gf (pc := 31) dX4_add_31 fX4_18 (by assumption) (by omega) ?_
    refine x_iconst (pc := 34) dX4_add_34 ?_
    refine x_iadd (pc := 35) dX4_add_35 ?_
    refine x_pfi (pc := 36) dX4_add_36 pX4_18 hob3 (by omega) (fun hp36 hf36 => ?_)
    have Sc := Sb.pfc (c' := c + 1) hf36
    refine x_vret (pc := 39) dX4_add_39 rfl (by first | exact ⟨rfl, rfl, Fr.rf, fun h => absurd h (by omega), fun _ => S⟩ | exact ⟨rfl, rfl, ((Fr.rf.up (by omega) (by omega)).up (by omega) (by omega)).pf hf36 (by omega) (by omega), fun _ => Sc, fun h => absurd h (by omega)⟩)

theorem l_same {G : GL} {d : Nat} {hp : HP} {sz : Nat} {b c : Nat} {u v : Nat → Int} (S : SpA hp b u v c) (hz : b + 2 < sz) {b' : Nat} {u' v' : Nat → Int} (S' : SpA hp b' u' v' c) (hz' : b' + 2 < sz) (hc : c ≤ 32) (hu : ∀ i, i < c → 0 ≤ u i ∧ u i < 8 ∧ 0 ≤ v i ∧ v i < 8) (hu' : ∀ i, i < c → 0 ≤ u' i ∧ u' i < 8 ∧ 0 ≤ v' i ∧ v' i < 8) {Q : Option AV → HP → Nat → Prop} : ∀ i, i ≤ c → (∀ r : Bool, (r = true ↔ ∀ j, i ≤ j → j < c → u j = u' j ∧ v j = v' j) → Q (some (vi (bz r))) hp sz) → Ex G d 0 0 mX4_areSame 15 [vr b, vr b', vi i] [] hp sz Q := by
  obtain ⟨S1, S2, S3, S4, S5⟩ := id S
  obtain ⟨S1', S2', S3', S4', S5'⟩ := id S'
  refine down (fun hq => ?_) (fun i hi ih hq => ?_)
  · refine x_iload_n (pc := 15) dX4_areSame_15 rfl ?_
    refine x_aload_n (pc := 16) dX4_areSame_16 rfl ?_
    refine x_gf (pc := 17) dX4_areSame_17 fX4_18 (by assumption) (by omega) ?_
    refine x_icmp_ge (pc := 20) (tgt := 61) dX4_areSame_20 (by decide) (by omega) (by omega) (fun c20 => ?_) (fun c20 => ?_)
    · refine x_iconst (pc := 61) dX4_areSame_61 ?_
      refine x_zret (pc := 62) dX4_areSame_62 rfl (Or.inr rfl) (hq true ⟨fun _ i h1 h2 => absurd h2 (by omega), fun _ => rfl⟩)
    · exact absurd c20 (by omega)
  · refine x_iload_n (pc := 15) dX4_areSame_15 rfl ?_
    refine x_aload_n (pc := 16) dX4_areSame_16 rfl ?_
    refine x_gf (pc := 17) dX4_areSame_17 fX4_18 (by assumption) (by omega) ?_
    refine x_icmp_ge (pc := 20) (tgt := 61) dX4_areSame_20 (by decide) (by omega) (by omega) (fun c20 => ?_) (fun c20 => ?_)
    · exact absurd c20 (by omega)
    · refine x_aload_n (pc := 23) dX4_areSame_23 rfl ?_
      refine x_gf (pc := 24) dX4_areSame_24 fX4_9 (by assumption) (by omega) ?_
      have hb1 := hu i hi
      have hb2 := hu' i hi
      refine x_iload_n (pc := 27) dX4_areSame_27 rfl ?_
      refine x_il (pc := 28) dX4_areSame_28 (by assumption) (by omega) rfl (by omega) ?_
      refine x_aload_n (pc := 29) dX4_areSame_29 rfl ?_
      refine x_gf (pc := 30) dX4_areSame_30 fX4_9 (by assumption) (by omega) ?_
      refine x_iload_n (pc := 33) dX4_areSame_33 rfl ?_
      refine x_il (pc := 34) dX4_areSame_34 (by assumption) (by omega) rfl (by omega) ?_
      refine x_icmp_ne (pc := 35) (tgt := 53) dX4_areSame_35 (by decide) (by omega) (by omega) (fun c35 => ?_) (fun c35 => ?_)
      · refine x_iconst (pc := 53) dX4_areSame_53 ?_
        refine x_zret (pc := 54) dX4_areSame_54 rfl (Or.inl rfl) (hq false ⟨fun h => absurd h (by decide), fun h => absurd (h i (by omega) hi) (fun z => by omega)⟩)
      · refine x_aload_n (pc := 38) dX4_areSame_38 rfl ?_
        refine x_gf (pc := 39) dX4_areSame_39 fX4_15 (by assumption) (by omega) ?_
        refine x_iload_n (pc := 42) dX4_areSame_42 rfl ?_
        refine x_il (pc := 43) dX4_areSame_43 (by assumption) (by omega) rfl (by omega) ?_
        refine x_aload_n (pc := 44) dX4_areSame_44 rfl ?_
        refine x_gf (pc := 45) dX4_areSame_45 fX4_15 (by assumption) (by omega) ?_
        refine x_iload_n (pc := 48) dX4_areSame_48 rfl ?_
        refine x_il (pc := 49) dX4_areSame_49 (by assumption) (by omega) rfl (by omega) ?_
        refine x_icmp_eq (pc := 50) (tgt := 55) dX4_areSame_50 (by decide) (by omega) (by omega) (fun c50 => ?_) (fun c50 => ?_)
        · refine x_iinc (pc := 55) dX4_areSame_55 rfl (by decide) rfl ?_
          show Ex _ _ _ _ _ _ [_, _, _] _ _ _ _
          refine x_goto (pc := 58) (tgt := 15) dX4_areSame_58 (by decide) ?_
          exact ih (fun r hr => hq r (by
            rw [hr]
            constructor
            · intro h j h1 h2
              by_cases e : j = i
              · subst e; exact ⟨by omega, by omega⟩
              · exact h j (by omega) h2
            · intro h j h1 h2
              exact h j (by omega) h2))
        · refine x_iconst (pc := 53) dX4_areSame_53 ?_
          refine x_zret (pc := 54) dX4_areSame_54 rfl (Or.inl rfl) (hq false ⟨fun h => absurd h (by decide), fun h => absurd (h i (by omega) hi) (fun z => by omega)⟩)

set_option maxRecDepth 4000 in
theorem t_areSame {G : GL} {d : Nat} {hp : HP} {sz : Nat} {b c : Nat} {u v : Nat → Int} (S : SpA hp b u v c) (hz : b + 2 < sz) {b' c' : Nat} {u' v' : Nat → Int} (S' : SpA hp b' u' v' c') (hz' : b' + 2 < sz) (hc : c ≤ 32) (hcr : -2147483648 ≤ (c' : Int) ∧ (c' : Int) < 2147483648) (hu : ∀ i, i < c → 0 ≤ u i ∧ u i < 8 ∧ 0 ≤ v i ∧ v i < 8) (hu' : ∀ i, i < c' → 0 ≤ u' i ∧ u' i < 8 ∧ 0 ≤ v' i ∧ v' i < 8) : Ct G d 0 0 mX4_areSame [vr b, vr b'] hp sz (Vs (fun r h => h = hp ∧ ∃ x : Bool, r = vi (bz x) ∧ (x = true ↔ c = c' ∧ ∀ j, j < c → u j = u' j ∧ v j = v' j)) sz) := by
  show Ex _ _ _ _ _ _ [vr b, vr b', vu] _ _ _ _
  have hob := S.ob
  obtain ⟨S1, S2, S3, S4, S5⟩ := id S
  obtain ⟨S1', S2', S3', S4', S5'⟩ := id S'
  have hc9 : c' < 1000 ∨ 1000 ≤ c' := by omega
  refine x_aload_n (pc := 0) dX4_areSame_0 rfl ?_
  refine x_gf (pc := 1) dX4_areSame_1 fX4_18 (by assumption) (by omega) ?_
  refine x_aload_n (pc := 4) dX4_areSame_4 rfl ?_
  refine x_gf (pc := 5) dX4_areSame_5 fX4_18 (by assumption) (by omega) ?_
  refine x_icmp_eq (pc := 8) (tgt := 13) dX4_areSame_8 (by decide) (by omega) hcr (fun c8 => ?_) (fun c8 => ?_)
  · have ec : c' = c := by omega
    subst ec
    refine x_iconst (pc := 13) dX4_areSame_13 ?_
    refine x_istore_n (pc := 14) dX4_areSame_14 (by decide) rfl ?_
    show Ex _ _ _ _ _ _ [_, _, _] _ _ _ _
    exact l_same S hz S' hz' hc hu hu' 0 (by omega) (fun r hr => ⟨_, rfl, rfl, rfl, r, rfl, by rw [hr]; exact ⟨fun h => ⟨rfl, fun j hj => h j (by omega) hj⟩, fun h j _ hj => h.2 j hj⟩⟩)
  · refine x_iconst (pc := 11) dX4_areSame_11 ?_
    refine x_zret (pc := 12) dX4_areSame_12 rfl (Or.inl rfl) ⟨_, rfl, rfl, rfl, false, rfl, by simp; omega⟩

/-- Parting's covers: at b the outer array, ten rows behind it -/
def CovA (hp : HP) (b : Nat) (K : Nat → Nat → Int) : Prop := (∃ g, hp b = rr 5 10 g ∧ ∀ i, i < 10 → g i = some (b + 1 + i)) ∧ ∀ i, i < 10 → hp (b + 1 + i) = ar 0 10 (K i)
theorem CovA.keep {hp hp' : HP} {b : Nat} {K : Nat → Nat → Int} (h : CovA hp b K) (e : ∀ x, b ≤ x → x ≤ b + 10 → hp' x = hp x) : CovA hp' b K := by
  obtain ⟨⟨g, h1, h2⟩, h3⟩ := h
  exact ⟨⟨g, (e _ (by omega) (by omega)).trans h1, h2⟩, fun i hi => (e _ (by omega) (by omega)).trans (h3 i hi)⟩

set_option maxRecDepth 4000 in
theorem t_tbc {G : GL} {d : Nat} {hp : HP} {sz : Nat} {b : Nat} {K : Nat → Nat → Int} (F : fld hp b 2 2 (vr (b + 1))) (K1 : CovA hp (b + 1) K) (hz : b + 11 < sz) {i j : Nat} (hi : i < 8) (hj : j < 8) : Ct G d 0 0 mX2_timesByCovers [vr b, vi i, vi j] hp sz (Rd (some (vi (K (i + 1) (j + 1) - K i (j + 1) - K (i + 1) (j + 2) + K i (j + 2)))) hp sz) := by
  show Ex _ _ _ _ _ _ [vr b, vi i, vi j] _ _ _ _
  obtain ⟨⟨g, g1, g2⟩, g3⟩ := K1
  have e0 := g2 i (by omega)
  have e1 := g2 (i + 1) (by omega)
  have f0 := g3 i (by omega)
  have f1 := g3 (i + 1) (by omega)
  refine x_aload_n (pc := 0) dX2_timesByCovers_0 rfl ?_
  refine x_gf (pc := 1) dX2_timesByCovers_1 fX2_11 (by assumption) (by omega) ?_
  refine x_iload_n (pc := 4) dX2_timesByCovers_4 rfl ?_
  refine x_iconst (pc := 5) dX2_timesByCovers_5 ?_
  refine x_iadd (pc := 6) dX2_timesByCovers_6 ?_
  refine x_al (pc := 7) (j := i + 1) dX2_timesByCovers_7 (by assumption) (by omega) (by omega) (by omega) (by assumption) ?_
  refine x_iload_n (pc := 8) dX2_timesByCovers_8 rfl ?_
  refine x_iconst (pc := 9) dX2_timesByCovers_9 ?_
  refine x_iadd (pc := 10) dX2_timesByCovers_10 ?_
  refine x_il (pc := 11) (j := j + 1) dX2_timesByCovers_11 (by assumption) (by omega) (by omega) (by omega) ?_
  refine x_aload_n (pc := 12) dX2_timesByCovers_12 rfl ?_
  refine x_gf (pc := 13) dX2_timesByCovers_13 fX2_11 (by assumption) (by omega) ?_
  refine x_iload_n (pc := 16) dX2_timesByCovers_16 rfl ?_
  refine x_al (pc := 17) dX2_timesByCovers_17 (by assumption) (by omega) rfl (by omega) (by assumption) ?_
  refine x_iload_n (pc := 18) dX2_timesByCovers_18 rfl ?_
  refine x_iconst (pc := 19) dX2_timesByCovers_19 ?_
  refine x_iadd (pc := 20) dX2_timesByCovers_20 ?_
  refine x_il (pc := 21) (j := j + 1) dX2_timesByCovers_21 (by assumption) (by omega) (by omega) (by omega) ?_
  refine x_isub (pc := 22) dX2_timesByCovers_22 ?_
  refine x_aload_n (pc := 23) dX2_timesByCovers_23 rfl ?_
  refine x_gf (pc := 24) dX2_timesByCovers_24 fX2_11 (by assumption) (by omega) ?_
  refine x_iload_n (pc := 27) dX2_timesByCovers_27 rfl ?_
  refine x_iconst (pc := 28) dX2_timesByCovers_28 ?_
  refine x_iadd (pc := 29) dX2_timesByCovers_29 ?_
  refine x_al (pc := 30) (j := i + 1) dX2_timesByCovers_30 (by assumption) (by omega) (by omega) (by omega) (by assumption) ?_
  refine x_iload_n (pc := 31) dX2_timesByCovers_31 rfl ?_
  refine x_iconst (pc := 32) dX2_timesByCovers_32 ?_
  refine x_iadd (pc := 33) dX2_timesByCovers_33 ?_
  refine x_il (pc := 34) (j := j + 2) dX2_timesByCovers_34 (by assumption) (by omega) (by omega) (by omega) ?_
  refine x_isub (pc := 35) dX2_timesByCovers_35 ?_
  refine x_aload_n (pc := 36) dX2_timesByCovers_36 rfl ?_
  refine x_gf (pc := 37) dX2_timesByCovers_37 fX2_11 (by assumption) (by omega) ?_
  refine x_iload_n (pc := 40) dX2_timesByCovers_40 rfl ?_
  refine x_al (pc := 41) dX2_timesByCovers_41 (by assumption) (by omega) rfl (by omega) (by assumption) ?_
  refine x_iload_n (pc := 42) dX2_timesByCovers_42 rfl ?_
  refine x_iconst (pc := 43) dX2_timesByCovers_43 ?_
  refine x_iadd (pc := 44) dX2_timesByCovers_44 ?_
  refine x_il (pc := 45) (j := j + 2) dX2_timesByCovers_45 (by assumption) (by omega) (by omega) (by omega) ?_
  refine x_iadd (pc := 46) dX2_timesByCovers_46 ?_
  refine x_iret (pc := 47) dX2_timesByCovers_47 rfl ⟨rfl, rfl, rfl⟩
