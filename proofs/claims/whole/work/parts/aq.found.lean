/-! the model's found rows -/
def FnX (h : HP) (F : Nat → Nat → Int) : Prop := (∃ f, h 414 = rr 7 200 f ∧ ∀ k, k < 200 → f k = some (415 + k)) ∧ (∀ k, k < 200 → h (415 + k) = ar 2 9 (F k)) ∧ ∀ k, k < 200 → ∀ j, j < 9 → -128 ≤ F k j ∧ F k j < 128
theorem FnX.put {h : HP} {F : Nat → Nat → Int} (q : FnX h F) {k j : Nat} (hk : k < 200) {v : Int} (hv : -128 ≤ v ∧ v < 128) : FnX (up h (415 + k) (ar 2 9 (up (F k) j v))) (up F k (up (F k) j v)) := by
  obtain ⟨⟨f, q1, q2⟩, q3, q4⟩ := q
  refine ⟨⟨f, (up_n _ _ (by omega)).trans q1, q2⟩, fun a ha => ?_, fun a ha b hb => ?_⟩
  · by_cases e : a = k
    · subst e; rw [up_s, up_s]
    · rw [up_n _ _ e, up_n _ _ (by omega)]; exact q3 a ha
  · by_cases e : a = k
    · subst e
      rw [up_s]
      by_cases e2 : b = j
      · subst e2; rw [up_s]; exact hv
      · rw [up_n _ _ e2]; exact q4 a ha b hb
    · rw [up_n _ _ e]; exact q4 a ha b hb
theorem FnX.keep {h h' : HP} {F : Nat → Nat → Int} (q : FnX h F) (e : ∀ x, 414 ≤ x → x ≤ 614 → h' x = h x) : FnX h' F := by
  obtain ⟨⟨f, q1, q2⟩, q3, q4⟩ := q
  exact ⟨⟨f, (e _ (by omega) (by omega)).trans q1, q2⟩, fun a ha => (e _ (by omega) (by omega)).trans (q3 a ha), q4⟩
def vqT (P : Nat → Nat) (x : Nat → Int) : Nat → Int := fun i => x i * x i - (if 0 < i then x i * x (P i) else 0)
theorem vq_t {P : Nat → Nat} {x : Nat → Int} {i : Nat} (h : 0 < i) : su i (vqT P x) + x i * x i - x i * x (P i) = su (i + 1) (vqT P x) := by
  rw [su_s]; show _ = _ + (x i * x i - (if 0 < i then x i * x (P i) else 0)); rw [if_pos h]; omega
theorem vq_f {P : Nat → Nat} {x : Nat → Int} {i : Nat} (h : ¬ 0 < i) : su i (vqT P x) + x i * x i = su (i + 1) (vqT P x) := by
  rw [su_s]; show _ = _ + (x i * x i - (if 0 < i then x i * x (P i) else 0)); rw [if_neg h]; omega

theorem k_value {G : GL} {d sz : Nat} {hp : HP} {p N : Nat} (C : ModA hp p N) (hz : 615 ≤ sz) {pa : Nat → Int} {P : Nat → Nat} {n : Nat} (hn : 1 ≤ n ∧ n ≤ 9) (hpn : ∀ j, 1 ≤ j → j < n → pa j = (P j : Int) ∧ P j < j) (ua : hp 413 = ar 0 9 pa) {a : Nat} (ha : a < sz) {x : Nat → Int} (hx : hp a = ar 2 9 x) : ∀ i, i ≤ n → Ex G d 0 0 mX7_value 5 [vr 92, vi n, vr a, vi (su i (vqT P x)), vi i] [] hp sz (Rd (some (vi (VQ P n x))) hp sz) := by
  refine down ?_ (fun i hi ih => ?_)
  · obtain ⟨C0, C1, C2, C3, C4, C5, C6, C7, C8, C11, C12, C13, C14, C15, C16, C17, C18, C19, C20, C21, C22, C23⟩ := id C
    have hob := C0.ob
    refine x_iload (pc := 5) dX7_value_5 rfl ?_
    refine x_iload_n (pc := 7) dX7_value_7 rfl ?_
    refine x_icmp_ge (pc := 8) (tgt := 51) dX7_value_8 (by decide) (by omega) (by omega) (fun c8 => ?_) (fun c8 => ?_)
    · refine x_iload_n (pc := 51) dX7_value_51 rfl ?_
      refine x_iret (pc := 52) dX7_value_52 rfl ⟨rfl, rfl, rfl⟩
    · exact absurd c8 (by omega)
  · obtain ⟨C0, C1, C2, C3, C4, C5, C6, C7, C8, C11, C12, C13, C14, C15, C16, C17, C18, C19, C20, C21, C22, C23⟩ := id C
    have hob := C0.ob
    refine x_iload (pc := 5) dX7_value_5 rfl ?_
    refine x_iload_n (pc := 7) dX7_value_7 rfl ?_
    refine x_icmp_ge (pc := 8) (tgt := 51) dX7_value_8 (by decide) (by omega) (by omega) (fun c8 => ?_) (fun c8 => ?_)
    · exact absurd c8 (by omega)
    · refine x_iload_n (pc := 11) dX7_value_11 rfl ?_
      refine x_aload_n (pc := 12) dX7_value_12 rfl ?_
      refine x_iload (pc := 13) dX7_value_13 rfl ?_
      refine x_bl (pc := 15) dX7_value_15 (by assumption) (by omega) rfl (by omega) ?_
      refine x_aload_n (pc := 16) dX7_value_16 rfl ?_
      refine x_iload (pc := 17) dX7_value_17 rfl ?_
      refine x_bl (pc := 19) dX7_value_19 (by assumption) (by omega) rfl (by omega) ?_
      refine x_imul (pc := 20) dX7_value_20 ?_
      refine x_iadd (pc := 21) dX7_value_21 ?_
      refine x_istore_n (pc := 22) dX7_value_22 (by decide) rfl ?_
      show Ex _ _ _ _ _ _ [_, _, _, _, _] _ _ _ _
      refine x_iload (pc := 23) dX7_value_23 rfl ?_
      refine x_if_le (pc := 25) (tgt := 45) dX7_value_25 (by decide) (by omega) (fun c25 => ?_) (fun c25 => ?_)
      · refine x_iinc (pc := 45) dX7_value_45 rfl (by decide) rfl ?_
        show Ex _ _ _ _ _ _ [_, _, _, _, _] _ _ _ _
        refine x_goto (pc := 48) (tgt := 5) dX7_value_48 (by decide) ?_
        first
          | (rw [vq_t (show 0 < i by omega)]
             exact ih)
          | (rw [vq_f (show ¬ 0 < i by omega)]
             exact ih)
      · refine x_iload_n (pc := 28) dX7_value_28 rfl ?_
        refine x_aload_n (pc := 29) dX7_value_29 rfl ?_
        refine x_iload (pc := 30) dX7_value_30 rfl ?_
        refine x_bl (pc := 32) dX7_value_32 (by assumption) (by omega) rfl (by omega) ?_
        refine x_aload_n (pc := 33) dX7_value_33 rfl ?_
        refine x_aload_n (pc := 34) dX7_value_34 rfl ?_
        refine x_gf (pc := 35) dX7_value_35 fX7_69 (by assumption) (by omega) ?_
        refine x_iload (pc := 38) dX7_value_38 rfl ?_
        refine x_il (pc := 40) dX7_value_40 (by assumption) (by omega) rfl (by omega) ?_
        have hp1 := hpn i (by omega) hi
        rw [hp1.1]
        refine x_bl (pc := 41) dX7_value_41 (by assumption) (by omega) rfl (by omega) ?_
        refine x_imul (pc := 42) dX7_value_42 ?_
        refine x_isub (pc := 43) dX7_value_43 ?_
        refine x_istore_n (pc := 44) dX7_value_44 (by decide) rfl ?_
        show Ex _ _ _ _ _ _ [_, _, _, _, _] _ _ _ _
        refine x_iinc (pc := 45) dX7_value_45 rfl (by decide) rfl ?_
        show Ex _ _ _ _ _ _ [_, _, _, _, _] _ _ _ _
        refine x_goto (pc := 48) (tgt := 5) dX7_value_48 (by decide) ?_
        first
          | (rw [vq_t (show 0 < i by omega)]
             exact ih)
          | (rw [vq_f (show ¬ 0 < i by omega)]
             exact ih)

set_option maxRecDepth 4000 in
theorem m_value {G : GL} {d : Nat} {hp : HP} {sz : Nat} {p N : Nat} (C : ModA hp p N) (hz : 615 ≤ sz) {pa : Nat → Int} {P : Nat → Nat} {n : Nat} (hn : 1 ≤ n ∧ n ≤ 9) (hpn : ∀ j, 1 ≤ j → j < n → pa j = (P j : Int) ∧ P j < j) (ua : hp 413 = ar 0 9 pa) {a : Nat} (ha : a < sz) {x : Nat → Int} (hx : hp a = ar 2 9 x) : Ct G d 0 0 mX7_value [vr 92, vi n, vr a] hp sz (Rd (some (vi (VQ P n x))) hp sz) := by
  show Ex _ _ _ _ _ _ [vr 92, vi n, vr a, vu, vu] _ _ _ _
  refine x_iconst (pc := 0) dX7_value_0 ?_
  refine x_istore_n (pc := 1) dX7_value_1 (by decide) rfl ?_
  show Ex _ _ _ _ _ _ [_, _, _, _, _] _ _ _ _
  refine x_iconst (pc := 2) dX7_value_2 ?_
  refine x_istore (pc := 3) dX7_value_3 (by decide) rfl ?_
  show Ex _ _ _ _ _ _ [_, _, _, _, _] _ _ _ _
  exact k_value C hz hn hpn ua ha hx 0 (by omega)

theorem k_foundI {G : GL} {d sz p N : Nat} {hp : HP} (C : ModA hp p N) (hz : 615 ≤ sz) {n : Nat} (hn : 1 ≤ n ∧ n ≤ 9) {F : Nat → Nat → Int} (fx : FnX hp F) {k : Nat} (hk : k < 200) {m : Nat} (hm : m ≤ 200) {k2 : Nat} (hk2 : k2 < 200) {Q : Option AV → HP → Nat → Prop} (hq : ∀ (b : Bool) l6, (b = true ↔ ∀ j, j < n → F k2 j = F k j) → Ex G d 0 0 mX7_isFound 56 [vr 92, vi n, vi m, vr (415 + k), vi k2, vi (bz b), l6] [] hp sz Q) : ∀ i, i ≤ n → ∀ b : Bool, (b = true ↔ ∀ j, j < i → F k2 j = F k j) → Ex G d 0 0 mX7_isFound 15 [vr 92, vi n, vi m, vr (415 + k), vi k2, vi (bz b), vi i] [] hp sz Q := by
  refine down (fun b hb => ?_) (fun i hi ih b hb => ?_)
  · obtain ⟨C0, C1, C2, C3, C4, C5, C6, C7, C8, C11, C12, C13, C14, C15, C16, C17, C18, C19, C20, C21, C22, C23⟩ := id C
    have hob := C0.ob
    refine x_iload (pc := 15) dX7_isFound_15 rfl ?_
    refine x_iload_n (pc := 17) dX7_isFound_17 rfl ?_
    refine x_icmp_ge (pc := 18) (tgt := 56) dX7_isFound_18 (by decide) (by omega) (by omega) (fun c18 => ?_) (fun c18 => ?_)
    · exact hq b _ (Iff.trans hb ⟨fun q j hj => q j hj, fun q j hj => q j hj⟩)
    · exact absurd c18 (by omega)
  · obtain ⟨C0, C1, C2, C3, C4, C5, C6, C7, C8, C11, C12, C13, C14, C15, C16, C17, C18, C19, C20, C21, C22, C23⟩ := id C
    have hob := C0.ob
    obtain ⟨⟨f, q1, q2⟩, q3, q4⟩ := id fx
    refine x_iload (pc := 15) dX7_isFound_15 rfl ?_
    refine x_iload_n (pc := 17) dX7_isFound_17 rfl ?_
    refine x_icmp_ge (pc := 18) (tgt := 56) dX7_isFound_18 (by decide) (by omega) (by omega) (fun c18 => ?_) (fun c18 => ?_)
    · exact absurd c18 (by omega)
    · refine x_iload (pc := 21) dX7_isFound_21 rfl ?_
      refine x_if_eq (pc := 23) (tgt := 56) dX7_isFound_23 (by decide) (bz_rg _) (fun c23 => ?_) (fun c23 => ?_)
      · have b0 : b = false := by cases b with | false => rfl | true => exact absurd c23 (by decide)
        exact hq b _ (by
          rw [b0]
          refine ⟨fun q => Bool.noConfusion q, fun q => ?_⟩
          have := hb.2 (fun j hj => q j (by omega))
          rw [b0] at this
          cases this)
      · have b0 : b = true := by cases b with | true => rfl | false => exact absurd rfl c23
        refine x_aload_n (pc := 26) dX7_isFound_26 rfl ?_
        refine x_gf (pc := 27) dX7_isFound_27 fX7_74 (by assumption) (by omega) ?_
        refine x_iload (pc := 30) dX7_isFound_30 rfl ?_
        refine x_al (pc := 32) dX7_isFound_32 (by assumption) (by omega) rfl (by omega) (q2 k2 (by omega)) ?_
        refine x_iload (pc := 33) dX7_isFound_33 rfl ?_
        refine x_bl (pc := 35) dX7_isFound_35 (q3 k2 (by omega)) (by omega) rfl (by omega) ?_
        refine x_aload_n (pc := 36) dX7_isFound_36 rfl ?_
        refine x_iload (pc := 37) dX7_isFound_37 rfl ?_
        refine x_bl (pc := 39) dX7_isFound_39 (q3 k (by omega)) (by omega) rfl (by omega) ?_
        refine x_icmp_ne (pc := 40) (tgt := 47) dX7_isFound_40 (by decide) (by have := q4 k2 (by omega) i (by omega); omega) (by have := q4 k (by omega) i (by omega); omega) (fun c40 => ?_) (fun c40 => ?_)
        · refine x_iconst (pc := 47) dX7_isFound_47 ?_
          refine x_istore (pc := 48) dX7_isFound_48 (by decide) rfl ?_
          show Ex _ _ _ _ _ _ [_, _, _, _, _, _, _] _ _ _ _
          refine x_iinc (pc := 50) dX7_isFound_50 rfl (by decide) rfl ?_
          show Ex _ _ _ _ _ _ [_, _, _, _, _, _, _] _ _ _ _
          refine x_goto (pc := 53) (tgt := 15) dX7_isFound_53 (by decide) ?_
          first
            | exact ih true ⟨fun _ j hj => by
                by_cases e : j = i
                · subst e; exact c40
                · exact hb.1 b0 j (by omega), fun _ => rfl⟩
            | exact ih false ⟨fun q => Bool.noConfusion q, fun q => absurd (q i (by omega)) c40⟩
        · refine x_iconst (pc := 43) dX7_isFound_43 ?_
          refine x_goto (pc := 44) (tgt := 48) dX7_isFound_44 (by decide) ?_
          refine x_istore (pc := 48) dX7_isFound_48 (by decide) rfl ?_
          show Ex _ _ _ _ _ _ [_, _, _, _, _, _, _] _ _ _ _
          refine x_iinc (pc := 50) dX7_isFound_50 rfl (by decide) rfl ?_
          show Ex _ _ _ _ _ _ [_, _, _, _, _, _, _] _ _ _ _
          refine x_goto (pc := 53) (tgt := 15) dX7_isFound_53 (by decide) ?_
          first
            | exact ih true ⟨fun _ j hj => by
                by_cases e : j = i
                · subst e; exact c40
                · exact hb.1 b0 j (by omega), fun _ => rfl⟩
            | exact ih false ⟨fun q => Bool.noConfusion q, fun q => absurd (q i (by omega)) c40⟩

theorem k_found {G : GL} {d sz p N : Nat} {hp : HP} (C : ModA hp p N) (hz : 615 ≤ sz) {n : Nat} (hn : 1 ≤ n ∧ n ≤ 9) {F : Nat → Nat → Int} (fx : FnX hp F) {k : Nat} (hk : k < 200) {m : Nat} (hm : m ≤ 200) (hm2 : m ≤ 200) : ∀ k2, k2 ≤ m → 0 ≤ k2 → (∀ c, 0 ≤ c → c < k2 → ¬ ∀ j, j < n → F c j = F k j) → ∀ l5 l6, Ex G d 0 0 mX7_isFound 3 [vr 92, vi n, vi m, vr (415 + k), vi k2, l5, l6] [] hp sz (Vs (fun v h => h = hp ∧ ∃ r : Bool, v = vi (bz r) ∧ (r = true ↔ ∃ b, ( b < m) ∧ ∀ j, j < n → F b j = F k j)) sz) := by
  refine down (fun hs hno l5 l6 => ?_) (fun k2 hk2 ih hs hno l5 l6 => ?_)
  · obtain ⟨C0, C1, C2, C3, C4, C5, C6, C7, C8, C11, C12, C13, C14, C15, C16, C17, C18, C19, C20, C21, C22, C23⟩ := id C
    have hob := C0.ob
    refine x_iload (pc := 3) dX7_isFound_3 rfl ?_
    refine x_iload_n (pc := 5) dX7_isFound_5 rfl ?_
    refine x_icmp_ge (pc := 6) (tgt := 69) dX7_isFound_6 (by decide) (by omega) (by omega) (fun c6 => ?_) (fun c6 => ?_)
    · refine x_iconst (pc := 69) dX7_isFound_69 ?_
      refine x_zret (pc := 70) dX7_isFound_70 rfl (Or.inl rfl) ⟨_, rfl, rfl, rfl, false, rfl, fun q => Bool.noConfusion q, fun q => by
        obtain ⟨b, h1, h2⟩ := q
        exact absurd h2 (hno b (by omega) (by omega))⟩
    · exact absurd c6 (by omega)
  · obtain ⟨C0, C1, C2, C3, C4, C5, C6, C7, C8, C11, C12, C13, C14, C15, C16, C17, C18, C19, C20, C21, C22, C23⟩ := id C
    have hob := C0.ob
    refine x_iload (pc := 3) dX7_isFound_3 rfl ?_
    refine x_iload_n (pc := 5) dX7_isFound_5 rfl ?_
    refine x_icmp_ge (pc := 6) (tgt := 69) dX7_isFound_6 (by decide) (by omega) (by omega) (fun c6 => ?_) (fun c6 => ?_)
    · exact absurd c6 (by omega)
    · refine x_iconst (pc := 9) dX7_isFound_9 ?_
      refine x_istore (pc := 10) dX7_isFound_10 (by decide) rfl ?_
      show Ex _ _ _ _ _ _ [_, _, _, _, _, _, _] _ _ _ _
      refine x_iconst (pc := 12) dX7_isFound_12 ?_
      refine x_istore (pc := 13) dX7_isFound_13 (by decide) rfl ?_
      show Ex _ _ _ _ _ _ [_, _, _, _, _, _, _] _ _ _ _
      refine k_foundI C hz hn fx hk hm (k2 := k2) (by omega) (fun b l6 hb => ?_) 0 (by omega) true ⟨fun _ j hj => absurd hj (Nat.not_lt_zero _), fun _ => rfl⟩
      refine x_iload (pc := 56) dX7_isFound_56 rfl ?_
      refine x_if_eq (pc := 58) (tgt := 63) dX7_isFound_58 (by decide) (bz_rg _) (fun c58 => ?_) (fun c58 => ?_)
      · have b0 : b = false := by cases b with | false => rfl | true => exact absurd c58 (by decide)
        refine x_iinc (pc := 63) dX7_isFound_63 rfl (by decide) rfl ?_
        show Ex _ _ _ _ _ _ [_, _, _, _, _, _, _] _ _ _ _
        refine x_goto (pc := 66) (tgt := 3) dX7_isFound_66 (by decide) ?_
        exact ih (by omega) (fun c h1 h2 => by
          by_cases e : c = k2
          · subst e
            intro q
            have := hb.2 q
            rw [b0] at this
            cases this
          · exact hno c h1 (by omega)) _ _
      · have b0 : b = true := by cases b with | true => rfl | false => exact absurd rfl c58
        refine x_iconst (pc := 61) dX7_isFound_61 ?_
        refine x_zret (pc := 62) dX7_isFound_62 rfl (Or.inr rfl) ⟨_, rfl, rfl, rfl, true, rfl, fun _ => ⟨k2, by omega, hb.1 b0⟩, fun _ => rfl⟩

set_option maxRecDepth 4000 in
theorem m_isFound {G : GL} {d : Nat} {hp : HP} {sz : Nat} {p N : Nat} (C : ModA hp p N) (hz : 615 ≤ sz) {n : Nat} (hn : 1 ≤ n ∧ n ≤ 9) {F : Nat → Nat → Int} (fx : FnX hp F) {k : Nat} (hk : k < 200) {m : Nat} (hm : m ≤ 200) : Ct G d 0 0 mX7_isFound [vr 92, vi n, vi m, vr (415 + k)] hp sz (Vs (fun v h => h = hp ∧ ∃ r : Bool, v = vi (bz r) ∧ (r = true ↔ ∃ b, ( b < m) ∧ ∀ j, j < n → F b j = F k j)) sz) := by
  show Ex _ _ _ _ _ _ [vr 92, vi n, vi m, vr (415 + k), vu, vu, vu] _ _ _ _
  refine x_iconst (pc := 0) dX7_isFound_0 ?_
  refine x_istore (pc := 1) dX7_isFound_1 (by decide) rfl ?_
  show Ex _ _ _ _ _ _ [_, _, _, _, _, _, _] _ _ _ _
  exact k_found C hz hn fx hk hm hm 0 (by omega) (Nat.le_refl _) (fun c _ h => absurd h (Nat.not_lt_zero _)) _ _

theorem k_behindI {G : GL} {d sz p N : Nat} {hp : HP} (C : ModA hp p N) (hz : 615 ≤ sz) {n : Nat} (hn : 1 ≤ n ∧ n ≤ 9) {F : Nat → Nat → Int} (fx : FnX hp F) {k : Nat} (hk : k < 200) {m : Nat} (hm : m ≤ 200) {k2 : Nat} (hk2 : k2 < 200) {Q : Option AV → HP → Nat → Prop} (hq : ∀ (b : Bool) l6, (b = true ↔ ∀ j, j < n → F k2 j = F k j) → Ex G d 0 0 mX7_isBehind 63 [vr 92, vi n, vi k, vi m, vi k2, vi (bz b), l6] [] hp sz Q) : ∀ i, i ≤ n → ∀ b : Bool, (b = true ↔ ∀ j, j < i → F k2 j = F k j) → Ex G d 0 0 mX7_isBehind 17 [vr 92, vi n, vi k, vi m, vi k2, vi (bz b), vi i] [] hp sz Q := by
  refine down (fun b hb => ?_) (fun i hi ih b hb => ?_)
  · obtain ⟨C0, C1, C2, C3, C4, C5, C6, C7, C8, C11, C12, C13, C14, C15, C16, C17, C18, C19, C20, C21, C22, C23⟩ := id C
    have hob := C0.ob
    refine x_iload (pc := 17) dX7_isBehind_17 rfl ?_
    refine x_iload_n (pc := 19) dX7_isBehind_19 rfl ?_
    refine x_icmp_ge (pc := 20) (tgt := 63) dX7_isBehind_20 (by decide) (by omega) (by omega) (fun c20 => ?_) (fun c20 => ?_)
    · exact hq b _ (Iff.trans hb ⟨fun q j hj => q j hj, fun q j hj => q j hj⟩)
    · exact absurd c20 (by omega)
  · obtain ⟨C0, C1, C2, C3, C4, C5, C6, C7, C8, C11, C12, C13, C14, C15, C16, C17, C18, C19, C20, C21, C22, C23⟩ := id C
    have hob := C0.ob
    obtain ⟨⟨f, q1, q2⟩, q3, q4⟩ := id fx
    refine x_iload (pc := 17) dX7_isBehind_17 rfl ?_
    refine x_iload_n (pc := 19) dX7_isBehind_19 rfl ?_
    refine x_icmp_ge (pc := 20) (tgt := 63) dX7_isBehind_20 (by decide) (by omega) (by omega) (fun c20 => ?_) (fun c20 => ?_)
    · exact absurd c20 (by omega)
    · refine x_iload (pc := 23) dX7_isBehind_23 rfl ?_
      refine x_if_eq (pc := 25) (tgt := 63) dX7_isBehind_25 (by decide) (bz_rg _) (fun c25 => ?_) (fun c25 => ?_)
      · have b0 : b = false := by cases b with | false => rfl | true => exact absurd c25 (by decide)
        exact hq b _ (by
          rw [b0]
          refine ⟨fun q => Bool.noConfusion q, fun q => ?_⟩
          have := hb.2 (fun j hj => q j (by omega))
          rw [b0] at this
          cases this)
      · have b0 : b = true := by cases b with | true => rfl | false => exact absurd rfl c25
        refine x_aload_n (pc := 28) dX7_isBehind_28 rfl ?_
        refine x_gf (pc := 29) dX7_isBehind_29 fX7_74 (by assumption) (by omega) ?_
        refine x_iload (pc := 32) dX7_isBehind_32 rfl ?_
        refine x_al (pc := 34) dX7_isBehind_34 (by assumption) (by omega) rfl (by omega) (q2 k2 (by omega)) ?_
        refine x_iload (pc := 35) dX7_isBehind_35 rfl ?_
        refine x_bl (pc := 37) dX7_isBehind_37 (q3 k2 (by omega)) (by omega) rfl (by omega) ?_
        refine x_aload_n (pc := 38) dX7_isBehind_38 rfl ?_
        refine x_gf (pc := 39) dX7_isBehind_39 fX7_74 (by assumption) (by omega) ?_
        refine x_iload_n (pc := 42) dX7_isBehind_42 rfl ?_
        refine x_al (pc := 43) dX7_isBehind_43 (by assumption) (by omega) rfl (by omega) (q2 k (by omega)) ?_
        refine x_iload (pc := 44) dX7_isBehind_44 rfl ?_
        refine x_bl (pc := 46) dX7_isBehind_46 (q3 k (by omega)) (by omega) rfl (by omega) ?_
        refine x_icmp_ne (pc := 47) (tgt := 54) dX7_isBehind_47 (by decide) (by have := q4 k2 (by omega) i (by omega); omega) (by have := q4 k (by omega) i (by omega); omega) (fun c47 => ?_) (fun c47 => ?_)
        · refine x_iconst (pc := 54) dX7_isBehind_54 ?_
          refine x_istore (pc := 55) dX7_isBehind_55 (by decide) rfl ?_
          show Ex _ _ _ _ _ _ [_, _, _, _, _, _, _] _ _ _ _
          refine x_iinc (pc := 57) dX7_isBehind_57 rfl (by decide) rfl ?_
          show Ex _ _ _ _ _ _ [_, _, _, _, _, _, _] _ _ _ _
          refine x_goto (pc := 60) (tgt := 17) dX7_isBehind_60 (by decide) ?_
          first
            | exact ih true ⟨fun _ j hj => by
                by_cases e : j = i
                · subst e; exact c47
                · exact hb.1 b0 j (by omega), fun _ => rfl⟩
            | exact ih false ⟨fun q => Bool.noConfusion q, fun q => absurd (q i (by omega)) c47⟩
        · refine x_iconst (pc := 50) dX7_isBehind_50 ?_
          refine x_goto (pc := 51) (tgt := 55) dX7_isBehind_51 (by decide) ?_
          refine x_istore (pc := 55) dX7_isBehind_55 (by decide) rfl ?_
          show Ex _ _ _ _ _ _ [_, _, _, _, _, _, _] _ _ _ _
          refine x_iinc (pc := 57) dX7_isBehind_57 rfl (by decide) rfl ?_
          show Ex _ _ _ _ _ _ [_, _, _, _, _, _, _] _ _ _ _
          refine x_goto (pc := 60) (tgt := 17) dX7_isBehind_60 (by decide) ?_
          first
            | exact ih true ⟨fun _ j hj => by
                by_cases e : j = i
                · subst e; exact c47
                · exact hb.1 b0 j (by omega), fun _ => rfl⟩
            | exact ih false ⟨fun q => Bool.noConfusion q, fun q => absurd (q i (by omega)) c47⟩

theorem k_behind {G : GL} {d sz p N : Nat} {hp : HP} (C : ModA hp p N) (hz : 615 ≤ sz) {n : Nat} (hn : 1 ≤ n ∧ n ≤ 9) {F : Nat → Nat → Int} (fx : FnX hp F) {k : Nat} (hk : k < 200) {m : Nat} (hm : m ≤ 200) (hm2 : m ≤ 200) : ∀ k2, k2 ≤ m → k + 1 ≤ k2 → (∀ c, k + 1 ≤ c → c < k2 → ¬ ∀ j, j < n → F c j = F k j) → ∀ l5 l6, Ex G d 0 0 mX7_isBehind 5 [vr 92, vi n, vi k, vi m, vi k2, l5, l6] [] hp sz (Vs (fun v h => h = hp ∧ ∃ r : Bool, v = vi (bz r) ∧ (r = true ↔ ∃ b, (k < b ∧ b < m) ∧ ∀ j, j < n → F b j = F k j)) sz) := by
  refine down (fun hs hno l5 l6 => ?_) (fun k2 hk2 ih hs hno l5 l6 => ?_)
  · obtain ⟨C0, C1, C2, C3, C4, C5, C6, C7, C8, C11, C12, C13, C14, C15, C16, C17, C18, C19, C20, C21, C22, C23⟩ := id C
    have hob := C0.ob
    refine x_iload (pc := 5) dX7_isBehind_5 rfl ?_
    refine x_iload_n (pc := 7) dX7_isBehind_7 rfl ?_
    refine x_icmp_ge (pc := 8) (tgt := 76) dX7_isBehind_8 (by decide) (by omega) (by omega) (fun c8 => ?_) (fun c8 => ?_)
    · refine x_iconst (pc := 76) dX7_isBehind_76 ?_
      refine x_zret (pc := 77) dX7_isBehind_77 rfl (Or.inl rfl) ⟨_, rfl, rfl, rfl, false, rfl, fun q => Bool.noConfusion q, fun q => by
        obtain ⟨b, h1, h2⟩ := q
        exact absurd h2 (hno b (by omega) (by omega))⟩
    · exact absurd c8 (by omega)
  · obtain ⟨C0, C1, C2, C3, C4, C5, C6, C7, C8, C11, C12, C13, C14, C15, C16, C17, C18, C19, C20, C21, C22, C23⟩ := id C
    have hob := C0.ob
    refine x_iload (pc := 5) dX7_isBehind_5 rfl ?_
    refine x_iload_n (pc := 7) dX7_isBehind_7 rfl ?_
    refine x_icmp_ge (pc := 8) (tgt := 76) dX7_isBehind_8 (by decide) (by omega) (by omega) (fun c8 => ?_) (fun c8 => ?_)
    · exact absurd c8 (by omega)
    · refine x_iconst (pc := 11) dX7_isBehind_11 ?_
      refine x_istore (pc := 12) dX7_isBehind_12 (by decide) rfl ?_
      show Ex _ _ _ _ _ _ [_, _, _, _, _, _, _] _ _ _ _
      refine x_iconst (pc := 14) dX7_isBehind_14 ?_
      refine x_istore (pc := 15) dX7_isBehind_15 (by decide) rfl ?_
      show Ex _ _ _ _ _ _ [_, _, _, _, _, _, _] _ _ _ _
      refine k_behindI C hz hn fx hk hm (k2 := k2) (by omega) (fun b l6 hb => ?_) 0 (by omega) true ⟨fun _ j hj => absurd hj (Nat.not_lt_zero _), fun _ => rfl⟩
      refine x_iload (pc := 63) dX7_isBehind_63 rfl ?_
      refine x_if_eq (pc := 65) (tgt := 70) dX7_isBehind_65 (by decide) (bz_rg _) (fun c65 => ?_) (fun c65 => ?_)
      · have b0 : b = false := by cases b with | false => rfl | true => exact absurd c65 (by decide)
        refine x_iinc (pc := 70) dX7_isBehind_70 rfl (by decide) rfl ?_
        show Ex _ _ _ _ _ _ [_, _, _, _, _, _, _] _ _ _ _
        refine x_goto (pc := 73) (tgt := 5) dX7_isBehind_73 (by decide) ?_
        exact ih (by omega) (fun c h1 h2 => by
          by_cases e : c = k2
          · subst e
            intro q
            have := hb.2 q
            rw [b0] at this
            cases this
          · exact hno c h1 (by omega)) _ _
      · have b0 : b = true := by cases b with | true => rfl | false => exact absurd rfl c65
        refine x_iconst (pc := 68) dX7_isBehind_68 ?_
        refine x_zret (pc := 69) dX7_isBehind_69 rfl (Or.inr rfl) ⟨_, rfl, rfl, rfl, true, rfl, fun _ => ⟨k2, by omega, hb.1 b0⟩, fun _ => rfl⟩

set_option maxRecDepth 4000 in
theorem m_isBehind {G : GL} {d : Nat} {hp : HP} {sz : Nat} {p N : Nat} (C : ModA hp p N) (hz : 615 ≤ sz) {n : Nat} (hn : 1 ≤ n ∧ n ≤ 9) {F : Nat → Nat → Int} (fx : FnX hp F) {k : Nat} (hk : k < 200) {m : Nat} (hm : m ≤ 200) (hkm : k < m) : Ct G d 0 0 mX7_isBehind [vr 92, vi n, vi k, vi m] hp sz (Vs (fun v h => h = hp ∧ ∃ r : Bool, v = vi (bz r) ∧ (r = true ↔ ∃ b, (k < b ∧ b < m) ∧ ∀ j, j < n → F b j = F k j)) sz) := by
  show Ex _ _ _ _ _ _ [vr 92, vi n, vi k, vi m, vu, vu, vu] _ _ _ _
  refine x_iload_n (pc := 0) dX7_isBehind_0 rfl ?_
  refine x_iconst (pc := 1) dX7_isBehind_1 ?_
  refine x_iadd (pc := 2) dX7_isBehind_2 ?_
  refine x_istore (pc := 3) dX7_isBehind_3 (by decide) rfl ?_
  show Ex _ _ _ _ _ _ [_, _, _, _, _, _, _] _ _ _ _
  exact k_behind C hz hn fx hk hm hm (k + 1) (by omega) (Nat.le_refl _) (fun c h1 h2 => by omega) _ _
