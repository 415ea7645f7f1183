/-! the model's roots, the whole -/
theorem k_rout {G : GL} {d sz p N : Nat} (hz : 615 ≤ sz) {n : Nat} (hn : 1 ≤ n ∧ n ≤ 9) {Y kk : Int} {pa : Nat → Int} {P : Nat → Nat} (hpn : ∀ j, 1 ≤ j → j < n → pa j = (P j : Int) ∧ P j < j) {Qt pi ro : Nat → Nat} {Ls : List (List Nat)} (hI : IsoT n P Qt pi ro) (hv : VRL Qt n Ls) {hp0 : HP} {Q : Option AV → HP → Nat → Prop}
    (hq : ∀ h F (m : Nat), ModA h p N → h 413 = ar 0 9 pa → FnX h F → Fr hp0 h 414 614 → m = Ls.length → Q (some (vi m)) h sz) : ∀ k, k ≤ Ls.length → ∀ hp F m l6 l7, ModA hp p N → hp 413 = ar 0 9 pa → FnX hp F → Fr hp0 hp 414 614 → RIv P n pi Ls k 0 m F → k ≤ m → Ex G (d + 1) 0 0 mX7_roots 85 [vr 92, vi n, vi Y, vi kk, vi m, vi k, l6, l7] [] hp sz Q := by
  have hm9 := hv.2.2.2.2.2
  refine down (fun hp F m l6 l7 C ua fx ff RI hkm => ?_) (fun k hk ih hp F m l6 l7 C ua fx ff RI hkm => ?_)
  · obtain ⟨C0, C1, C2, C3, C4, C5, C6, C7, C8, C11, C12, C13, C14, C15, C16, C17, C18, C19, C20, C21, C22, C23⟩ := id C
    have hob := C0.ob
    have hml := RI.le hI hv
    refine x_iload (pc := 85) dX7_roots_85 rfl ?_
    refine x_iload (pc := 87) dX7_roots_87 rfl ?_
    refine x_icmp_ge (pc := 89) (tgt := 226) dX7_roots_89 (by decide) (by omega) (by omega) (fun c89 => ?_) (fun c89 => ?_)
    · refine x_iload (pc := 226) dX7_roots_226 rfl ?_
      refine x_iret (pc := 228) dX7_roots_228 rfl (hq _ _ _ C ua fx ff (RIv.last hI hv (show RIv P n pi Ls m 0 m F from (show Ls.length = m by omega) ▸ RI)))
    · exact absurd c89 (by omega)
  · obtain ⟨C0, C1, C2, C3, C4, C5, C6, C7, C8, C11, C12, C13, C14, C15, C16, C17, C18, C19, C20, C21, C22, C23⟩ := id C
    have hob := C0.ob
    have hml := RI.le hI hv
    refine x_iload (pc := 85) dX7_roots_85 rfl ?_
    refine x_iload (pc := 87) dX7_roots_87 rfl ?_
    refine x_icmp_ge (pc := 89) (tgt := 226) dX7_roots_89 (by decide) (by omega) (by omega) (fun c89 => ?_) (fun c89 => ?_)
    · have ekm : k = m := by omega
      subst ekm
      refine x_iload (pc := 226) dX7_roots_226 rfl ?_
      refine x_iret (pc := 228) dX7_roots_228 rfl (hq _ _ _ C ua fx ff (RIv.last hI hv RI))
    · refine x_iconst (pc := 92) dX7_roots_92 ?_
      refine x_istore (pc := 93) dX7_roots_93 (by decide) rfl ?_
      show Ex _ _ _ _ _ _ [_, _, _, _, _, _, _, _] _ _ _ _
      refine k_rin (d := d) (p := p) (N := N) hz hn hpn hI hv (k := k) (hp0 := hp0) (fun h2 F2 m2 l72 C2 ua2 fx2 ff2 RI2 hkm2 => ?_) 0 (by omega) _ _ _ _ C ua fx ff RI (by omega)
      refine x_iinc (pc := 220) dX7_roots_220 rfl (by decide) rfl ?_
      show Ex _ _ _ _ _ _ [_, _, _, _, _, _, _, _] _ _ _ _
      refine x_goto (pc := 223) (tgt := 85) dX7_roots_223 (by decide) ?_
      exact ih _ _ _ _ _ C2 ua2 fx2 ff2 RI2.next (by omega)

theorem k_rui {G : GL} {d sz p N : Nat} (hz : 615 ≤ sz) {n : Nat} (hn : 1 ≤ n ∧ n ≤ 9) {Y kk : Int} {pa : Nat → Int} {i : Nat} (hi : i < n) {l7 : AV} {hp0 : HP} {Q : Option AV → HP → Nat → Prop}
    (hq : ∀ h F, ModA h p N → h 413 = ar 0 9 pa → FnX h F → Fr hp0 h 414 614 → (∀ a, a < i → ∀ b, b < n → F a b = if b = a then 1 else 0) → (∀ b, b < n → F i b = if b = i then 1 else 0) → Ex G d 0 0 mX7_roots 73 [vr 92, vi n, vi Y, vi kk, vi i, vi i, vi n, l7] [] h sz Q) : ∀ j, j ≤ n → ∀ hp F, ModA hp p N → hp 413 = ar 0 9 pa → FnX hp F → Fr hp0 hp 414 614 → (∀ a, a < i → ∀ b, b < n → F a b = if b = a then 1 else 0) → (∀ b, b < j → F i b = if b = i then 1 else 0) → Ex G d 0 0 mX7_roots 38 [vr 92, vi n, vi Y, vi kk, vi i, vi i, vi j, l7] [] hp sz Q := by
  refine down (fun hp F C ua fx ff hF hc => ?_) (fun j hj ih hp F C ua fx ff hF hc => ?_)
  · obtain ⟨C0, C1, C2, C3, C4, C5, C6, C7, C8, C11, C12, C13, C14, C15, C16, C17, C18, C19, C20, C21, C22, C23⟩ := id C
    have hob := C0.ob
    refine x_iload (pc := 38) dX7_roots_38 rfl ?_
    refine x_iload_n (pc := 40) dX7_roots_40 rfl ?_
    refine x_icmp_ge (pc := 41) (tgt := 73) dX7_roots_41 (by decide) (by omega) (by omega) (fun c41 => ?_) (fun c41 => ?_)
    · exact hq hp F C ua fx ff hF hc
    · exact absurd c41 (by omega)
  · obtain ⟨C0, C1, C2, C3, C4, C5, C6, C7, C8, C11, C12, C13, C14, C15, C16, C17, C18, C19, C20, C21, C22, C23⟩ := id C
    have hob := C0.ob
    obtain ⟨⟨f, q1, q2⟩, q3, q4⟩ := id fx
    refine x_iload (pc := 38) dX7_roots_38 rfl ?_
    refine x_iload_n (pc := 40) dX7_roots_40 rfl ?_
    refine x_icmp_ge (pc := 41) (tgt := 73) dX7_roots_41 (by decide) (by omega) (by omega) (fun c41 => ?_) (fun c41 => ?_)
    · exact absurd c41 (by omega)
    · refine x_aload_n (pc := 44) dX7_roots_44 rfl ?_
      refine x_gf (pc := 45) dX7_roots_45 fX7_74 (by assumption) (by omega) ?_
      refine x_iload (pc := 48) dX7_roots_48 rfl ?_
      refine x_al (pc := 50) dX7_roots_50 (by assumption) (by omega) rfl (by omega) (q2 i (by omega)) ?_
      refine x_iload (pc := 51) dX7_roots_51 rfl ?_
      refine x_iload (pc := 53) dX7_roots_53 rfl ?_
      refine x_iload (pc := 55) dX7_roots_55 rfl ?_
      refine x_icmp_ne (pc := 57) (tgt := 64) dX7_roots_57 (by decide) (by omega) (by omega) (fun c57 => ?_) (fun c57 => ?_)
      · refine x_iconst (pc := 64) dX7_roots_64 ?_
        refine x_i2b (pc := 65) dX7_roots_65 (by omega) ?_
        refine x_bs (pc := 66) dX7_roots_66 (q3 i (by omega)) (by omega) rfl (by omega) (by decide) ?_
        refine x_iinc (pc := 67) dX7_roots_67 rfl (by decide) rfl ?_
        show Ex _ _ _ _ _ _ [_, _, _, _, _, _, _, _] _ _ _ _
        refine x_goto (pc := 70) (tgt := 38) dX7_roots_70 (by decide) ?_
        first
          | exact ih _ _ (C.keep (up_n _ _ (by omega))) ((up_n _ _ (by omega)).trans ua) (fx.put (j := j) (v := 1) (show i < 200 by omega) (by decide)) (ff.up (by omega) (by omega)) (fun a ha b hb => by rw [up_n _ _ (by omega)]; exact hF a ha b hb) (fun b hb => by
              rw [up_s]
              by_cases e : b = j
              · subst e; rw [up_s, if_pos (by omega)]
              · rw [up_n _ _ e]; exact hc b (by omega))
          | exact ih _ _ (C.keep (up_n _ _ (by omega))) ((up_n _ _ (by omega)).trans ua) (fx.put (j := j) (v := 0) (show i < 200 by omega) (by decide)) (ff.up (by omega) (by omega)) (fun a ha b hb => by rw [up_n _ _ (by omega)]; exact hF a ha b hb) (fun b hb => by
              rw [up_s]
              by_cases e : b = j
              · subst e; rw [up_s, if_neg (by omega)]
              · rw [up_n _ _ e]; exact hc b (by omega))
      · refine x_iconst (pc := 60) dX7_roots_60 ?_
        refine x_goto (pc := 61) (tgt := 65) dX7_roots_61 (by decide) ?_
        refine x_i2b (pc := 65) dX7_roots_65 (by omega) ?_
        refine x_bs (pc := 66) dX7_roots_66 (q3 i (by omega)) (by omega) rfl (by omega) (by decide) ?_
        refine x_iinc (pc := 67) dX7_roots_67 rfl (by decide) rfl ?_
        show Ex _ _ _ _ _ _ [_, _, _, _, _, _, _, _] _ _ _ _
        refine x_goto (pc := 70) (tgt := 38) dX7_roots_70 (by decide) ?_
        first
          | exact ih _ _ (C.keep (up_n _ _ (by omega))) ((up_n _ _ (by omega)).trans ua) (fx.put (j := j) (v := 1) (show i < 200 by omega) (by decide)) (ff.up (by omega) (by omega)) (fun a ha b hb => by rw [up_n _ _ (by omega)]; exact hF a ha b hb) (fun b hb => by
              rw [up_s]
              by_cases e : b = j
              · subst e; rw [up_s, if_pos (by omega)]
              · rw [up_n _ _ e]; exact hc b (by omega))
          | exact ih _ _ (C.keep (up_n _ _ (by omega))) ((up_n _ _ (by omega)).trans ua) (fx.put (j := j) (v := 0) (show i < 200 by omega) (by decide)) (ff.up (by omega) (by omega)) (fun a ha b hb => by rw [up_n _ _ (by omega)]; exact hF a ha b hb) (fun b hb => by
              rw [up_s]
              by_cases e : b = j
              · subst e; rw [up_s, if_neg (by omega)]
              · rw [up_n _ _ e]; exact hc b (by omega))

theorem k_ruo {G : GL} {d sz p N : Nat} (hz : 615 ≤ sz) {n : Nat} (hn : 1 ≤ n ∧ n ≤ 9) {Y kk : Int} {pa : Nat → Int} {l7 : AV} {hp0 : HP} {Q : Option AV → HP → Nat → Prop}
    (hq : ∀ h F l6, ModA h p N → h 413 = ar 0 9 pa → FnX h F → Fr hp0 h 414 614 → (∀ a, a < n → ∀ b, b < n → F a b = if b = a then 1 else 0) → Ex G d 0 0 mX7_roots 82 [vr 92, vi n, vi Y, vi kk, vi n, vi n, l6, l7] [] h sz Q) : ∀ i, i ≤ n → ∀ hp F l6, ModA hp p N → hp 413 = ar 0 9 pa → FnX hp F → Fr hp0 hp 414 614 → (∀ a, a < i → ∀ b, b < n → F a b = if b = a then 1 else 0) → Ex G d 0 0 mX7_roots 29 [vr 92, vi n, vi Y, vi kk, vi i, vi i, l6, l7] [] hp sz Q := by
  refine down (fun hp F l6 C ua fx ff hF => ?_) (fun i hi ih hp F l6 C ua fx ff hF => ?_)
  · obtain ⟨C0, C1, C2, C3, C4, C5, C6, C7, C8, C11, C12, C13, C14, C15, C16, C17, C18, C19, C20, C21, C22, C23⟩ := id C
    have hob := C0.ob
    refine x_iload (pc := 29) dX7_roots_29 rfl ?_
    refine x_iload_n (pc := 31) dX7_roots_31 rfl ?_
    refine x_icmp_ge (pc := 32) (tgt := 82) dX7_roots_32 (by decide) (by omega) (by omega) (fun c32 => ?_) (fun c32 => ?_)
    · exact hq hp F l6 C ua fx ff hF
    · exact absurd c32 (by omega)
  · obtain ⟨C0, C1, C2, C3, C4, C5, C6, C7, C8, C11, C12, C13, C14, C15, C16, C17, C18, C19, C20, C21, C22, C23⟩ := id C
    have hob := C0.ob
    refine x_iload (pc := 29) dX7_roots_29 rfl ?_
    refine x_iload_n (pc := 31) dX7_roots_31 rfl ?_
    refine x_icmp_ge (pc := 32) (tgt := 82) dX7_roots_32 (by decide) (by omega) (by omega) (fun c32 => ?_) (fun c32 => ?_)
    · exact absurd c32 (by omega)
    · refine x_iconst (pc := 35) dX7_roots_35 ?_
      refine x_istore (pc := 36) dX7_roots_36 (by decide) rfl ?_
      show Ex _ _ _ _ _ _ [_, _, _, _, _, _, _, _] _ _ _ _
      refine k_rui (p := p) (N := N) hz hn hi (hp0 := hp0) (fun h2 F2 C2 ua2 fx2 ff2 hF2 hc2 => ?_) 0 (by omega) _ _ C ua fx ff hF (fun b hb => absurd hb (Nat.not_lt_zero _))
      refine x_iinc (pc := 73) dX7_roots_73 rfl (by decide) rfl ?_
      show Ex _ _ _ _ _ _ [_, _, _, _, _, _, _, _] _ _ _ _
      refine x_iinc (pc := 76) dX7_roots_76 rfl (by decide) rfl ?_
      show Ex _ _ _ _ _ _ [_, _, _, _, _, _, _, _] _ _ _ _
      refine x_goto (pc := 79) (tgt := 29) dX7_roots_79 (by decide) ?_
      exact ih _ _ _ C2 ua2 fx2 ff2 (fun a ha b hb => by
        by_cases e : a = i
        · subst e; exact hc2 b hb
        · exact hF2 a (by omega) b hb)

set_option maxRecDepth 4000 in
theorem m_roots {G : GL} {d : Nat} {hp : HP} {sz : Nat} {p N : Nat} (C : ModA hp p N) (hz : 615 ≤ sz) {pa : Nat → Int} (ua : hp 413 = ar 0 9 pa) {r : Nat → Nat} {g : Nat → Nat → Int} (sq : SqX hp r g) {F : Nat → Nat → Int} (fx : FnX hp F) {x : Int} (hx : -2147483648 ≤ x ∧ x < 2147483648) {y : Int} (hy : -2147483648 ≤ y ∧ y < 2147483648) {Qt pi ro : Nat → Nat} {Ls : List (List Nat)} (hIv : isTr x y → kdT (dg y.toNat) x.toNat = 1 → IsoT x.toNat (dg y.toNat) Qt pi ro ∧ VRL Qt x.toNat Ls) : Ct G (d + 3) 0 0 mX7_roots [vr 92, vi x, vi y] hp sz (Vs (fun v h => (isTr x y → kdT (dg y.toNat) x.toNat ≠ 1 → v = vi 0) ∧ (isTr x y → kdT (dg y.toNat) x.toNat = 1 → v = vi (Ls.length : Nat)) ∧ (¬ isTr x y → v = vi (-1)) ∧ ModA h p N ∧ Fr hp h 403 614 ∧ (∃ r g, SqX h r g) ∧ (∃ F, FnX h F) ∧ ∃ pa1, h 413 = ar 0 9 pa1) sz) := by
  show Ex _ _ _ _ _ _ [vr 92, vi x, vi y, vu, vu, vu, vu, vu] _ _ _ _
  obtain ⟨C0, C1, C2, C3, C4, C5, C6, C7, C8, C11, C12, C13, C14, C15, C16, C17, C18, C19, C20, C21, C22, C23⟩ := id C
  have hob := C0.ob
  refine x_aload_n (pc := 0) dX7_roots_0 rfl ?_
  refine x_iload_n (pc := 1) dX7_roots_1 rfl ?_
  refine x_iload_n (pc := 2) dX7_roots_2 rfl ?_
  refine x_y2 (pc := 3) dX7_roots_3 wX7_kind iX7_kind kX7_217 (by decide) rfl (Nat.le_of_ble_eq_true rfl) (by assumption) (by omega) (m_kind (d := d) C hz ua sq hx hy) (fun v3 h3 e3 => ?_)
  obtain ⟨ea, eb, C1, ff1, ⟨r1, g11, sq1⟩, pa1, ua1, ec⟩ := e3
  have fx1 := fx.keep (h' := h3) (fun x h1 h2 => ff1 x (by omega))
  obtain ⟨kv, ekv, kv1, kv2, kvr⟩ : ∃ kv : Int, v3 = vi kv ∧ (isTr x y → kv = kdT (dg y.toNat) x.toNat) ∧ (¬ isTr x y → kv = -1) ∧ (-1 ≤ kv ∧ kv ≤ 3) := by
    by_cases q : isTr x y
    · have w : kdT (dg y.toNat) x.toNat = 1 ∨ kdT (dg y.toNat) x.toNat = 2 ∨ kdT (dg y.toNat) x.toNat = 3 := kd_val (dg y.toNat) (x.toNat - 1) (fun _ => 2) (fun _ => 1)
      exact ⟨_, ea q, fun _ => rfl, fun z => absurd q z, by omega⟩
    · exact ⟨_, eb q, fun z => absurd z q, fun _ => rfl, by omega⟩
  subst ekv
  refine x_istore_n (pc := 6) dX7_roots_6 (by decide) rfl ?_
  show Ex _ _ _ _ _ _ [_, _, _, _, _, _, _, _] _ _ _ _
  refine x_iload_n (pc := 7) dX7_roots_7 rfl ?_
  refine x_iconst (pc := 8) dX7_roots_8 ?_
  refine x_icmp_eq (pc := 9) (tgt := 23) dX7_roots_9 (by decide) (by omega) (by omega) (fun c9 => ?_) (fun c9 => ?_)
  · refine x_iconst (pc := 23) dX7_roots_23 ?_
    refine x_istore (pc := 24) dX7_roots_24 (by decide) rfl ?_
    show Ex _ _ _ _ _ _ [_, _, _, _, _, _, _, _] _ _ _ _
    refine x_iconst (pc := 26) dX7_roots_26 ?_
    refine x_istore (pc := 27) dX7_roots_27 (by decide) rfl ?_
    show Ex _ _ _ _ _ _ [_, _, _, _, _, _, _, _] _ _ _ _
    have ht : isTr x y := Classical.byContradiction (fun q => by have := kv2 q; omega)
    have hk1 : kdT (dg y.toNat) x.toNat = 1 := by have := kv1 ht; omega
    obtain ⟨hI, hv⟩ := hIv ht hk1
    obtain ⟨m, rfl⟩ : ∃ m : Nat, x = (m : Int) := ⟨x.toNat, (Int.toNat_of_nonneg (by have := ht.1; omega)).symm⟩
    rw [Int.toNat_natCast] at hI hv hk1
    have hn9 : 1 ≤ m ∧ m ≤ 9 := ⟨by have := ht.1; omega, by have := ht.2.1; omega⟩
    have hpn9 : ∀ j, 1 ≤ j → j < m → pa1 j = (dg y.toNat j : Int) ∧ dg y.toNat j < j := fun j h1 h2 => ⟨ec ht j h1 (by rw [Int.toNat_natCast]; exact h2), ht.2.2.2.1 j h1 (by rw [Int.toNat_natCast]; exact h2)⟩
    rw [Int.toNat_natCast]
    refine k_ruo (p := p) (N := N) hz hn9 (hp0 := h3) (fun h2 F2 l6 C2 ua2 fx2 ff2 hF2 => ?_) 0 (by omega) _ _ _ C1 ua1 fx1 Fr.rf (fun a ha => absurd ha (Nat.not_lt_zero _))
    refine x_iconst (pc := 82) dX7_roots_82 ?_
    refine x_istore (pc := 83) dX7_roots_83 (by decide) rfl ?_
    show Ex _ _ _ _ _ _ [_, _, _, _, _, _, _, _] _ _ _ _
    exact k_rout (d := d + 2) hz hn9 hpn9 hI hv (hp0 := h3) (fun h F m g1 g2 g3 g4 g5 => ⟨_, rfl, rfl, fun _ q => absurd hk1 q, fun _ _ => by rw [g5], fun q => absurd ht q, g1, (ff1.wide (by omega) (by omega)).tr (g4.wide (by omega) (by omega)), ⟨r1, g11, sq1.keep (fun x h1 h2 => g4 x (by omega))⟩, ⟨_, g3⟩, pa1, g2⟩) 0 (Nat.zero_le _) _ _ _ _ _ C2 ua2 fx2 ff2 (RIv.init hI hv hF2) (Nat.zero_le _)
  · refine x_iload_n (pc := 12) dX7_roots_12 rfl ?_
    refine x_iconst (pc := 13) dX7_roots_13 ?_
    refine x_icmp_ne (pc := 14) (tgt := 21) dX7_roots_14 (by decide) (by omega) (by omega) (fun c14 => ?_) (fun c14 => ?_)
    · refine x_iconst (pc := 21) dX7_roots_21 ?_
      refine x_iret (pc := 22) dX7_roots_22 rfl (by
        by_cases q : isTr x y
        · have w : kdT (dg y.toNat) x.toNat = 1 ∨ kdT (dg y.toNat) x.toNat = 2 ∨ kdT (dg y.toNat) x.toNat = 3 := kd_val (dg y.toNat) (x.toNat - 1) (fun _ => 2) (fun _ => 1)
          have z := kv1 q
          first
            | exact absurd c14 (by omega)
            | exact ⟨_, rfl, rfl, fun _ _ => rfl, fun _ w => absurd (z.trans w) c9, fun w => absurd q w, C1, ff1.wide (by omega) (by omega), ⟨r1, g11, sq1⟩, ⟨F, fx1⟩, pa1, ua1⟩
        · have z := kv2 q
          first
            | exact absurd z c14
            | exact ⟨_, rfl, rfl, fun w => absurd w q, fun w => absurd w q, fun _ => rfl, C1, ff1.wide (by omega) (by omega), ⟨r1, g11, sq1⟩, ⟨F, fx1⟩, pa1, ua1⟩)
    · refine x_iconst (pc := 17) dX7_roots_17 ?_
      refine x_goto (pc := 18) (tgt := 22) dX7_roots_18 (by decide) ?_
      refine x_iret (pc := 22) dX7_roots_22 rfl (by
        by_cases q : isTr x y
        · have w : kdT (dg y.toNat) x.toNat = 1 ∨ kdT (dg y.toNat) x.toNat = 2 ∨ kdT (dg y.toNat) x.toNat = 3 := kd_val (dg y.toNat) (x.toNat - 1) (fun _ => 2) (fun _ => 1)
          have z := kv1 q
          first
            | exact absurd c14 (by omega)
            | exact ⟨_, rfl, rfl, fun _ _ => rfl, fun _ w => absurd (z.trans w) c9, fun w => absurd q w, C1, ff1.wide (by omega) (by omega), ⟨r1, g11, sq1⟩, ⟨F, fx1⟩, pa1, ua1⟩
        · have z := kv2 q
          first
            | exact absurd z c14
            | exact ⟨_, rfl, rfl, fun w => absurd w q, fun w => absurd w q, fun _ => rfl, C1, ff1.wide (by omega) (by omega), ⟨r1, g11, sq1⟩, ⟨F, fx1⟩, pa1, ua1⟩)
