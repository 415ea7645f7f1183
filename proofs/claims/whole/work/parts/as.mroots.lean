/-! the model's roots -/
theorem k_rdec {G : GL} {d sz p N : Nat} (hz : 615 ≤ sz) {n : Nat} (hn : 1 ≤ n ∧ n ≤ 9) {Y kk : Int} {pa : Nat → Int} {F : Nat → Nat → Int} {m k i : Nat} (hk : k < 200) (hi : i < n) {l7 : AV} {hp : HP} (C : ModA hp p N) (ua : hp 413 = ar 0 9 pa) (fx : FnX hp F) (hr : 0 ≤ F k i ∧ F k i ≤ 20) {Q : Option AV → HP → Nat → Prop}
    (hq : ∀ h F1, ModA h p N → h 413 = ar 0 9 pa → FnX h F1 → Fr hp h 414 614 → (∀ a j, F1 a j = if a = k ∧ j = i then F a j - 1 else F a j) → Ex G d 0 0 mX7_roots 214 [vr 92, vi n, vi Y, vi kk, vi m, vi k, vi i, l7] [] h sz Q) : Ex G d 0 0 mX7_roots 199 [vr 92, vi n, vi Y, vi kk, vi m, vi k, vi i, l7] [] hp sz Q := by
  obtain ⟨C0, C1, C2, C3, C4, C5, C6, C7, C8, C11, C12, C13, C14, C15, C16, C17, C18, C19, C20, C21, C22, C23⟩ := id C
  have hob := C0.ob
  obtain ⟨⟨f, q1, q2⟩, q3, q4⟩ := id fx
  refine x_aload_n (pc := 199) dX7_roots_199 rfl ?_
  refine x_gf (pc := 200) dX7_roots_200 fX7_74 (by assumption) (by omega) ?_
  refine x_iload (pc := 203) dX7_roots_203 rfl ?_
  refine x_al (pc := 205) dX7_roots_205 (by assumption) (by omega) rfl (by omega) (q2 k hk) ?_
  refine x_iload (pc := 206) dX7_roots_206 rfl ?_
  refine x_dup2 (pc := 208) dX7_roots_208 ?_
  refine x_bl (pc := 209) dX7_roots_209 (q3 k hk) (by omega) rfl (by omega) ?_
  refine x_iconst (pc := 210) dX7_roots_210 ?_
  refine x_isub (pc := 211) dX7_roots_211 ?_
  refine x_i2b (pc := 212) dX7_roots_212 (by omega) ?_
  refine x_bs (pc := 213) dX7_roots_213 (q3 k hk) (by omega) rfl (by omega) (by omega) ?_
  exact hq _ _ (C.keep (up_n _ _ (by omega))) ((up_n _ _ (by omega)).trans ua) (fx.put (j := i) hk (by omega)) (Fr.rf.up (by omega) (by omega)) (fun a j => by
    by_cases e : a = k
    · subst e
      rw [up_s]
      by_cases e2 : j = i
      · subst e2; rw [up_s, if_pos ⟨rfl, rfl⟩]
      · rw [up_n _ _ e2, if_neg (fun q => e2 q.2)]
    · rw [up_n _ _ e, if_neg (fun q => e q.1)])

theorem k_rcopy {G : GL} {d sz p N : Nat} (hz : 615 ≤ sz) {n : Nat} (hn : 1 ≤ n ∧ n ≤ 9) {Y kk : Int} {pa : Nat → Int} {F0 : Nat → Nat → Int} {m k i : Nat} (hk : k < 200) (hm : m < 200) (hkm : k ≠ m) {hp0 : HP} {Q : Option AV → HP → Nat → Prop}
    (hq : ∀ h F, ModA h p N → h 413 = ar 0 9 pa → FnX h F → Fr hp0 h 414 614 → (∀ a, a ≠ m → ∀ j, F a j = F0 a j) → (∀ j, j < n → F m j = F0 k j) → Ex G d 0 0 mX7_roots 196 [vr 92, vi n, vi Y, vi kk, vi m, vi k, vi i, vi n] [] h sz Q) : ∀ j, j ≤ n → ∀ hp F, ModA hp p N → hp 413 = ar 0 9 pa → FnX hp F → Fr hp0 hp 414 614 → (∀ a, a ≠ m → ∀ j, F a j = F0 a j) → (∀ b, b < j → F m b = F0 k b) → Ex G d 0 0 mX7_roots 164 [vr 92, vi n, vi Y, vi kk, vi m, vi k, vi i, vi j] [] hp sz Q := by
  refine down (fun hp F C ua fx ff hF hc => ?_) (fun j hj ih hp F C ua fx ff hF hc => ?_)
  · obtain ⟨C0, C1, C2, C3, C4, C5, C6, C7, C8, C11, C12, C13, C14, C15, C16, C17, C18, C19, C20, C21, C22, C23⟩ := id C
    have hob := C0.ob
    refine x_iload (pc := 164) dX7_roots_164 rfl ?_
    refine x_iload_n (pc := 166) dX7_roots_166 rfl ?_
    refine x_icmp_ge (pc := 167) (tgt := 196) dX7_roots_167 (by decide) (by omega) (by omega) (fun c167 => ?_) (fun c167 => ?_)
    · exact hq hp F C ua fx ff hF hc
    · exact absurd c167 (by omega)
  · obtain ⟨C0, C1, C2, C3, C4, C5, C6, C7, C8, C11, C12, C13, C14, C15, C16, C17, C18, C19, C20, C21, C22, C23⟩ := id C
    have hob := C0.ob
    obtain ⟨⟨f, q1, q2⟩, q3, q4⟩ := id fx
    refine x_iload (pc := 164) dX7_roots_164 rfl ?_
    refine x_iload_n (pc := 166) dX7_roots_166 rfl ?_
    refine x_icmp_ge (pc := 167) (tgt := 196) dX7_roots_167 (by decide) (by omega) (by omega) (fun c167 => ?_) (fun c167 => ?_)
    · exact absurd c167 (by omega)
    · refine x_aload_n (pc := 170) dX7_roots_170 rfl ?_
      refine x_gf (pc := 171) dX7_roots_171 fX7_74 (by assumption) (by omega) ?_
      refine x_iload (pc := 174) dX7_roots_174 rfl ?_
      refine x_al (pc := 176) dX7_roots_176 (by assumption) (by omega) rfl (by omega) (q2 m hm) ?_
      refine x_iload (pc := 177) dX7_roots_177 rfl ?_
      refine x_aload_n (pc := 179) dX7_roots_179 rfl ?_
      refine x_gf (pc := 180) dX7_roots_180 fX7_74 (by assumption) (by omega) ?_
      refine x_iload (pc := 183) dX7_roots_183 rfl ?_
      refine x_al (pc := 185) dX7_roots_185 (by assumption) (by omega) rfl (by omega) (q2 k hk) ?_
      refine x_iload (pc := 186) dX7_roots_186 rfl ?_
      refine x_bl (pc := 188) dX7_roots_188 (q3 k hk) (by omega) rfl (by omega) ?_
      refine x_bs (pc := 189) dX7_roots_189 (q3 m hm) (by omega) rfl (by omega) (q4 k hk j (by omega)) ?_
      refine x_iinc (pc := 190) dX7_roots_190 rfl (by decide) rfl ?_
      show Ex _ _ _ _ _ _ [_, _, _, _, _, _, _, _] _ _ _ _
      refine x_goto (pc := 193) (tgt := 164) dX7_roots_193 (by decide) ?_
      exact ih _ _ (C.keep (up_n _ _ (by omega))) ((up_n _ _ (by omega)).trans ua) (fx.put (j := j) hm (q4 k hk j (by omega))) (ff.up (by omega) (by omega)) (fun a ha b => by rw [up_n _ _ ha]; exact hF a ha b) (fun b hb => by
        rw [up_s]
        by_cases e : b = j
        · subst e; rw [up_s]; exact hF k (by omega) b
        · rw [up_n _ _ e]; exact hc b (by omega))

set_option maxRecDepth 4000 in
theorem k_rin {G : GL} {d sz p N : Nat} (hz : 615 ≤ sz) {n : Nat} (hn : 1 ≤ n ∧ n ≤ 9) {Y kk : Int} {pa : Nat → Int} {P : Nat → Nat} (hpn : ∀ j, 1 ≤ j → j < n → pa j = (P j : Int) ∧ P j < j) {Qt pi ro : Nat → Nat} {Ls : List (List Nat)} (hI : IsoT n P Qt pi ro) (hv : VRL Qt n Ls) {hp0 : HP} {k : Nat} {Q : Option AV → HP → Nat → Prop}
    (hq : ∀ h F m l7, ModA h p N → h 413 = ar 0 9 pa → FnX h F → Fr hp0 h 414 614 → RIv P n pi Ls k n m F → k < m → Ex G (d + 1) 0 0 mX7_roots 220 [vr 92, vi n, vi Y, vi kk, vi m, vi k, vi n, l7] [] h sz Q) : ∀ i, i ≤ n → ∀ hp F m l7, ModA hp p N → hp 413 = ar 0 9 pa → FnX hp F → Fr hp0 hp 414 614 → RIv P n pi Ls k i m F → k < m → Ex G (d + 1) 0 0 mX7_roots 95 [vr 92, vi n, vi Y, vi kk, vi m, vi k, vi i, l7] [] hp sz Q := by
  refine down (fun hp F m l7 C ua fx ff RI hkm => ?_) (fun i hi ih hp F m l7 C ua fx ff RI hkm => ?_)
  · obtain ⟨C0, C1, C2, C3, C4, C5, C6, C7, C8, C11, C12, C13, C14, C15, C16, C17, C18, C19, C20, C21, C22, C23⟩ := id C
    have hob := C0.ob
    refine x_iload (pc := 95) dX7_roots_95 rfl ?_
    refine x_iload_n (pc := 97) dX7_roots_97 rfl ?_
    refine x_icmp_ge (pc := 98) (tgt := 220) dX7_roots_98 (by decide) (by omega) (by omega) (fun c98 => ?_) (fun c98 => ?_)
    · exact hq hp F m l7 C ua fx ff RI hkm
    · exact absurd c98 (by omega)
  · obtain ⟨C0, C1, C2, C3, C4, C5, C6, C7, C8, C11, C12, C13, C14, C15, C16, C17, C18, C19, C20, C21, C22, C23⟩ := id C
    have hob := C0.ob
    have hml := RI.le hI hv
    have hm9 := hv.2.2.2.2.2
    have hFb := RI.bd hI hv hkm hi
    have hP : ∀ j, 1 ≤ j → j < n → P j < j := fun j h1 h2 => (hpn j h1 h2).2
    have hFall : ∀ j, j < n → 0 ≤ F k j ∧ F k j ≤ 9 := fun j hj => RI.bd hI hv hkm hj
    obtain ⟨⟨f, q1, q2⟩, q3, q4⟩ := id fx
    refine x_iload (pc := 95) dX7_roots_95 rfl ?_
    refine x_iload_n (pc := 97) dX7_roots_97 rfl ?_
    refine x_icmp_ge (pc := 98) (tgt := 220) dX7_roots_98 (by decide) (by omega) (by omega) (fun c98 => ?_) (fun c98 => ?_)
    · exact absurd c98 (by omega)
    · refine x_aload_n (pc := 101) dX7_roots_101 rfl ?_
      refine x_gf (pc := 102) dX7_roots_102 fX7_74 (by assumption) (by omega) ?_
      refine x_iload (pc := 105) dX7_roots_105 rfl ?_
      refine x_al (pc := 107) dX7_roots_107 (by assumption) (by omega) rfl (by omega) (q2 k (by omega)) ?_
      refine x_iload (pc := 108) dX7_roots_108 rfl ?_
      refine x_dup2 (pc := 110) dX7_roots_110 ?_
      refine x_bl (pc := 111) dX7_roots_111 (q3 k (by omega)) (by omega) rfl (by omega) ?_
      refine x_iconst (pc := 112) dX7_roots_112 ?_
      refine x_iadd (pc := 113) dX7_roots_113 ?_
      refine x_i2b (pc := 114) dX7_roots_114 (by omega) ?_
      refine x_bs (pc := 115) dX7_roots_115 (q3 k (by omega)) (by omega) rfl (by omega) (by omega) ?_
      have fx1 := fx.put (j := i) (show k < 200 by omega) (v := F k i + 1) (by omega)
      have Cb := C.keep (hp' := up hp (415 + k) (ar 2 9 (up (F k) i (F k i + 1)))) (up_n _ _ (by omega))
      have ua1 : (up hp (415 + k) (ar 2 9 (up (F k) i (F k i + 1)))) 413 = ar 0 9 pa := (up_n _ _ (by omega)).trans ua
      have ff1 := ff.up (a := 415 + k) (c := ar 2 9 (up (F k) i (F k i + 1))) (by omega) (by omega)
      have ek : ∀ j, j < n → (up F k (up (F k) i (F k i + 1))) k j = adx (F k) i j := fun j _ => by
        rw [up_s]
        unfold adx up
        split
        · rename_i e; rw [e]
        · rfl
      have ev : VQ P n ((up F k (up (F k) i (F k i + 1))) k) = VQ P n (adx (F k) i) := VQ_cg hP ek
      have rc := RI.cond hI hP hv hkm hi
      have vb := VQ_abs hn.2 hP (x := (up F k (up (F k) i (F k i + 1))) k) (fun j hj => by rw [ek j hj]; unfold adx; have := hFall j hj; split <;> omega) n (Nat.le_refl _)
      have vb2 : (VQ P n ((up F k (up (F k) i (F k i + 1))) k)).natAbs ≤ n * 800 := vb
      have h0 : (up F k (up (F k) i (F k i + 1))) k i = F k i + 1 := by rw [up_s, up_s]
      obtain ⟨⟨f, q1, q2⟩, q3, q4⟩ := id fx1
      obtain ⟨C0, C1, C2, C3, C4, C5, C6, C7, C8, C11, C12, C13, C14, C15, C16, C17, C18, C19, C20, C21, C22, C23⟩ := id Cb
      have hob1 := C0.ob
      clear vb
      refine x_aload_n (pc := 116) dX7_roots_116 rfl ?_
      refine x_iload_n (pc := 117) dX7_roots_117 rfl ?_
      refine x_aload_n (pc := 118) dX7_roots_118 rfl ?_
      refine x_gf (pc := 119) dX7_roots_119 fX7_74 (by assumption) (by omega) ?_
      refine x_iload (pc := 122) dX7_roots_122 rfl ?_
      refine x_al (pc := 124) dX7_roots_124 (by assumption) (by omega) rfl (by omega) (q2 k (by omega)) ?_
      refine x_w2 (pc := 125) dX7_roots_125 wX7_value iX7_value kX7_220 (by decide) rfl (Nat.le_of_ble_eq_true rfl) (by assumption) (by omega) (m_value Cb hz hn hpn ua1 (by omega) (q3 k (by omega))) ?_
      refine x_iconst (pc := 128) dX7_roots_128 ?_
      refine x_icmp_ne (pc := 129) (tgt := 199) dX7_roots_129 (by decide) (by omega) (by omega) (fun c129 => ?_) (fun c129 => ?_)
      · have hnc : ¬ (1 + 2 * F k i = nsm P n (F k) i) := fun q => c129 (by rw [ev]; exact rc.2 q)
        first
          | (have := hnc
             refine k_rdec (p := p) (N := N) hz hn (F := _) (by omega) hi Cb ua1 fx1 (by omega) (fun h9 F9 C9 ua9 fx9 ff9 hF9 => ?_)
             refine x_iinc (pc := 214) dX7_roots_214 rfl (by decide) rfl ?_
             show Ex _ _ _ _ _ _ [_, _, _, _, _, _, _, _] _ _ _ _
             refine x_goto (pc := 217) (tgt := 95) dX7_roots_217 (by decide) ?_
             exact ih _ _ _ _ C9 ua9 fx9 (ff1.tr ff9) (RI.no (fun a ha j hj => by
               rw [hF9 a j]
               by_cases e : a = k ∧ j = i
               · rw [if_pos e, e.1, e.2, up_s, up_s]; omega
               · rw [if_neg e]
                 by_cases e1 : a = k
                 · subst e1; rw [up_s, up_n _ _ (fun q => e ⟨rfl, q⟩)]
                 · rw [up_n _ _ e1]) (fun q => absurd q hnc) hi) (by omega))
          | (have := hbe
             refine k_rdec (p := p) (N := N) hz hn (F := _) (by omega) hi Cb ua1 fx1 (by omega) (fun h9 F9 C9 ua9 fx9 ff9 hF9 => ?_)
             refine x_iinc (pc := 214) dX7_roots_214 rfl (by decide) rfl ?_
             show Ex _ _ _ _ _ _ [_, _, _, _, _, _, _, _] _ _ _ _
             refine x_goto (pc := 217) (tgt := 95) dX7_roots_217 (by decide) ?_
             exact ih _ _ _ _ C9 ua9 fx9 (ff1.tr ff9) (RI.no (fun a ha j hj => by
               rw [hF9 a j]
               by_cases e : a = k ∧ j = i
               · rw [if_pos e, e.1, e.2, up_s, up_s]; omega
               · rw [if_neg e]
                 by_cases e1 : a = k
                 · subst e1; rw [up_s, up_n _ _ (fun q => e ⟨rfl, q⟩)]
                 · rw [up_n _ _ e1]) (fun _ => ⟨b, by omega, fun j hj => by have := hbe j hj; rw [ek j hj, up_n _ _ (show b ≠ k by omega)] at this; exact this⟩) hi) (by omega))
      · have hyc : 1 + 2 * F k i = nsm P n (F k) i := rc.1 (by rw [← ev]; exact c129)
        refine x_aload_n (pc := 132) dX7_roots_132 rfl ?_
        refine x_iload_n (pc := 133) dX7_roots_133 rfl ?_
        refine x_iload (pc := 134) dX7_roots_134 rfl ?_
        refine x_aload_n (pc := 136) dX7_roots_136 rfl ?_
        refine x_gf (pc := 137) dX7_roots_137 fX7_74 (by assumption) (by omega) ?_
        refine x_iload (pc := 140) dX7_roots_140 rfl ?_
        refine x_al (pc := 142) dX7_roots_142 (by assumption) (by omega) rfl (by omega) (q2 k (by omega)) ?_
        refine x_y3 (pc := 143) dX7_roots_143 wX7_isFound iX7_isFound kX7_224 (by decide) rfl (Nat.le_of_ble_eq_true rfl) (by assumption) (by omega) (m_isFound Cb hz hn fx1 (by omega) (by omega)) (fun v143 h143 e143 => ?_)
        obtain ⟨e1, r1, e2, hr1⟩ := e143
        subst e1
        subst e2
        refine x_if_ne (pc := 146) (tgt := 199) dX7_roots_146 (by decide) (bz_rg _) (fun c146 => ?_) (fun c146 => ?_)
        · have b1 : r1 = true := by cases r1 with | true => rfl | false => exact absurd rfl c146
          obtain ⟨b, hb, hbe⟩ := hr1.1 b1
          first
            | (have := hnc
               refine k_rdec (p := p) (N := N) hz hn (F := _) (by omega) hi Cb ua1 fx1 (by omega) (fun h9 F9 C9 ua9 fx9 ff9 hF9 => ?_)
               refine x_iinc (pc := 214) dX7_roots_214 rfl (by decide) rfl ?_
               show Ex _ _ _ _ _ _ [_, _, _, _, _, _, _, _] _ _ _ _
               refine x_goto (pc := 217) (tgt := 95) dX7_roots_217 (by decide) ?_
               exact ih _ _ _ _ C9 ua9 fx9 (ff1.tr ff9) (RI.no (fun a ha j hj => by
                 rw [hF9 a j]
                 by_cases e : a = k ∧ j = i
                 · rw [if_pos e, e.1, e.2, up_s, up_s]; omega
                 · rw [if_neg e]
                   by_cases e1 : a = k
                   · subst e1; rw [up_s, up_n _ _ (fun q => e ⟨rfl, q⟩)]
                   · rw [up_n _ _ e1]) (fun q => absurd q hnc) hi) (by omega))
            | (have := hbe
               refine k_rdec (p := p) (N := N) hz hn (F := _) (by omega) hi Cb ua1 fx1 (by omega) (fun h9 F9 C9 ua9 fx9 ff9 hF9 => ?_)
               refine x_iinc (pc := 214) dX7_roots_214 rfl (by decide) rfl ?_
               show Ex _ _ _ _ _ _ [_, _, _, _, _, _, _, _] _ _ _ _
               refine x_goto (pc := 217) (tgt := 95) dX7_roots_217 (by decide) ?_
               exact ih _ _ _ _ C9 ua9 fx9 (ff1.tr ff9) (RI.no (fun a ha j hj => by
                 rw [hF9 a j]
                 by_cases e : a = k ∧ j = i
                 · rw [if_pos e, e.1, e.2, up_s, up_s]; omega
                 · rw [if_neg e]
                   by_cases e1 : a = k
                   · subst e1; rw [up_s, up_n _ _ (fun q => e ⟨rfl, q⟩)]
                   · rw [up_n _ _ e1]) (fun _ => ⟨b, by omega, fun j hj => by have := hbe j hj; rw [ek j hj, up_n _ _ (show b ≠ k by omega)] at this; exact this⟩) hi) (by omega))
        · have b1 : ¬ (r1 = true) := by cases r1 with | false => decide | true => exact absurd c146 (by decide)
          refine x_aload_n (pc := 149) dX7_roots_149 rfl ?_
          refine x_iload_n (pc := 150) dX7_roots_150 rfl ?_
          refine x_iload (pc := 151) dX7_roots_151 rfl ?_
          refine x_iload (pc := 153) dX7_roots_153 rfl ?_
          refine x_y3 (pc := 155) dX7_roots_155 wX7_isBehind iX7_isBehind kX7_228 (by decide) rfl (Nat.le_of_ble_eq_true rfl) (by assumption) (by omega) (m_isBehind Cb hz hn fx1 (by omega) (by omega) hkm) (fun v155 h155 e155 => ?_)
          obtain ⟨e3, r2, e4, hr2⟩ := e155
          subst e3
          subst e4
          refine x_if_ne (pc := 158) (tgt := 199) dX7_roots_158 (by decide) (bz_rg _) (fun c158 => ?_) (fun c158 => ?_)
          · have b2 : r2 = true := by cases r2 with | true => rfl | false => exact absurd rfl c158
            obtain ⟨b, hb, hbe⟩ := hr2.1 b2
            first
              | (have := hnc
                 refine k_rdec (p := p) (N := N) hz hn (F := _) (by omega) hi Cb ua1 fx1 (by omega) (fun h9 F9 C9 ua9 fx9 ff9 hF9 => ?_)
                 refine x_iinc (pc := 214) dX7_roots_214 rfl (by decide) rfl ?_
                 show Ex _ _ _ _ _ _ [_, _, _, _, _, _, _, _] _ _ _ _
                 refine x_goto (pc := 217) (tgt := 95) dX7_roots_217 (by decide) ?_
                 exact ih _ _ _ _ C9 ua9 fx9 (ff1.tr ff9) (RI.no (fun a ha j hj => by
                   rw [hF9 a j]
                   by_cases e : a = k ∧ j = i
                   · rw [if_pos e, e.1, e.2, up_s, up_s]; omega
                   · rw [if_neg e]
                     by_cases e1 : a = k
                     · subst e1; rw [up_s, up_n _ _ (fun q => e ⟨rfl, q⟩)]
                     · rw [up_n _ _ e1]) (fun q => absurd q hnc) hi) (by omega))
              | (have := hbe
                 refine k_rdec (p := p) (N := N) hz hn (F := _) (by omega) hi Cb ua1 fx1 (by omega) (fun h9 F9 C9 ua9 fx9 ff9 hF9 => ?_)
                 refine x_iinc (pc := 214) dX7_roots_214 rfl (by decide) rfl ?_
                 show Ex _ _ _ _ _ _ [_, _, _, _, _, _, _, _] _ _ _ _
                 refine x_goto (pc := 217) (tgt := 95) dX7_roots_217 (by decide) ?_
                 exact ih _ _ _ _ C9 ua9 fx9 (ff1.tr ff9) (RI.no (fun a ha j hj => by
                   rw [hF9 a j]
                   by_cases e : a = k ∧ j = i
                   · rw [if_pos e, e.1, e.2, up_s, up_s]; omega
                   · rw [if_neg e]
                     by_cases e1 : a = k
                     · subst e1; rw [up_s, up_n _ _ (fun q => e ⟨rfl, q⟩)]
                     · rw [up_n _ _ e1]) (fun _ => ⟨b, by omega, fun j hj => by have := hbe j hj; rw [ek j hj, up_n _ _ (show b ≠ k by omega)] at this; exact this⟩) hi) (by omega))
          · have b2 : ¬ (r2 = true) := by cases r2 with | false => decide | true => exact absurd c158 (by decide)
            refine x_iconst (pc := 161) dX7_roots_161 ?_
            refine x_istore (pc := 162) dX7_roots_162 (by decide) rfl ?_
            show Ex _ _ _ _ _ _ [_, _, _, _, _, _, _, _] _ _ _ _
            refine k_rcopy (p := p) (N := N) hz hn (F0 := up F k (up (F k) i (F k i + 1))) (k := k) (by omega) (by omega) (by omega) (hp0 := hp0) (fun h8 F8 C8 ua8 fx8 ff8 hF8 hc8 => ?_) 0 (by omega) _ _ Cb ua1 fx1 ff1 (fun _ _ _ => rfl) (fun b hb => absurd hb (Nat.not_lt_zero _))
            refine x_iinc (pc := 196) dX7_roots_196 rfl (by decide) rfl ?_
            show Ex _ _ _ _ _ _ [_, _, _, _, _, _, _, _] _ _ _ _
            refine k_rdec (p := p) (N := N) hz hn (F := _) (by omega) hi C8 ua8 fx8 (by have h8 := hF8 k (by omega) i; omega) (fun h9 F9 C9 ua9 fx9 ff9 hF9 => ?_)
            refine x_iinc (pc := 214) dX7_roots_214 rfl (by decide) rfl ?_
            show Ex _ _ _ _ _ _ [_, _, _, _, _, _, _, _] _ _ _ _
            refine x_goto (pc := 217) (tgt := 95) dX7_roots_217 (by decide) ?_
            exact ih _ _ _ _ C9 ua9 fx9 (ff8.tr ff9) (RI.yes hI hv (fun a ha j hj => by
              rw [hF9 a j, hF8 a (by omega) j]
              by_cases e : a = k ∧ j = i
              · rw [if_pos e, e.1, e.2, up_s, up_s]; omega
              · rw [if_neg e]
                by_cases e1 : a = k
                · subst e1; rw [up_s, up_n _ _ (fun q => e ⟨rfl, q⟩)]
                · rw [up_n _ _ e1]) hkm hi hyc (fun b hb hbe => by
              by_cases e : b = k
              · have z := hbe i hi
                rw [e] at z
                unfold adx at z
                rw [if_pos rfl] at z
                omega
              · have hbe2 : ∀ j, j < n → (up F k (up (F k) i (F k i + 1))) b j = (up F k (up (F k) i (F k i + 1))) k j := fun j hj => by rw [ek j hj, up_n _ _ e]; exact hbe j hj
                by_cases l : b < k
                · exact b1 (hr1.2 ⟨b, l, hbe2⟩)
                · exact b2 (hr2.2 ⟨b, ⟨by omega, hb⟩, hbe2⟩)) (fun j hj => by
              rw [hF9 m j, if_neg (by omega), hc8 j hj, ek j hj])) (by omega)
