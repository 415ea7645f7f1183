/-! the class's lines of a tree -/
def lnS (pn : Nat → Nat) (L : Nat → Int) (k : Nat) : Nat → Int := up (up L k (L k + 1)) (pn k) ((up L k (L k + 1)) (pn k) + 1)
def lnF (pn : Nat → Nat) (L0 : Nat → Int) : Nat → Nat → Int
  | 0 => L0
  | k + 1 => if k = 0 then L0 else lnS pn (lnF pn L0 k) k
theorem lnF_s {pn : Nat → Nat} {L0 : Nat → Int} {k : Nat} (h : 1 ≤ k) : lnF pn L0 (k + 1) = lnS pn (lnF pn L0 k) k := if_neg (by omega)
theorem lnF_rg {pn : Nat → Nat} {L0 : Nat → Int} (h0 : ∀ j, j < 9 → L0 j = 0) : ∀ k j, j < 9 → 0 ≤ lnF pn L0 k j ∧ lnF pn L0 k j ≤ 2 * k
  | 0, j, hj => by
    show 0 ≤ L0 j ∧ L0 j ≤ _
    rw [h0 j hj]; omega
  | k + 1, j, hj => by
    have ih := lnF_rg (pn := pn) h0 k j hj
    by_cases e : k = 0
    · rw [lnF, if_pos e, h0 j hj]; omega
    · rw [lnF, if_neg e]
      unfold lnS
      by_cases q : j = pn k
      · rw [q, up_s, ← q]
        by_cases q2 : j = k
        · rw [q2] at ih; rw [q2, up_s]; omega
        · rw [up_n _ _ q2]; omega
      · rw [up_n _ _ q]
        by_cases q2 : j = k
        · rw [q2] at ih; rw [q2, up_s]; omega
        · rw [up_n _ _ q2]; omega
theorem TrA.uli {h : HP} {pa li ab be q : Nat → Int} {s : Int} (t : TrA h pa li ab be s) : TrA (up h 89 (ar 0 9 q)) pa q ab be s := by
  obtain ⟨p1, p2, p3, p4, p5, p6, p7, p8, p9⟩ := t
  exact ⟨p1.keep (up_n _ _ (by omega)), p2.keep (up_n _ _ (by omega)), p3.keep (up_n _ _ (by omega)), p4.keep (up_n _ _ (by omega)), p5.keep (up_n _ _ (by omega)), (up_n _ _ (by omega)).trans p6, up_s _ _ _, (up_n _ _ (by omega)).trans p8, (up_n _ _ (by omega)).trans p9⟩

theorem k_lines {G : GL} {d sz : Nat} (hz : 92 ≤ sz) {n : Nat} (hn : 1 ≤ n ∧ n ≤ 9) {pa ab be : Nat → Int} {pn : Nat → Nat} (hpn : ∀ j, 1 ≤ j → j < n → pa j = (pn j : Int) ∧ pn j < j) {L0 : Nat → Int} {hp0 : HP} {Q : Option AV → HP → Nat → Prop} (hq : ∀ h, TrA h pa (lnF pn L0 n) ab be n → Fr hp0 h 89 89 → Q none h sz) : ∀ k, k ≤ n → 1 ≤ k → ∀ hp, TrA hp pa (lnF pn L0 k) ab be n → Fr hp0 hp 89 89 → Ex G (d + 1) 0 0 mX5_countLines 10 [vr 87, vi k] [] hp sz Q := by
  refine down (fun h1k hp ta ff => ?_) (fun k hk ih h1k hp ta ff => ?_)
  · obtain ⟨P1, P2, P3, P4, P5, P6, P7, P8, P9⟩ := id ta
    have hob := ta.ob
    refine x_iload_n (pc := 10) dX5_countLines_10 rfl ?_
    refine x_aload_n (pc := 11) dX5_countLines_11 rfl ?_
    refine x_gf (pc := 12) dX5_countLines_12 fX5_24 (by assumption) (by omega) ?_
    refine x_icmp_ge (pc := 15) (tgt := 49) dX5_countLines_15 (by decide) (by omega) (by omega) (fun c15 => ?_) (fun c15 => ?_)
    · refine x_vret (pc := 49) dX5_countLines_49 rfl (hq hp ta ff)
    · exact absurd c15 (by omega)
  · obtain ⟨P1, P2, P3, P4, P5, P6, P7, P8, P9⟩ := id ta
    have hob := ta.ob
    refine x_iload_n (pc := 10) dX5_countLines_10 rfl ?_
    refine x_aload_n (pc := 11) dX5_countLines_11 rfl ?_
    refine x_gf (pc := 12) dX5_countLines_12 fX5_24 (by assumption) (by omega) ?_
    refine x_icmp_ge (pc := 15) (tgt := 49) dX5_countLines_15 (by decide) (by omega) (by omega) (fun c15 => ?_) (fun c15 => ?_)
    · exact absurd c15 (by omega)
    · refine x_aload_n (pc := 18) dX5_countLines_18 rfl ?_
      refine x_gf (pc := 19) dX5_countLines_19 fX5_15 (by assumption) (by omega) ?_
      refine x_iload_n (pc := 22) dX5_countLines_22 rfl ?_
      refine x_dup2 (pc := 23) dX5_countLines_23 ?_
      refine x_il (pc := 24) dX5_countLines_24 (by assumption) (by omega) rfl (by omega) ?_
      refine x_iconst (pc := 25) dX5_countLines_25 ?_
      refine x_iadd (pc := 26) dX5_countLines_26 ?_
      refine x_is (pc := 27) dX5_countLines_27 (by assumption) (by omega) rfl (by omega) ?_
      have ta2 := ta.uli (q := up (lnF pn L0 k) k (lnF pn L0 k k + 1))
      obtain ⟨P1, P2, P3, P4, P5, P6, P7, P8, P9⟩ := id ta2
      refine x_aload_n (pc := 28) dX5_countLines_28 rfl ?_
      refine x_gf (pc := 29) dX5_countLines_29 fX5_15 (by assumption) (by omega) ?_
      refine x_aload_n (pc := 32) dX5_countLines_32 rfl ?_
      refine x_gf (pc := 33) dX5_countLines_33 fX5_9 (by assumption) (by omega) ?_
      refine x_iload_n (pc := 36) dX5_countLines_36 rfl ?_
      refine x_il (pc := 37) dX5_countLines_37 (by assumption) (by omega) rfl (by omega) ?_
      rw [(hpn k h1k hk).1]
      refine x_dup2 (pc := 38) dX5_countLines_38 ?_
      refine x_il (pc := 39) dX5_countLines_39 (by assumption) (by omega) rfl (by have := (hpn k h1k hk).2; omega) ?_
      refine x_iconst (pc := 40) dX5_countLines_40 ?_
      refine x_iadd (pc := 41) dX5_countLines_41 ?_
      refine x_is (pc := 42) dX5_countLines_42 (by assumption) (by omega) rfl (by have := (hpn k h1k hk).2; omega) ?_
      refine x_iinc (pc := 43) dX5_countLines_43 rfl (by decide) rfl ?_
      show Ex _ _ _ _ _ _ [_, _] _ _ _ _
      refine x_goto (pc := 46) (tgt := 10) dX5_countLines_46 (by decide) ?_
      exact ih (by omega) _ (by rw [lnF_s h1k]; exact ta2.uli) ((ff.up (by omega) (by omega)).up (by omega) (by omega))

set_option maxRecDepth 4000 in
theorem t_countLines {G : GL} {d : Nat} {hp : HP} {sz : Nat} (hz : 92 ≤ sz) {n : Nat} (hn : 1 ≤ n ∧ n ≤ 9) {pa ab be : Nat → Int} {pn : Nat → Nat} (hpn : ∀ j, 1 ≤ j → j < n → pa j = (pn j : Int) ∧ pn j < j) {li : Nat → Int} (ta : TrA hp pa li ab be n) : Ct G (d + 1) 0 0 mX5_countLines [vr 87] hp sz (Vd (fun h => TrA h pa (lnF pn (fun j => if j < 9 then 0 else li j) n) ab be n ∧ Fr hp h 89 89) sz) := by
  show Ex _ _ _ _ _ _ [vr 87, vu] _ _ _ _
  obtain ⟨P1, P2, P3, P4, P5, P6, P7, P8, P9⟩ := id ta
  have hob := ta.ob
  refine x_aload_n (pc := 0) dX5_countLines_0 rfl ?_
  refine x_gf (pc := 1) dX5_countLines_1 fX5_15 (by assumption) (by omega) ?_
  refine x_iconst (pc := 4) dX5_countLines_4 ?_
  refine x_q2 (pc := 5) dX5_countLines_5 wJ7_fill_53178 sJ7_fill_53178 kX5_28 (by decide) rfl (Nat.le_of_ble_eq_true rfl) (t_fill P7 (by omega) (by omega)) (fun h5 e5 => ?_)
  subst e5
  have ta1 := ta.uli (q := fun j => if j < 9 then (0 : Int) else li j)
  refine x_iconst (pc := 8) dX5_countLines_8 ?_
  refine x_istore_n (pc := 9) dX5_countLines_9 (by decide) rfl ?_
  show Ex _ _ _ _ _ _ [_, _] _ _ _ _
  exact k_lines (d := d) (hp0 := hp) hz hn hpn (fun h g1 g2 => ⟨rfl, rfl, g1, g2⟩) 1 (by omega) (Nat.le_refl _) _ ta1 (Fr.rf.up (by omega) (by omega))

def bpF (L : Nat → Int) (n : Nat) (v : Int) : Prop := (v = -1 ∧ ∀ j, j < n → L j ≤ 2) ∨ ∃ k : Nat, v = (k : Int) ∧ k < n ∧ 2 < L k ∧ ∀ j, j < k → L j ≤ 2

theorem k_branch {G : GL} {d sz : Nat} (hz : 92 ≤ sz) {n : Nat} (hn : 1 ≤ n ∧ n ≤ 9) {pa li ab be : Nat → Int} {hp : HP} (ta : TrA hp pa li ab be n) (hL : ∀ j, j < 9 → 0 ≤ li j ∧ li j ≤ 100) : ∀ k, k ≤ n → (∀ j, j < k → li j ≤ 2) → Ex G d 0 0 mX5_branchPost 2 [vr 87, vi k] [] hp sz (Vs (fun v h => h = hp ∧ ∃ w : Int, v = vi w ∧ bpF li n w) sz) := by
  refine down (fun hb => ?_) (fun k hk ih hb => ?_)
  · obtain ⟨P1, P2, P3, P4, P5, P6, P7, P8, P9⟩ := id ta
    have hob := ta.ob
    refine x_iload_n (pc := 2) dX5_branchPost_2 rfl ?_
    refine x_aload_n (pc := 3) dX5_branchPost_3 rfl ?_
    refine x_gf (pc := 4) dX5_branchPost_4 fX5_24 (by assumption) (by omega) ?_
    refine x_icmp_ge (pc := 7) (tgt := 28) dX5_branchPost_7 (by decide) (by omega) (by omega) (fun c7 => ?_) (fun c7 => ?_)
    · refine x_iconst (pc := 28) dX5_branchPost_28 ?_
      refine x_iret (pc := 29) dX5_branchPost_29 rfl ⟨_, rfl, rfl, rfl, _, rfl, Or.inl ⟨rfl, hb⟩⟩
    · exact absurd c7 (by omega)
  · obtain ⟨P1, P2, P3, P4, P5, P6, P7, P8, P9⟩ := id ta
    have hob := ta.ob
    refine x_iload_n (pc := 2) dX5_branchPost_2 rfl ?_
    refine x_aload_n (pc := 3) dX5_branchPost_3 rfl ?_
    refine x_gf (pc := 4) dX5_branchPost_4 fX5_24 (by assumption) (by omega) ?_
    refine x_icmp_ge (pc := 7) (tgt := 28) dX5_branchPost_7 (by decide) (by omega) (by omega) (fun c7 => ?_) (fun c7 => ?_)
    · exact absurd c7 (by omega)
    · refine x_aload_n (pc := 10) dX5_branchPost_10 rfl ?_
      refine x_gf (pc := 11) dX5_branchPost_11 fX5_15 (by assumption) (by omega) ?_
      refine x_iload_n (pc := 14) dX5_branchPost_14 rfl ?_
      refine x_il (pc := 15) dX5_branchPost_15 (by assumption) (by omega) rfl (by omega) ?_
      refine x_iconst (pc := 16) dX5_branchPost_16 ?_
      refine x_icmp_le (pc := 17) (tgt := 22) dX5_branchPost_17 (by decide) (by have := hL k (by omega); omega) (by omega) (fun c17 => ?_) (fun c17 => ?_)
      · refine x_iinc (pc := 22) dX5_branchPost_22 rfl (by decide) rfl ?_
        show Ex _ _ _ _ _ _ [_, _] _ _ _ _
        refine x_goto (pc := 25) (tgt := 2) dX5_branchPost_25 (by decide) ?_
        exact ih (fun j hj => by
          by_cases e : j = k
          · subst e; omega
          · exact hb j (by omega))
      · refine x_iload_n (pc := 20) dX5_branchPost_20 rfl ?_
        refine x_iret (pc := 21) dX5_branchPost_21 rfl ⟨_, rfl, rfl, rfl, _, rfl, Or.inr ⟨k, rfl, hk, by omega, hb⟩⟩

set_option maxRecDepth 4000 in
theorem t_branchPost {G : GL} {d : Nat} {hp : HP} {sz : Nat} (hz : 92 ≤ sz) {n : Nat} (hn : 1 ≤ n ∧ n ≤ 9) {pa li ab be : Nat → Int} (ta : TrA hp pa li ab be n) (hL : ∀ j, j < 9 → 0 ≤ li j ∧ li j ≤ 100) : Ct G d 0 0 mX5_branchPost [vr 87] hp sz (Vs (fun v h => h = hp ∧ ∃ w : Int, v = vi w ∧ bpF li n w) sz) := by
  show Ex _ _ _ _ _ _ [vr 87, vu] _ _ _ _
  refine x_iconst (pc := 0) dX5_branchPost_0 ?_
  refine x_istore_n (pc := 1) dX5_branchPost_1 (by decide) rfl ?_
  show Ex _ _ _ _ _ _ [_, _] _ _ _ _
  exact k_branch hz hn ta hL 0 (by omega) (fun j h => absurd h (Nat.not_lt_zero _))
