/-! trees are read -/
def lq (P : Nat) : Nat → Nat
  | 0 => P
  | k + 1 => lq P k / 10
def dg (P k : Nat) : Nat := lq P (k - 1) % 10
theorem lq_le (P : Nat) : ∀ k, lq P k ≤ P
  | 0 => Nat.le_refl _
  | k + 1 => by
    have := lq_le P k
    rw [lq]; omega
theorem lq_s {P k : Nat} (h : 1 ≤ k) : lq P k = lq P (k - 1) / 10 := by
  obtain ⟨j, rfl⟩ : ∃ j, k = j + 1 := ⟨k - 1, by omega⟩
  rw [Nat.add_sub_cancel]; rfl
def isTr (n P : Int) : Prop := 1 ≤ n ∧ n ≤ 9 ∧ 0 ≤ P ∧ (∀ k, 1 ≤ k → k < n.toNat → dg P.toNat k < k) ∧ lq P.toNat (n.toNat - 1) = 0
theorem tm10 (a : Nat) : ((a : Int)).tmod 10 = ((a % 10 : Nat) : Int) := rfl
theorem td10 (a : Nat) : ((a : Int)).tdiv 10 = ((a / 10 : Nat) : Int) := rfl
def TrA (h : HP) (pa li ab be : Nat → Int) (s : Int) : Prop := fld h 87 5 0 (vr 88) ∧ fld h 87 5 1 (vr 89) ∧ fld h 87 5 2 (vr 90) ∧ fld h 87 5 3 (vr 91) ∧ fld h 87 5 4 (vi s) ∧ h 88 = ar 0 9 pa ∧ h 89 = ar 0 9 li ∧ h 90 = ar 0 9 ab ∧ h 91 = ar 0 9 be
theorem TrA.ob {h : HP} {pa li ab be : Nat → Int} {s : Int} (t : TrA h pa li ab be s) : isob h 87 5 := t.1.ob
theorem TrA.keep {h h' : HP} {pa li ab be : Nat → Int} {s : Int} (t : TrA h pa li ab be s) (e : ∀ x, 87 ≤ x → x ≤ 91 → h' x = h x) : TrA h' pa li ab be s := by
  obtain ⟨p1, p2, p3, p4, p5, p6, p7, p8, p9⟩ := t
  exact ⟨p1.keep (e _ (by omega) (by omega)), p2.keep (e _ (by omega) (by omega)), p3.keep (e _ (by omega) (by omega)), p4.keep (e _ (by omega) (by omega)), p5.keep (e _ (by omega) (by omega)), (e _ (by omega) (by omega)).trans p6, (e _ (by omega) (by omega)).trans p7, (e _ (by omega) (by omega)).trans p8, (e _ (by omega) (by omega)).trans p9⟩
theorem TrA.pfs {h h' : HP} {pa li ab be : Nat → Int} {s s' : Int} (t : TrA h pa li ab be s) (e : pf h 87 5 4 (vi s') h') : TrA h' pa li ab be s' := by
  obtain ⟨p1, p2, p3, p4, p5, p6, p7, p8, p9⟩ := t
  exact ⟨e.2.2 _ _ (by omega) p1, e.2.2 _ _ (by omega) p2, e.2.2 _ _ (by omega) p3, e.2.2 _ _ (by omega) p4, e.2.1, (e.1 _ (by omega)).trans p6, (e.1 _ (by omega)).trans p7, (e.1 _ (by omega)).trans p8, (e.1 _ (by omega)).trans p9⟩
theorem TrA.upa {h : HP} {pa li ab be q : Nat → Int} {s : Int} (t : TrA h pa li ab be s) : TrA (up h 88 (ar 0 9 q)) q li ab be s := by
  obtain ⟨p1, p2, p3, p4, p5, p6, p7, p8, p9⟩ := t
  exact ⟨p1.keep (up_n _ _ (by omega)), p2.keep (up_n _ _ (by omega)), p3.keep (up_n _ _ (by omega)), p4.keep (up_n _ _ (by omega)), p5.keep (up_n _ _ (by omega)), up_s _ _ _, (up_n _ _ (by omega)).trans p7, (up_n _ _ (by omega)).trans p8, (up_n _ _ (by omega)).trans p9⟩

theorem k_read {G : GL} {d sz : Nat} (hz : 92 ≤ sz) {n P : Nat} (hn : 1 ≤ n ∧ n ≤ 9) (hP : P < 2147483648) {li ab be : Nat → Int} {hp0 : HP} {Q : Option AV → HP → Nat → Prop} (hyes : ∀ h pa, TrA h pa li ab be n → Fr hp0 h 87 88 → isTr n P → (∀ j, 1 ≤ j → j < n → pa j = (dg P j : Int)) → Q (some (vi 1)) h sz) (hno : ∀ h pa, TrA h pa li ab be n → Fr hp0 h 87 88 → ¬ isTr n P → Q (some (vi 0)) h sz) : ∀ k, k ≤ n → 1 ≤ k → ∀ hp pa, TrA hp pa li ab be n → Fr hp0 hp 87 88 → (∀ j, 1 ≤ j → j < k → pa j = (dg P j : Int) ∧ dg P j < j) → Ex G d 0 0 mX5_read 27 [vr 87, vi n, vi P, vi (lq P (k - 1) : Nat), vi k] [] hp sz Q := by
  refine down (fun h1k hp pa ta ff hd => ?_) (fun k hk ih h1k hp pa ta ff hd => ?_)
  · obtain ⟨P1, P2, P3, P4, P5, P6, P7, P8, P9⟩ := id ta
    have hob := ta.ob
    have hl1 := lq_le P (n - 1)
    refine x_iload (pc := 27) dX5_read_27 rfl ?_
    refine x_iload_n (pc := 29) dX5_read_29 rfl ?_
    refine x_icmp_ge (pc := 30) (tgt := 69) dX5_read_30 (by decide) (by omega) (by omega) (fun c30 => ?_) (fun c30 => ?_)
    · refine x_iload_n (pc := 69) dX5_read_69 rfl ?_
      refine x_if_ne (pc := 70) (tgt := 77) dX5_read_70 (by decide) (by omega) (fun c70 => ?_) (fun c70 => ?_)
      · refine x_iconst (pc := 77) dX5_read_77 ?_
        refine x_zret (pc := 78) dX5_read_78 rfl (by first | exact Or.inr rfl | exact Or.inl rfl) (by first | exact (hno _ pa ta ff (fun q => by have := q.2.2.2.2; rw [Int.toNat_natCast, Int.toNat_natCast] at this; omega)) | exact (hyes hp pa ta ff ⟨by omega, by omega, by omega, fun j h1 h2 => (hd j h1 (by omega)).2, by rw [Int.toNat_natCast, Int.toNat_natCast]; omega⟩ (fun j h1 h2 => (hd j h1 h2).1)))
      · refine x_iconst (pc := 73) dX5_read_73 ?_
        refine x_goto (pc := 74) (tgt := 78) dX5_read_74 (by decide) ?_
        refine x_zret (pc := 78) dX5_read_78 rfl (by first | exact Or.inr rfl | exact Or.inl rfl) (by first | exact (hno _ pa ta ff (fun q => by have := q.2.2.2.2; rw [Int.toNat_natCast, Int.toNat_natCast] at this; omega)) | exact (hyes hp pa ta ff ⟨by omega, by omega, by omega, fun j h1 h2 => (hd j h1 (by omega)).2, by rw [Int.toNat_natCast, Int.toNat_natCast]; omega⟩ (fun j h1 h2 => (hd j h1 h2).1)))
    · exact absurd c30 (by omega)
  · obtain ⟨P1, P2, P3, P4, P5, P6, P7, P8, P9⟩ := id ta
    have hob := ta.ob
    have hl1 := lq_le P (k - 1)
    refine x_iload (pc := 27) dX5_read_27 rfl ?_
    refine x_iload_n (pc := 29) dX5_read_29 rfl ?_
    refine x_icmp_ge (pc := 30) (tgt := 69) dX5_read_30 (by decide) (by omega) (by omega) (fun c30 => ?_) (fun c30 => ?_)
    · exact absurd c30 (by omega)
    · refine x_aload_n (pc := 33) dX5_read_33 rfl ?_
      refine x_gf (pc := 34) dX5_read_34 fX5_9 (by assumption) (by omega) ?_
      refine x_iload (pc := 37) dX5_read_37 rfl ?_
      refine x_iload_n (pc := 39) dX5_read_39 rfl ?_
      refine x_bipush (pc := 40) dX5_read_40 (by decide) ?_
      refine x_irem (pc := 42) dX5_read_42 (by omega) (by omega) ?_
      rw [tm10]
      refine x_is (pc := 43) dX5_read_43 (by assumption) (by omega) rfl (by omega) ?_
      have ta2 := ta.upa (q := up pa k ((lq P (k - 1) % 10 : Nat) : Int))
      obtain ⟨P1, P2, P3, P4, P5, P6, P7, P8, P9⟩ := id ta2
      refine x_aload_n (pc := 44) dX5_read_44 rfl ?_
      refine x_gf (pc := 45) dX5_read_45 fX5_9 (by assumption) (by omega) ?_
      refine x_iload (pc := 48) dX5_read_48 rfl ?_
      refine x_il (pc := 50) dX5_read_50 (by assumption) (by omega) rfl (by omega) ?_
      rw [up_s]
      refine x_iload (pc := 51) dX5_read_51 rfl ?_
      refine x_icmp_lt (pc := 53) (tgt := 58) dX5_read_53 (by decide) (by omega) (by omega) (fun c53 => ?_) (fun c53 => ?_)
      · refine x_iload_n (pc := 58) dX5_read_58 rfl ?_
        refine x_bipush (pc := 59) dX5_read_59 (by decide) ?_
        refine x_idiv (pc := 61) dX5_read_61 (by omega) (by omega) ?_
        rw [td10]
        refine x_istore_n (pc := 62) dX5_read_62 (by decide) rfl ?_
        show Ex _ _ _ _ _ _ [_, _, _, _, _] _ _ _ _
        refine x_iinc (pc := 63) dX5_read_63 rfl (by decide) rfl ?_
        show Ex _ _ _ _ _ _ [_, _, _, _, _] _ _ _ _
        refine x_goto (pc := 66) (tgt := 27) dX5_read_66 (by decide) ?_
        rw [show lq P (k - 1) / 10 = lq P (k + 1 - 1) from by rw [Nat.add_sub_cancel]; exact (lq_s h1k).symm]
        exact ih (by omega) _ _ ta2 (ff.up (by omega) (by omega)) (fun j h1 h2 => by
          by_cases e : j = k
          · subst e; exact ⟨up_s _ _ _, by unfold dg; omega⟩
          · rw [up_n _ _ e]; exact hd j h1 (by omega))
      · refine x_iconst (pc := 56) dX5_read_56 ?_
        refine x_zret (pc := 57) dX5_read_57 rfl (Or.inl rfl) (hno _ _ ta2 (ff.up (by omega) (by omega)) (fun q => by have := q.2.2.2.1 k (by omega) (by rw [Int.toNat_natCast]; omega); rw [Int.toNat_natCast] at this; unfold dg at this; omega))
