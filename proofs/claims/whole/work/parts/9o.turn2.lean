def pos (b : Bool) (k pl ix : Nat) : Nat := if b = true then k * 16 + pl * 4 + ix else k * 16 + ix * 4 + pl
theorem pos_rg {b : Bool} {k pl ix : Nat} (h1 : pl < 4) (h2 : ix < 4) : k * 16 ≤ pos b k pl ix ∧ pos b k pl ix < k * 16 + 16 := by
  unfold pos
  cases b <;> simp <;> omega
theorem pos_inj {b : Bool} {k pl ix pl' ix' : Nat} (h1 : pl < 4) (h2 : ix < 4) (h3 : pl' < 4) (h4 : ix' < 4) (h : pos b k pl ix = pos b k pl' ix') : pl = pl' ∧ ix = ix' := by
  unfold pos at h
  cases b <;> simp at h <;> omega
/-- the turned table, so far -/
def Tt (b : Bool) (k P m pl : Nat) (val : Nat → Nat → Int) (n0 n : Nat → Int) : Prop := (∀ place ix, place < 4 → ix < 4 → n (pos b k place ix) = if place < P ∧ (ix < m ∨ (ix = m ∧ place < pl)) then val place ix else 0) ∧ ∀ x, (x < k * 16 ∨ k * 16 + 16 ≤ x) → n x = n0 x
theorem Tt.put {b : Bool} {k P m pl : Nat} {val : Nat → Nat → Int} {n0 n : Nat → Int} (h : Tt b k P m pl val n0 n) (hP : pl < P) (hP4 : P ≤ 4) (hm : m < 4) : Tt b k P m (pl + 1) val n0 (up n (pos b k pl m) (val pl m)) := by
  refine ⟨fun place ix h1 h2 => ?_, fun x hx => ?_⟩
  · by_cases e : place = pl ∧ ix = m
    · rw [e.1, e.2, up_s, if_pos (by omega)]
    · rw [up_n _ _ (fun z => e (pos_inj h1 h2 (by omega) hm z)), h.1 place ix h1 h2]
      by_cases q : place < P ∧ (ix < m ∨ (ix = m ∧ place < pl))
      · rw [if_pos q, if_pos (by omega)]
      · rw [if_neg q, if_neg (by omega)]
  · have := pos_rg (b := b) (k := k) (show pl < 4 by omega) hm
    rw [up_n _ _ (by omega)]
    exact h.2 x hx
theorem Tt.next {b : Bool} {k P m : Nat} {val : Nat → Nat → Int} {n0 n : Nat → Int} (h : Tt b k P m P val n0 n) : Tt b k P (m + 1) 0 val n0 n := by
  refine ⟨fun place ix h1 h2 => ?_, h.2⟩
  rw [h.1 place ix h1 h2]
  by_cases q : place < P ∧ (ix < m ∨ (ix = m ∧ place < P))
  · rw [if_pos q, if_pos (by omega)]
  · rw [if_neg q, if_neg (by omega)]
theorem pos_t {k r c : Nat} {b : Bool} (h : bz b ≠ 0) : k * 16 + r * 4 + c = pos b k r c := by
  cases b
  · exact absurd rfl h
  · rfl
theorem pos_f {k r c : Nat} {b : Bool} (h : bz b = 0) : k * 16 + c * 4 + r = pos b k r c := by
  cases b
  · rfl
  · exact absurd h (by decide)

theorem k_pt2 {G : GL} {d : Nat} {sz p N : Nat} (hz : 92 ≤ sz) (hP : isP p) {k f0 P c wd : Nat} {b : Bool} (hk : k < 7) (hP4 : P ≤ 4) {M : Nat → Nat → Int} {hd : Nat → Int} (hM : inP M p) (hRf : Rf wd c M hd) (hc4 : c ≤ 4) (hwd : wd ≤ 8) (hfp : f0 + P ≤ wd) (hfree : nf hd wd ≤ 4) {val : Nat → Nat → Int} (hval : ∀ g, g < wd → hd g = -1 → ∀ pl, pl < P → val pl (nf hd g) = rst p M hd (f0 + pl) g) {s n0 : Nat → Int} {w : Nat} {Q : Option AV → HP → Nat → Prop} {g0 : Nat} (hg0 : g0 < wd) (hgf : hd g0 = -1) (hnl : nf hd g0 < 4) : ∀ pl, pl ≤ P → ∀ (hp : HP) (n : Nat → Int) (v8 : AV), ClsA hp p N → Lay hp 26 s n w → RowsA hp 29 p M hd c wd → Tt b k P (nf hd g0) pl val n0 n → (∀ h n1, ClsA h p N → Lay h 26 s n1 w → RowsA h 29 p M hd c wd → Fr hp h 26 28 → Tt b k P (nf hd g0) P val n0 n1 → ∀ v8, Ex G (d + 2) 0 0 mX6_putTurned 107 [vr 0, vi k, vi (bz b), vi f0, vi P, vi (nf hd g0 : Nat), vi g0, vi P, v8] [] h sz Q) → Ex G (d + 2) 0 0 mX6_putTurned 44 [vr 0, vi k, vi (bz b), vi f0, vi P, vi (nf hd g0 : Nat), vi g0, vi pl, v8] [] hp sz Q := by
  refine down (fun hp n v8 C L RR tt hq => ?_) (fun pl hpl ih hp n v8 C L RR tt hq => ?_)
  · obtain ⟨C0, C1, C2, C3, C4, C5, C6, C7, C8, C9, g, gA, gB⟩ := id C
    have hob := C0.ob
    have hoL := L.ob
    have hoR := RR.ob
    have fW : fld hp 29 3 4 (vi wd) := by obtain ⟨g9, σ9, z⟩ := RR; exact z.2.2.2.2.1
    refine x_iload (pc := 44) dX6_putTurned_44 rfl ?_
    refine x_iload (pc := 46) dX6_putTurned_46 rfl ?_
    refine x_icmp_ge (pc := 48) (tgt := 107) dX6_putTurned_48 (by decide) (by omega) (by omega) (fun c48 => ?_) (fun c48 => ?_)
    · exact hq hp n C L RR Fr.rf tt _
    · exact absurd c48 (by omega)
  · obtain ⟨C0, C1, C2, C3, C4, C5, C6, C7, C8, C9, g, gA, gB⟩ := id C
    have hob := C0.ob
    have hoL := L.ob
    have hoR := RR.ob
    have fW : fld hp 29 3 4 (vi wd) := by obtain ⟨g9, σ9, z⟩ := RR; exact z.2.2.2.2.1
    refine x_iload (pc := 44) dX6_putTurned_44 rfl ?_
    refine x_iload (pc := 46) dX6_putTurned_46 rfl ?_
    refine x_icmp_ge (pc := 48) (tgt := 107) dX6_putTurned_48 (by decide) (by omega) (by omega) (fun c48 => ?_) (fun c48 => ?_)
    · exact absurd c48 (by omega)
    · refine x_aload_n (pc := 51) dX6_putTurned_51 rfl ?_
      refine x_gf (pc := 52) dX6_putTurned_52 fX6_45 (by assumption) (by omega) ?_
      refine x_iload_n (pc := 55) dX6_putTurned_55 rfl ?_
      refine x_iload (pc := 56) dX6_putTurned_56 rfl ?_
      refine x_iadd (pc := 58) dX6_putTurned_58 ?_
      rw [show (f0 : Int) + (pl : Int) = ((f0 + pl : Nat) : Int) by omega]
      refine x_iload (pc := 59) dX6_putTurned_59 rfl ?_
      refine x_w2 (pc := 61) dX6_putTurned_61 wX3_rest iX3_rest kX6_250 (by decide) rfl (Nat.le_of_ble_eq_true rfl) hoR (by omega) (t_rst RR (by omega) (i := f0 + pl) (j := g0) (by omega) (by omega) (hRf.hr hc4 _ (by omega)) hM hP) ?_
      refine x_istore (pc := 64) dX6_putTurned_64 (by decide) rfl ?_
      show Ex _ _ _ _ _ _ [_, _, _, _, _, _, _, _, _] _ _ _ _
      refine x_iload_n (pc := 66) dX6_putTurned_66 rfl ?_
      refine x_if_eq (pc := 67) (tgt := 87) dX6_putTurned_67 (by decide) (bz_rg _) (fun c67 => ?_) (fun c67 => ?_)
      · refine x_aload_n (pc := 87) dX6_putTurned_87 rfl ?_
        refine x_gf (pc := 88) dX6_putTurned_88 fX6_36 (by assumption) (by omega) ?_
        refine x_iload_n (pc := 91) dX6_putTurned_91 rfl ?_
        refine x_iload (pc := 92) dX6_putTurned_92 rfl ?_
        refine x_iload (pc := 94) dX6_putTurned_94 rfl ?_
        refine x_iload (pc := 96) dX6_putTurned_96 rfl ?_
        refine x_p4 (pc := 98) dX6_putTurned_98 wX0_put iX0_put kX6_109 (by decide) rfl (Nat.le_of_ble_eq_true rfl) hoL (by omega) (t_put L (by omega) (k := k) (r := nf hd g0) (c := pl) hk hnl (by omega)) (fun h98 e98 => ?_)
        refine x_iinc (pc := 101) dX6_putTurned_101 rfl (by decide) rfl ?_
        show Ex _ _ _ _ _ _ [_, _, _, _, _, _, _, _, _] _ _ _ _
        refine x_goto (pc := 104) (tgt := 44) dX6_putTurned_104 (by decide) ?_
        first
          | (rw [pos_t c67, ← hval g0 hg0 hgf pl hpl] at e81
             subst e81
             exact ih _ _ _ (C.keep (up_n _ _ (by omega)) (up_n _ _ (by omega))) (L.upn) (RR.keep (fun x h1 h2 => up_n _ _ (by omega))) (tt.put hpl hP4 hnl) (fun h n1 C1 l1 r1 f1 t1 v8 => hq h n1 C1 l1 r1 ((Fr.rf.up (by omega) (by omega)).tr f1) t1 v8))
          | (rw [pos_f c67, ← hval g0 hg0 hgf pl hpl] at e98
             subst e98
             exact ih _ _ _ (C.keep (up_n _ _ (by omega)) (up_n _ _ (by omega))) (L.upn) (RR.keep (fun x h1 h2 => up_n _ _ (by omega))) (tt.put hpl hP4 hnl) (fun h n1 C1 l1 r1 f1 t1 v8 => hq h n1 C1 l1 r1 ((Fr.rf.up (by omega) (by omega)).tr f1) t1 v8))
      · refine x_aload_n (pc := 70) dX6_putTurned_70 rfl ?_
        refine x_gf (pc := 71) dX6_putTurned_71 fX6_36 (by assumption) (by omega) ?_
        refine x_iload_n (pc := 74) dX6_putTurned_74 rfl ?_
        refine x_iload (pc := 75) dX6_putTurned_75 rfl ?_
        refine x_iload (pc := 77) dX6_putTurned_77 rfl ?_
        refine x_iload (pc := 79) dX6_putTurned_79 rfl ?_
        refine x_p4 (pc := 81) dX6_putTurned_81 wX0_put iX0_put kX6_109 (by decide) rfl (Nat.le_of_ble_eq_true rfl) hoL (by omega) (t_put L (by omega) (k := k) (r := pl) (c := nf hd g0) hk (by omega) hnl) (fun h81 e81 => ?_)
        refine x_goto (pc := 84) (tgt := 101) dX6_putTurned_84 (by decide) ?_
        refine x_iinc (pc := 101) dX6_putTurned_101 rfl (by decide) rfl ?_
        show Ex _ _ _ _ _ _ [_, _, _, _, _, _, _, _, _] _ _ _ _
        refine x_goto (pc := 104) (tgt := 44) dX6_putTurned_104 (by decide) ?_
        first
          | (rw [pos_t c67, ← hval g0 hg0 hgf pl hpl] at e81
             subst e81
             exact ih _ _ _ (C.keep (up_n _ _ (by omega)) (up_n _ _ (by omega))) (L.upn) (RR.keep (fun x h1 h2 => up_n _ _ (by omega))) (tt.put hpl hP4 hnl) (fun h n1 C1 l1 r1 f1 t1 v8 => hq h n1 C1 l1 r1 ((Fr.rf.up (by omega) (by omega)).tr f1) t1 v8))
          | (rw [pos_f c67, ← hval g0 hg0 hgf pl hpl] at e98
             subst e98
             exact ih _ _ _ (C.keep (up_n _ _ (by omega)) (up_n _ _ (by omega))) (L.upn) (RR.keep (fun x h1 h2 => up_n _ _ (by omega))) (tt.put hpl hP4 hnl) (fun h n1 C1 l1 r1 f1 t1 v8 => hq h n1 C1 l1 r1 ((Fr.rf.up (by omega) (by omega)).tr f1) t1 v8))

theorem k_pt1 {G : GL} {d : Nat} {sz p N : Nat} (hz : 92 ≤ sz) (hP : isP p) {k f0 P c wd : Nat} {b : Bool} (hk : k < 7) (hP4 : P ≤ 4) {M : Nat → Nat → Int} {hd : Nat → Int} (hM : inP M p) (hRf : Rf wd c M hd) (hc4 : c ≤ 4) (hwd : wd ≤ 8) (hfp : f0 + P ≤ wd) (hfree : nf hd wd ≤ 4) {val : Nat → Nat → Int} (hval : ∀ g, g < wd → hd g = -1 → ∀ pl, pl < P → val pl (nf hd g) = rst p M hd (f0 + pl) g) {s n0 : Nat → Int} {w : Nat} {Q : Option AV → HP → Nat → Prop} : ∀ g0, g0 ≤ wd → ∀ (hp : HP) (n : Nat → Int) (v7 v8 : AV), ClsA hp p N → Lay hp 26 s n w → RowsA hp 29 p M hd c wd → Tt b k P (nf hd g0) 0 val n0 n → (∀ h n1, ClsA h p N → Lay h 26 s n1 w → RowsA h 29 p M hd c wd → Fr hp h 26 28 → Tt b k P (nf hd wd) 0 val n0 n1 → Q none h sz) → Ex G (d + 2) 0 0 mX6_putTurned 14 [vr 0, vi k, vi (bz b), vi f0, vi P, vi (nf hd g0 : Nat), vi g0, v7, v8] [] hp sz Q := by
  refine down (fun hp n v7 v8 C L RR tt hq => ?_) (fun g0 hg0 ih hp n v7 v8 C L RR tt hq => ?_)
  · obtain ⟨C0, C1, C2, C3, C4, C5, C6, C7, C8, C9, g, gA, gB⟩ := id C
    have hob := C0.ob
    have hoL := L.ob
    have hoR := RR.ob
    have fW : fld hp 29 3 4 (vi wd) := by obtain ⟨g9, σ9, z⟩ := RR; exact z.2.2.2.2.1
    refine x_iload (pc := 14) dX6_putTurned_14 rfl ?_
    refine x_aload_n (pc := 16) dX6_putTurned_16 rfl ?_
    refine x_gf (pc := 17) dX6_putTurned_17 fX6_45 (by assumption) (by omega) ?_
    refine x_gn (pc := 20) dX6_putTurned_20 fX6_244 (by assumption) (by omega) ?_
    refine x_icmp_ge (pc := 23) (tgt := 116) dX6_putTurned_23 (by decide) (by omega) (by omega) (fun c23 => ?_) (fun c23 => ?_)
    · refine x_vret (pc := 116) dX6_putTurned_116 rfl (hq hp n C L RR Fr.rf tt)
    · exact absurd c23 (by omega)
  · obtain ⟨C0, C1, C2, C3, C4, C5, C6, C7, C8, C9, g, gA, gB⟩ := id C
    have hob := C0.ob
    have hoL := L.ob
    have hoR := RR.ob
    have fW : fld hp 29 3 4 (vi wd) := by obtain ⟨g9, σ9, z⟩ := RR; exact z.2.2.2.2.1
    refine x_iload (pc := 14) dX6_putTurned_14 rfl ?_
    refine x_aload_n (pc := 16) dX6_putTurned_16 rfl ?_
    refine x_gf (pc := 17) dX6_putTurned_17 fX6_45 (by assumption) (by omega) ?_
    refine x_gn (pc := 20) dX6_putTurned_20 fX6_244 (by assumption) (by omega) ?_
    refine x_icmp_ge (pc := 23) (tgt := 116) dX6_putTurned_23 (by decide) (by omega) (by omega) (fun c23 => ?_) (fun c23 => ?_)
    · exact absurd c23 (by omega)
    · refine x_aload_n (pc := 26) dX6_putTurned_26 rfl ?_
      refine x_gf (pc := 27) dX6_putTurned_27 fX6_45 (by assumption) (by omega) ?_
      refine x_iload (pc := 30) dX6_putTurned_30 rfl ?_
      refine x_w1 (pc := 32) dX6_putTurned_32 wX3_isFree iX3_isFree kX6_247 (by decide) rfl (Nat.le_of_ble_eq_true rfl) hoR (by omega) (t_isFree RR (by omega) (by omega) (hRf.hr hc4 _ (by omega))) ?_
      refine x_if_ne (pc := 35) (tgt := 41) dX6_putTurned_35 (by decide) (bz_rg _) (fun c35 => ?_) (fun c35 => ?_)
      · have hgf := bz_n c35
        refine x_iconst (pc := 41) dX6_putTurned_41 ?_
        refine x_istore (pc := 42) dX6_putTurned_42 (by decide) rfl ?_
        show Ex _ _ _ _ _ _ [_, _, _, _, _, _, _, _, _] _ _ _ _
        have hmono := nf_mono hd (show g0 + 1 ≤ wd by omega)
        rw [nf_t hgf] at hmono
        refine k_pt2 (d := d) hz hP hk hP4 hM hRf hc4 hwd hfp hfree hval hg0 hgf (by omega) 0 (by omega) hp n _ C L RR tt (fun h1 n1 C1 l1 r1 f1 t1 v8 => ?_)
        refine x_iinc (pc := 107) dX6_putTurned_107 rfl (by decide) rfl ?_
        show Ex _ _ _ _ _ _ [_, _, _, _, _, _, _, _, _] _ _ _ _
        refine x_iinc (pc := 110) dX6_putTurned_110 rfl (by decide) rfl ?_
        show Ex _ _ _ _ _ _ [_, _, _, _, _, _, _, _, _] _ _ _ _
        refine x_goto (pc := 113) (tgt := 14) dX6_putTurned_113 (by decide) ?_
        have t2 := t1.next
        rw [show nf hd g0 + 1 = nf hd (g0 + 1) from (nf_t hgf).symm] at t2
        rw [show ((nf hd g0 : Nat) : Int) + 1 = ((nf hd (g0 + 1) : Nat) : Int) from by rw [nf_t hgf]; rfl]
        exact ih h1 n1 _ _ C1 l1 r1 t2 (fun h n2 C2 l2 r2 f2 => hq h n2 C2 l2 r2 (f1.tr f2))
      · have hgf := bz_e c35
        refine x_goto (pc := 38) (tgt := 110) dX6_putTurned_38 (by decide) ?_
        refine x_iinc (pc := 110) dX6_putTurned_110 rfl (by decide) rfl ?_
        show Ex _ _ _ _ _ _ [_, _, _, _, _, _, _, _, _] _ _ _ _
        refine x_goto (pc := 113) (tgt := 14) dX6_putTurned_113 (by decide) ?_
        rw [show nf hd g0 = nf hd (g0 + 1) from (nf_f hgf).symm] at tt ⊢
        exact ih hp n _ _ C L RR tt hq

set_option maxRecDepth 4000 in
theorem t_putTurned {G : GL} {d : Nat} {sz p N : Nat} (hz : 92 ≤ sz) (hP : isP p) {k f0 P c wd : Nat} {b : Bool} (hk : k < 7) (hP4 : P ≤ 4) {M : Nat → Nat → Int} {hd : Nat → Int} (hM : inP M p) (hRf : Rf wd c M hd) (hc4 : c ≤ 4) (hwd : wd ≤ 8) (hfp : f0 + P ≤ wd) (hfree : nf hd wd ≤ 4) {val : Nat → Nat → Int} (hval : ∀ g, g < wd → hd g = -1 → ∀ pl, pl < P → val pl (nf hd g) = rst p M hd (f0 + pl) g)  {hp : HP} (C : ClsA hp p N) {s n : Nat → Int} {w : Nat} (L : Lay hp 26 s n w) (hw : w < 128) (RR : RowsA hp 29 p M hd c wd) : Ct G (d + 2) 0 0 mX6_putTurned [vr 0, vi k, vi (bz b), vi f0, vi P] hp sz (Vd (fun h => ClsA h p N ∧ Fr hp h 26 28 ∧ RowsA h 29 p M hd c wd ∧ ∃ n2, Lay h 26 s n2 (w ^^^ 2 ^ k) ∧ Tt b k P (nf hd wd) 0 val n n2) sz) := by
  show Ex _ _ _ _ _ _ [vr 0, vi k, vi (bz b), vi f0, vi P, vu, vu, vu, vu] _ _ _ _
  obtain ⟨C0, C1, C2, C3, C4, C5, C6, C7, C8, C9, g, gA, gB⟩ := id C
  have hob := C0.ob
  have hoL := L.ob
  have hoR := RR.ob
  refine x_aload_n (pc := 0) dX6_putTurned_0 rfl ?_
  refine x_gf (pc := 1) dX6_putTurned_1 fX6_36 (by assumption) (by omega) ?_
  refine x_iload_n (pc := 4) dX6_putTurned_4 rfl ?_
  refine x_p1 (pc := 5) dX6_putTurned_5 wX0_reverse iX0_reverse kX6_241 (by decide) rfl (Nat.le_of_ble_eq_true rfl) hoL (by omega) (t_reverse L (by omega) hk hw) (fun h5 e5 => ?_)
  obtain ⟨f5, n1, w1, L1, e1, e2⟩ := e5
  subst e1
  refine x_iconst (pc := 8) dX6_putTurned_8 ?_
  refine x_istore (pc := 9) dX6_putTurned_9 (by decide) rfl ?_
  show Ex _ _ _ _ _ _ [_, _, _, _, _, _, _, _, _] _ _ _ _
  refine x_iconst (pc := 11) dX6_putTurned_11 ?_
  refine x_istore (pc := 12) dX6_putTurned_12 (by decide) rfl ?_
  show Ex _ _ _ _ _ _ [_, _, _, _, _, _, _, _, _] _ _ _ _
  refine k_pt1 (d := d) (n0 := n) hz hP hk hP4 hM hRf hc4 hwd hfp hfree hval 0 (by omega) h5 n1 _ _ (C.keep (f5 0 (by omega)) (f5 1 (by omega))) L1 (RR.keep (fun x h1 h2 => f5 x (by omega))) ⟨fun place ix h1 h2 => ?_, fun x hx => ?_⟩ (fun h n2 C2 l2 r2 f2 t2 => ⟨rfl, rfl, C2, f5.tr f2, r2, n2, l2, t2⟩)
  · have := pos_rg (b := b) (k := k) h1 h2
    rw [e2, if_pos (by omega), if_neg (by show ¬ (place < P ∧ (ix < nf hd 0 ∨ (ix = nf hd 0 ∧ place < 0))); have : nf hd 0 = 0 := rfl; omega)]
  · rw [e2, if_neg (by omega)]
