/-! the constructor of SpanLoom -/
set_option maxRecDepth 4000 in
theorem k_cinit {G : GL} {d p N : Nat} {a b : Int} {Q : Option AV → HP → Nat → Prop} (hq : ∀ hp g, fld hp 0 6 0 (vi p) → fld hp 0 6 1 (vi N) → fld hp 0 6 2 (vr 1) → hp 1 = rr 4 8 g → (∀ j, j < 8 → g j = some (2 + 3 * j)) → (∀ j, j < 8 → Lay hp (2 + 3 * j) (fun _ => 0) (fun _ => 0) 0) → Ex G (d + 3) 66 792 mX6_init 62 [vr 0, vi a, vi b, vi (8 : Nat)] [] hp 26 Q) :
    ∀ l, l ≤ 8 → ∀ hp g, fld hp 0 6 0 (vi p) → fld hp 0 6 1 (vi N) → fld hp 0 6 2 (vr 1) → hp 1 = rr 4 8 g → (∀ j, j < l → g j = some (2 + 3 * j)) → (∀ j, j < l → Lay hp (2 + 3 * j) (fun _ => 0) (fun _ => 0) 0) → Ex G (d + 3) (3 * (8 - l) + 66) (123 * (8 - l) + 792) mX6_init 37 [vr 0, vi a, vi b, vi l] [] hp (2 + 3 * l) Q := by
  refine down (fun hp g F0 F1 F2 G1 G2 G3 => ?_) (fun l hl ih hp g F0 F1 F2 G1 G2 G3 => ?_)
  · have hob := F0.ob
    refine x_iload_n (pc := 37) dX6_init_37 rfl ?_
    refine x_bipush (pc := 38) dX6_init_38 (by decide) ?_
    refine x_icmp_ge (pc := 40) (tgt := 62) dX6_init_40 (by decide) (by omega) (by omega) (fun c40 => ?_) (fun c40 => ?_)
    · exact hq hp g F0 F1 F2 G1 G2 G3
    · exact absurd c40 (by omega)
  · have hob := F0.ob
    rw [show 3 * (8 - l) + 66 = 1 + (2 + (3 * (8 - (l + 1)) + 66)) by omega, show 123 * (8 - l) + 792 = 3 + (120 + (123 * (8 - (l + 1)) + 792)) by omega]
    refine x_iload_n (pc := 37) dX6_init_37 rfl ?_
    refine x_bipush (pc := 38) dX6_init_38 (by decide) ?_
    refine x_icmp_ge (pc := 40) (tgt := 62) dX6_init_40 (by decide) (by omega) (by omega) (fun c40 => ?_) (fun c40 => ?_)
    · exact absurd c40 (by omega)
    · refine x_aload_n (pc := 43) dX6_init_43 rfl ?_
      refine x_gf (pc := 44) dX6_init_44 fX6_31 (by assumption) (by omega) ?_
      refine x_iload_n (pc := 47) dX6_init_47 rfl ?_
      refine x_new (pc := 48) (c := 0) (n := 3) (rc := 2 + (3 * (8 - (l + 1)) + 66)) (rs := 120 + (123 * (8 - (l + 1)) + 792)) dX6_init_48 nX6_29 (by omega) ?_
      refine x_dupr (pc := 51) dX6_init_51 ?_
      refine x_callIN (pc := 52) (a := 2 + 3 * l) (as := []) (st := [vr (2 + 3 * l), vi l, vr 1]) (d' := d + 1) (rc := 3 * (8 - (l + 1)) + 66) (rs := 123 * (8 - (l + 1)) + 792) dX6_init_52 wX0_init rfl rfl iX0_init kX6_35 rfl (by decide) rfl (Nat.le_of_ble_eq_true rfl) (by omega) (n_Laying (d := d) (b := 2 + 3 * l) (sz := 2 + 3 * l + 1) ⟨_, up_s _ _ _⟩ (by omega) (by omega) ⟨_, up_s _ _ _, rfl⟩) (fun r52 h52 z52 q52 => ?_)
      obtain ⟨e1, e2, e52, L1, L2, L3, L4, L5⟩ := q52
      subst e1
      subst e2
      have ek : ∀ x, x < 2 + 3 * l → h52 x = hp x := fun x hx => (e52 x (by omega) (by omega)).trans (up_n _ _ (by omega))
      have G1b := (ek 1 (by omega)).trans G1
      obtain ⟨fs, hfs, -⟩ := id L1
      show Ex _ _ _ _ _ _ _ [vr (2 + 3 * l), vi l, vr 1] h52 (2 + 3 * l + 1 + 2) _
      refine x_as (pc := 55) dX6_init_55 G1b (by omega) rfl (by omega) (by omega) (by rw [hfs]; exact ⟨rfl, rfl⟩) ?_
      rw [show 2 + 3 * l + 1 + 2 = 2 + 3 * (l + 1) by omega]
      refine x_iinc (pc := 56) dX6_init_56 rfl (by decide) rfl ?_
      show Ex _ _ _ _ _ _ [_, _, _, _] _ _ _ _
      refine x_goto (pc := 59) (tgt := 37) dX6_init_59 (by decide) ?_
      exact ih _ _ ((F0.keep (ek 0 (by omega))).up (by omega)) ((F1.keep (ek 0 (by omega))).up (by omega)) ((F2.keep (ek 0 (by omega))).up (by omega)) (up_s _ _ _) (fun j hj => by
        by_cases e : j = l
        · subst e; exact up_s _ _ _
        · rw [up_n _ _ e]; exact G2 j (by omega)) (fun j hj => by
        by_cases e : j = l
        · subst e
          exact ⟨L1.up (by omega), L2.up (by omega), L3.up (by omega), (up_n _ _ (by omega)).trans L4, (up_n _ _ (by omega)).trans L5⟩
        · exact (G3 j (by omega)).keep (fun x h1 h2 => (up_n _ _ (by omega)).trans (ek x (by omega))))

set_option maxRecDepth 4000 in
theorem k_cfin {G : GL} {d p N : Nat} (hP : isP p) {a b : Int} {Q : Option AV → HP → Nat → Prop} (hq : ∀ h, CLI p N (fun _ _ => 0) (fun _ _ => 0) (fun _ => 0) h → Q none h 92) {hp : HP} {g : Nat → Option Nat} (F0 : fld hp 0 6 0 (vi p)) (F1 : fld hp 0 6 1 (vi N)) (F2 : fld hp 0 6 2 (vr 1)) (G1 : hp 1 = rr 4 8 g) (G2 : ∀ j, j < 8 → g j = some (2 + 3 * j)) (G3 : ∀ j, j < 8 → Lay hp (2 + 3 * j) (fun _ => 0) (fun _ => 0) 0) : Ex G (d + 3) 66 792 mX6_init 62 [vr 0, vi a, vi b, vi (8 : Nat)] [] hp 26 Q := by
  have hp2 := hP.le
  have hob := F0.ob
  have hin : inP (fun _ _ => 0) p := fun _ _ _ _ => ⟨by show (0 : Int) ≤ 0; omega, by show (0 : Int) < p; omega⟩
  refine x_aload_n (pc := 62) dX6_init_62 rfl ?_
  refine x_new (pc := 63) (c := 0) (n := 3) (rc := 65) (rs := 789) dX6_init_63 nX6_29 (by omega) ?_
  have F0n := F0.up (x := ob 0 (fun j => dfv (tyOf 0 j))) (show 0 ≠ 26 by decide)
  have F1n := F1.up (x := ob 0 (fun j => dfv (tyOf 0 j))) (show 0 ≠ 26 by decide)
  have F2n := F2.up (x := ob 0 (fun j => dfv (tyOf 0 j))) (show 0 ≠ 26 by decide)
  have hobn26 := F0n.ob
  refine x_dupr (pc := 66) dX6_init_66 ?_
  refine x_callIN (pc := 67) (a := 26) (as := []) (st := [vr 26, vr 0]) (d' := d + 1) (rc := 63) (rs := 669) dX6_init_67 wX0_init rfl rfl iX0_init kX6_35 rfl (by decide) rfl (Nat.le_of_ble_eq_true rfl) (by omega) (n_Laying (d := d) (b := 26) (sz := 27) ⟨_, up_s _ _ _⟩ (by omega) (by omega) ⟨_, up_s _ _ _, rfl⟩) (fun r67 h67 z67 q67 => ?_)
  obtain ⟨e1, e2, e67, L1, L2, L3, L4, L5⟩ := q67
  subst e1
  subst e2
  have ek26 : ∀ x, x < 26 → h67 x = hp x := fun x hx => (e67 x (by omega) (by omega)).trans (up_n _ _ (by omega))
  show Ex _ _ _ _ _ _ _ [vr 26, vr 0] h67 29 _
  refine x_pFv (pc := 70) dX6_init_70 pX6_36 rfl (fit_obj _ _) ((show isob hp 0 6 from F0.ob).elim fun fs hfs => ⟨fs, (ek26 0 (by omega)).trans hfs⟩) (by omega) (fun hp70 hf70 => ?_)
  have c26 : ∀ x, x < 26 → x ≠ 0 → hp70 x = hp x := fun x h1 h2 => (hf70.1 x h2).trans (ek26 x h1)
  have F0 := hf70.2.2 _ _ (by decide) (F0.keep (ek26 0 (by omega)))
  have F1 := hf70.2.2 _ _ (by decide) (F1.keep (ek26 0 (by omega)))
  have F2 := hf70.2.2 _ _ (by decide) (F2.keep (ek26 0 (by omega)))
  have F3 := hf70.2.1
  have Y26 : Lay h67 26 (fun _ => 0) (fun _ => 0) 0 := ⟨L1, L2, L3, L4, L5⟩
  have Y26 := Y26.keep (hp' := hp70) (fun x h1 h2 => hf70.1 x (by omega))
  have G3 : ∀ j, j < 8 → Lay hp70 (2 + 3 * j) (fun _ => 0) (fun _ => 0) 0 := fun j hj => (G3 j hj).keep (fun x h1 h2 => c26 x (by omega) (by omega))
  have G1 := (c26 1 (by omega) (by omega)).trans G1
  have hob := F0.ob
  refine x_aload_n (pc := 73) dX6_init_73 rfl ?_
  refine x_new (pc := 74) (c := 3) (n := 5) (rc := 62) (rs := 664) dX6_init_74 nX6_40 (by omega) ?_
  have F0n := F0.up (x := ob 3 (fun j => dfv (tyOf 3 j))) (show 0 ≠ 29 by decide)
  have F1n := F1.up (x := ob 3 (fun j => dfv (tyOf 3 j))) (show 0 ≠ 29 by decide)
  have F2n := F2.up (x := ob 3 (fun j => dfv (tyOf 3 j))) (show 0 ≠ 29 by decide)
  have F3n := F3.up (x := ob 3 (fun j => dfv (tyOf 3 j))) (show 0 ≠ 29 by decide)
  have hobn29 := F0n.ob
  refine x_dupr (pc := 77) dX6_init_77 ?_
  refine x_aload_n (pc := 78) dX6_init_78 rfl ?_
  refine x_gf (pc := 79) dX6_init_79 fX6_13 (by assumption) (by omega) ?_
  refine x_callI (pc := 82) (a := 29) (as := [vi p]) (st := [vr 29, vr 0]) (d' := d + 1) (rc := 56) (rs := 620) dX6_init_82 wX3_init rfl rfl iX3_init kX6_42 rfl (by decide) rfl (Nat.le_of_ble_eq_true rfl) (by omega) (n_Rows (d := d) (b := 29) ⟨_, up_s _ _ _⟩ rfl (by omega) ⟨_, up_s _ _ _, rfl⟩ ⟨_, up_s _ _ _, rfl⟩) (fun r82 h82 z82 q82 => ?_)
  obtain ⟨e1, e2, e82, R29⟩ := q82
  subst e1
  subst e2
  have ek29 : ∀ x, x < 29 → h82 x = hp70 x := fun x hx => (e82 x (by omega) (by omega)).trans (up_n _ _ (by omega))
  show Ex _ _ _ _ _ _ _ [vr 29, vr 0] h82 36 _
  refine x_pFv (pc := 85) dX6_init_85 pX6_45 rfl (fit_obj _ _) ((show isob hp70 0 6 from F0.ob).elim fun fs hfs => ⟨fs, (ek29 0 (by omega)).trans hfs⟩) (by omega) (fun hp85 hf85 => ?_)
  have c29 : ∀ x, x < 29 → x ≠ 0 → hp85 x = hp70 x := fun x h1 h2 => (hf85.1 x h2).trans (ek29 x h1)
  have F0 := hf85.2.2 _ _ (by decide) (F0.keep (ek29 0 (by omega)))
  have F1 := hf85.2.2 _ _ (by decide) (F1.keep (ek29 0 (by omega)))
  have F2 := hf85.2.2 _ _ (by decide) (F2.keep (ek29 0 (by omega)))
  have F3 := hf85.2.2 _ _ (by decide) (F3.keep (ek29 0 (by omega)))
  have F4 := hf85.2.1
  have Y26 := Y26.keep (fun x h1 h2 => c29 x (by omega) (by omega))
  have R29 := R29.keep (hp' := hp85) (fun x h1 h2 => hf85.1 x (by omega))
  have G3 : ∀ j, j < 8 → Lay hp85 (2 + 3 * j) (fun _ => 0) (fun _ => 0) 0 := fun j hj => (G3 j hj).keep (fun x h1 h2 => c29 x (by omega) (by omega))
  have G1 := (c29 1 (by omega) (by omega)).trans G1
  have hob := F0.ob
  refine x_aload_n (pc := 88) dX6_init_88 rfl ?_
  refine x_new (pc := 89) (c := 2) (n := 7) (rc := 55) (rs := 613) dX6_init_89 nX6_49 (by omega) ?_
  have F0n := F0.up (x := ob 2 (fun j => dfv (tyOf 2 j))) (show 0 ≠ 36 by decide)
  have F1n := F1.up (x := ob 2 (fun j => dfv (tyOf 2 j))) (show 0 ≠ 36 by decide)
  have F2n := F2.up (x := ob 2 (fun j => dfv (tyOf 2 j))) (show 0 ≠ 36 by decide)
  have F3n := F3.up (x := ob 2 (fun j => dfv (tyOf 2 j))) (show 0 ≠ 36 by decide)
  have F4n := F4.up (x := ob 2 (fun j => dfv (tyOf 2 j))) (show 0 ≠ 36 by decide)
  have hobn36 := F0n.ob
  refine x_dupr (pc := 92) dX6_init_92 ?_
  refine x_aload_n (pc := 93) dX6_init_93 rfl ?_
  refine x_gf (pc := 94) dX6_init_94 fX6_13 (by assumption) (by omega) ?_
  refine x_aload_n (pc := 97) dX6_init_97 rfl ?_
  refine x_gf (pc := 98) dX6_init_98 fX6_26 (by assumption) (by omega) ?_
  refine x_callI (pc := 101) (a := 36) (as := [vi p, vi N]) (st := [vr 36, vr 0]) (d' := d + 2) (rc := 16) (rs := 307) dX6_init_101 wX2_init rfl rfl iX2_init kX6_51 rfl (by decide) rfl (Nat.le_of_ble_eq_true rfl) (by omega) (n_Parting (d := d) hP ⟨_, up_s _ _ _⟩) (fun r101 h101 z101 q101 => ?_)
  obtain ⟨e1, e2, e101, Z36⟩ := q101
  subst e1
  subst e2
  have ek36 : ∀ x, x < 36 → h101 x = hp85 x := fun x hx => (e101 x hx).trans (up_n _ _ (by omega))
  show Ex _ _ _ _ _ _ _ [vr 36, vr 0] h101 76 _
  refine x_pFv (pc := 104) dX6_init_104 pX6_54 rfl (fit_obj _ _) ((show isob hp85 0 6 from F0.ob).elim fun fs hfs => ⟨fs, (ek36 0 (by omega)).trans hfs⟩) (by omega) (fun hp104 hf104 => ?_)
  have c36 : ∀ x, x < 36 → x ≠ 0 → hp104 x = hp85 x := fun x h1 h2 => (hf104.1 x h2).trans (ek36 x h1)
  have F0 := hf104.2.2 _ _ (by decide) (F0.keep (ek36 0 (by omega)))
  have F1 := hf104.2.2 _ _ (by decide) (F1.keep (ek36 0 (by omega)))
  have F2 := hf104.2.2 _ _ (by decide) (F2.keep (ek36 0 (by omega)))
  have F3 := hf104.2.2 _ _ (by decide) (F3.keep (ek36 0 (by omega)))
  have F4 := hf104.2.2 _ _ (by decide) (F4.keep (ek36 0 (by omega)))
  have F5 := hf104.2.1
  have Y26 := Y26.keep (fun x h1 h2 => c36 x (by omega) (by omega))
  have R29 := R29.keep (fun x h1 h2 => c36 x (by omega) (by omega))
  have Z36 := Z36.keep (h' := hp104) (fun x h1 h2 => hf104.1 x (by omega))
  have G3 : ∀ j, j < 8 → Lay hp104 (2 + 3 * j) (fun _ => 0) (fun _ => 0) 0 := fun j hj => (G3 j hj).keep (fun x h1 h2 => c36 x (by omega) (by omega))
  have G1 := (c36 1 (by omega) (by omega)).trans G1
  have hob := F0.ob
  refine x_aload_n (pc := 107) dX6_init_107 rfl ?_
  refine x_new (pc := 108) (c := 4) (n := 3) (rc := 15) (rs := 304) dX6_init_108 nX6_58 (by omega) ?_
  have F0n := F0.up (x := ob 4 (fun j => dfv (tyOf 4 j))) (show 0 ≠ 76 by decide)
  have F1n := F1.up (x := ob 4 (fun j => dfv (tyOf 4 j))) (show 0 ≠ 76 by decide)
  have F2n := F2.up (x := ob 4 (fun j => dfv (tyOf 4 j))) (show 0 ≠ 76 by decide)
  have F3n := F3.up (x := ob 4 (fun j => dfv (tyOf 4 j))) (show 0 ≠ 76 by decide)
  have F4n := F4.up (x := ob 4 (fun j => dfv (tyOf 4 j))) (show 0 ≠ 76 by decide)
  have F5n := F5.up (x := ob 4 (fun j => dfv (tyOf 4 j))) (show 0 ≠ 76 by decide)
  have hobn76 := F0n.ob
  refine x_dupr (pc := 111) dX6_init_111 ?_
  refine x_callIN (pc := 112) (a := 76) (as := []) (st := [vr 76, vr 0]) (d' := d + 1) (rc := 13) (rs := 240) dX6_init_112 wX4_init rfl rfl iX4_init kX6_60 rfl (by decide) rfl (Nat.le_of_ble_eq_true rfl) (by omega) (n_Spans (d := d) (b := 76) (sz := 77) ⟨_, up_s _ _ _⟩ (by omega) (by omega) ⟨_, up_s _ _ _, rfl⟩) (fun r112 h112 z112 q112 => ?_)
  obtain ⟨e1, e2, e112, S761, S762, S763, S764, S765⟩ := q112
  subst e1
  subst e2
  have ek76 : ∀ x, x < 76 → h112 x = hp104 x := fun x hx => (e112 x (by omega) (by omega)).trans (up_n _ _ (by omega))
  show Ex _ _ _ _ _ _ _ [vr 76, vr 0] h112 79 _
  refine x_pFv (pc := 115) dX6_init_115 pX6_61 rfl (fit_obj _ _) ((show isob hp104 0 6 from F0.ob).elim fun fs hfs => ⟨fs, (ek76 0 (by omega)).trans hfs⟩) (by omega) (fun hp115 hf115 => ?_)
  have c76 : ∀ x, x < 76 → x ≠ 0 → hp115 x = hp104 x := fun x h1 h2 => (hf115.1 x h2).trans (ek76 x h1)
  have F0 := hf115.2.2 _ _ (by decide) (F0.keep (ek76 0 (by omega)))
  have F1 := hf115.2.2 _ _ (by decide) (F1.keep (ek76 0 (by omega)))
  have F2 := hf115.2.2 _ _ (by decide) (F2.keep (ek76 0 (by omega)))
  have F3 := hf115.2.2 _ _ (by decide) (F3.keep (ek76 0 (by omega)))
  have F4 := hf115.2.2 _ _ (by decide) (F4.keep (ek76 0 (by omega)))
  have F5 := hf115.2.2 _ _ (by decide) (F5.keep (ek76 0 (by omega)))
  have F6 := hf115.2.1
  have Y26 := Y26.keep (fun x h1 h2 => c76 x (by omega) (by omega))
  have R29 := R29.keep (fun x h1 h2 => c76 x (by omega) (by omega))
  have Z36 := Z36.keep (fun x h1 h2 => c76 x (by omega) (by omega))
  have Y76 : SpA h112 76 (fun _ => 0) (fun _ => 0) 0 := ⟨S761, S762, S763, S764, S765⟩
  have Y76 := Y76.keep (hp' := hp115) (fun x h1 h2 => hf115.1 x (by omega))
  have G3 : ∀ j, j < 8 → Lay hp115 (2 + 3 * j) (fun _ => 0) (fun _ => 0) 0 := fun j hj => (G3 j hj).keep (fun x h1 h2 => c76 x (by omega) (by omega))
  have G1 := (c76 1 (by omega) (by omega)).trans G1
  have hob := F0.ob
  refine x_aload_n (pc := 118) dX6_init_118 rfl ?_
  refine x_new (pc := 119) (c := 4) (n := 3) (rc := 12) (rs := 237) dX6_init_119 nX6_58 (by omega) ?_
  have F0n := F0.up (x := ob 4 (fun j => dfv (tyOf 4 j))) (show 0 ≠ 79 by decide)
  have F1n := F1.up (x := ob 4 (fun j => dfv (tyOf 4 j))) (show 0 ≠ 79 by decide)
  have F2n := F2.up (x := ob 4 (fun j => dfv (tyOf 4 j))) (show 0 ≠ 79 by decide)
  have F3n := F3.up (x := ob 4 (fun j => dfv (tyOf 4 j))) (show 0 ≠ 79 by decide)
  have F4n := F4.up (x := ob 4 (fun j => dfv (tyOf 4 j))) (show 0 ≠ 79 by decide)
  have F5n := F5.up (x := ob 4 (fun j => dfv (tyOf 4 j))) (show 0 ≠ 79 by decide)
  have F6n := F6.up (x := ob 4 (fun j => dfv (tyOf 4 j))) (show 0 ≠ 79 by decide)
  have hobn79 := F0n.ob
  refine x_dupr (pc := 122) dX6_init_122 ?_
  refine x_callIN (pc := 123) (a := 79) (as := []) (st := [vr 79, vr 0]) (d' := d + 1) (rc := 10) (rs := 173) dX6_init_123 wX4_init rfl rfl iX4_init kX6_60 rfl (by decide) rfl (Nat.le_of_ble_eq_true rfl) (by omega) (n_Spans (d := d) (b := 79) (sz := 80) ⟨_, up_s _ _ _⟩ (by omega) (by omega) ⟨_, up_s _ _ _, rfl⟩) (fun r123 h123 z123 q123 => ?_)
  obtain ⟨e1, e2, e123, S791, S792, S793, S794, S795⟩ := q123
  subst e1
  subst e2
  have ek79 : ∀ x, x < 79 → h123 x = hp115 x := fun x hx => (e123 x (by omega) (by omega)).trans (up_n _ _ (by omega))
  show Ex _ _ _ _ _ _ _ [vr 79, vr 0] h123 82 _
  refine x_pFv (pc := 126) dX6_init_126 pX6_65 rfl (fit_obj _ _) ((show isob hp115 0 6 from F0.ob).elim fun fs hfs => ⟨fs, (ek79 0 (by omega)).trans hfs⟩) (by omega) (fun hp126 hf126 => ?_)
  have c79 : ∀ x, x < 79 → x ≠ 0 → hp126 x = hp115 x := fun x h1 h2 => (hf126.1 x h2).trans (ek79 x h1)
  have F0 := hf126.2.2 _ _ (by decide) (F0.keep (ek79 0 (by omega)))
  have F1 := hf126.2.2 _ _ (by decide) (F1.keep (ek79 0 (by omega)))
  have F2 := hf126.2.2 _ _ (by decide) (F2.keep (ek79 0 (by omega)))
  have F3 := hf126.2.2 _ _ (by decide) (F3.keep (ek79 0 (by omega)))
  have F4 := hf126.2.2 _ _ (by decide) (F4.keep (ek79 0 (by omega)))
  have F5 := hf126.2.2 _ _ (by decide) (F5.keep (ek79 0 (by omega)))
  have F6 := hf126.2.2 _ _ (by decide) (F6.keep (ek79 0 (by omega)))
  have F7 := hf126.2.1
  have Y26 := Y26.keep (fun x h1 h2 => c79 x (by omega) (by omega))
  have R29 := R29.keep (fun x h1 h2 => c79 x (by omega) (by omega))
  have Z36 := Z36.keep (fun x h1 h2 => c79 x (by omega) (by omega))
  have Y76 := Y76.keep (fun x h1 h2 => c79 x (by omega) (by omega))
  have Y79 : SpA h123 79 (fun _ => 0) (fun _ => 0) 0 := ⟨S791, S792, S793, S794, S795⟩
  have Y79 := Y79.keep (hp' := hp126) (fun x h1 h2 => hf126.1 x (by omega))
  have G3 : ∀ j, j < 8 → Lay hp126 (2 + 3 * j) (fun _ => 0) (fun _ => 0) 0 := fun j hj => (G3 j hj).keep (fun x h1 h2 => c79 x (by omega) (by omega))
  have G1 := (c79 1 (by omega) (by omega)).trans G1
  have hob := F0.ob
  refine x_aload_n (pc := 129) dX6_init_129 rfl ?_
  refine x_new (pc := 130) (c := 1) (n := 4) (rc := 9) (rs := 169) dX6_init_130 nX6_68 (by omega) ?_
  have F0n := F0.up (x := ob 1 (fun j => dfv (tyOf 1 j))) (show 0 ≠ 82 by decide)
  have F1n := F1.up (x := ob 1 (fun j => dfv (tyOf 1 j))) (show 0 ≠ 82 by decide)
  have F2n := F2.up (x := ob 1 (fun j => dfv (tyOf 1 j))) (show 0 ≠ 82 by decide)
  have F3n := F3.up (x := ob 1 (fun j => dfv (tyOf 1 j))) (show 0 ≠ 82 by decide)
  have F4n := F4.up (x := ob 1 (fun j => dfv (tyOf 1 j))) (show 0 ≠ 82 by decide)
  have F5n := F5.up (x := ob 1 (fun j => dfv (tyOf 1 j))) (show 0 ≠ 82 by decide)
  have F6n := F6.up (x := ob 1 (fun j => dfv (tyOf 1 j))) (show 0 ≠ 82 by decide)
  have F7n := F7.up (x := ob 1 (fun j => dfv (tyOf 1 j))) (show 0 ≠ 82 by decide)
  have hobn82 := F0n.ob
  refine x_dupr (pc := 133) dX6_init_133 ?_
  refine x_callIN (pc := 134) (a := 82) (as := []) (st := [vr 82, vr 0]) (d' := d + 1) (rc := 5) (rs := 41) dX6_init_134 wX1_init rfl rfl iX1_init kX6_70 rfl (by decide) rfl (Nat.le_of_ble_eq_true rfl) (by omega) (n_Pairing (d := d) (b := 82) (sz := 83) ⟨_, up_s _ _ _⟩ (by omega) (by omega)) (fun r134 h134 z134 q134 => ?_)
  obtain ⟨e1, e2, e134, P1, P2, P3, P4, P5, P6, P7, P8⟩ := q134
  subst e1
  subst e2
  have ek82 : ∀ x, x < 82 → h134 x = hp126 x := fun x hx => (e134 x (by omega) (by omega)).trans (up_n _ _ (by omega))
  show Ex _ _ _ _ _ _ _ [vr 82, vr 0] h134 87 _
  refine x_pFv (pc := 137) dX6_init_137 pX6_71 rfl (fit_obj _ _) ((show isob hp126 0 6 from F0.ob).elim fun fs hfs => ⟨fs, (ek82 0 (by omega)).trans hfs⟩) (by omega) (fun hp137 hf137 => ?_)
  have c82 : ∀ x, x < 82 → x ≠ 0 → hp137 x = hp126 x := fun x h1 h2 => (hf137.1 x h2).trans (ek82 x h1)
  have F0 := hf137.2.2 _ _ (by decide) (F0.keep (ek82 0 (by omega)))
  have F1 := hf137.2.2 _ _ (by decide) (F1.keep (ek82 0 (by omega)))
  have F2 := hf137.2.2 _ _ (by decide) (F2.keep (ek82 0 (by omega)))
  have F3 := hf137.2.2 _ _ (by decide) (F3.keep (ek82 0 (by omega)))
  have F4 := hf137.2.2 _ _ (by decide) (F4.keep (ek82 0 (by omega)))
  have F5 := hf137.2.2 _ _ (by decide) (F5.keep (ek82 0 (by omega)))
  have F6 := hf137.2.2 _ _ (by decide) (F6.keep (ek82 0 (by omega)))
  have F7 := hf137.2.2 _ _ (by decide) (F7.keep (ek82 0 (by omega)))
  have F8 := hf137.2.1
  have Y26 := Y26.keep (fun x h1 h2 => c82 x (by omega) (by omega))
  have R29 := R29.keep (fun x h1 h2 => c82 x (by omega) (by omega))
  have Z36 := Z36.keep (fun x h1 h2 => c82 x (by omega) (by omega))
  have Y76 := Y76.keep (fun x h1 h2 => c82 x (by omega) (by omega))
  have Y79 := Y79.keep (fun x h1 h2 => c82 x (by omega) (by omega))
  have Y82 : PrA h134 (fun _ => 0) (fun _ => 0) (fun _ => 0) (fun _ => 0) := ⟨P1, P2, P3, P4, P5, P6, P7, P8⟩
  have Y82 := Y82.keep (h' := hp137) (fun x h1 h2 => hf137.1 x (by omega))
  have G3 : ∀ j, j < 8 → Lay hp137 (2 + 3 * j) (fun _ => 0) (fun _ => 0) 0 := fun j hj => (G3 j hj).keep (fun x h1 h2 => c82 x (by omega) (by omega))
  have G1 := (c82 1 (by omega) (by omega)).trans G1
  have hob := F0.ob
  refine x_aload_n (pc := 140) dX6_init_140 rfl ?_
  refine x_new (pc := 141) (c := 5) (n := 5) (rc := 4) (rs := 36) dX6_init_141 nX6_75 (by omega) ?_
  have F0n := F0.up (x := ob 5 (fun j => dfv (tyOf 5 j))) (show 0 ≠ 87 by decide)
  have F1n := F1.up (x := ob 5 (fun j => dfv (tyOf 5 j))) (show 0 ≠ 87 by decide)
  have F2n := F2.up (x := ob 5 (fun j => dfv (tyOf 5 j))) (show 0 ≠ 87 by decide)
  have F3n := F3.up (x := ob 5 (fun j => dfv (tyOf 5 j))) (show 0 ≠ 87 by decide)
  have F4n := F4.up (x := ob 5 (fun j => dfv (tyOf 5 j))) (show 0 ≠ 87 by decide)
  have F5n := F5.up (x := ob 5 (fun j => dfv (tyOf 5 j))) (show 0 ≠ 87 by decide)
  have F6n := F6.up (x := ob 5 (fun j => dfv (tyOf 5 j))) (show 0 ≠ 87 by decide)
  have F7n := F7.up (x := ob 5 (fun j => dfv (tyOf 5 j))) (show 0 ≠ 87 by decide)
  have F8n := F8.up (x := ob 5 (fun j => dfv (tyOf 5 j))) (show 0 ≠ 87 by decide)
  have hobn87 := F0n.ob
  refine x_dupr (pc := 144) dX6_init_144 ?_
  refine x_callIN (pc := 145) (a := 87) (as := []) (st := [vr 87, vr 0]) (d' := d + 1) (rc := 0) (rs := 0) dX6_init_145 wX5_init rfl rfl iX5_init kX6_77 rfl (by decide) rfl (Nat.le_of_ble_eq_true rfl) (by omega) (n_Tree (d := d) (b := 87) (sz := 88) ⟨_, up_s _ _ _⟩ (by omega) (by omega) ⟨_, up_s _ _ _, rfl⟩) (fun r145 h145 z145 q145 => ?_)
  obtain ⟨e1, e2, e145, T1, T2, T3, T4, T5, T6, T7, T8, T9⟩ := q145
  subst e1
  subst e2
  have ek87 : ∀ x, x < 87 → h145 x = hp137 x := fun x hx => (e145 x (by omega) (by omega)).trans (up_n _ _ (by omega))
  show Ex _ _ _ _ _ _ _ [vr 87, vr 0] h145 92 _
  refine x_pFv (pc := 148) dX6_init_148 pX6_78 rfl (fit_obj _ _) ((show isob hp137 0 6 from F0.ob).elim fun fs hfs => ⟨fs, (ek87 0 (by omega)).trans hfs⟩) (by omega) (fun hp148 hf148 => ?_)
  have c87 : ∀ x, x < 87 → x ≠ 0 → hp148 x = hp137 x := fun x h1 h2 => (hf148.1 x h2).trans (ek87 x h1)
  have F0 := hf148.2.2 _ _ (by decide) (F0.keep (ek87 0 (by omega)))
  have F1 := hf148.2.2 _ _ (by decide) (F1.keep (ek87 0 (by omega)))
  have F2 := hf148.2.2 _ _ (by decide) (F2.keep (ek87 0 (by omega)))
  have F3 := hf148.2.2 _ _ (by decide) (F3.keep (ek87 0 (by omega)))
  have F4 := hf148.2.2 _ _ (by decide) (F4.keep (ek87 0 (by omega)))
  have F5 := hf148.2.2 _ _ (by decide) (F5.keep (ek87 0 (by omega)))
  have F6 := hf148.2.2 _ _ (by decide) (F6.keep (ek87 0 (by omega)))
  have F7 := hf148.2.2 _ _ (by decide) (F7.keep (ek87 0 (by omega)))
  have F8 := hf148.2.2 _ _ (by decide) (F8.keep (ek87 0 (by omega)))
  have F9 := hf148.2.1
  have Y26 := Y26.keep (fun x h1 h2 => c87 x (by omega) (by omega))
  have R29 := R29.keep (fun x h1 h2 => c87 x (by omega) (by omega))
  have Z36 := Z36.keep (fun x h1 h2 => c87 x (by omega) (by omega))
  have Y76 := Y76.keep (fun x h1 h2 => c87 x (by omega) (by omega))
  have Y79 := Y79.keep (fun x h1 h2 => c87 x (by omega) (by omega))
  have Y82 := Y82.keep (fun x h1 h2 => c87 x (by omega) (by omega))
  have Y87 : TrA h145 (fun _ => 0) (fun _ => 0) (fun _ => 0) (fun _ => 0) 0 := ⟨T1, T2, T3, T4, T5, T6, T7, T8, T9⟩
  have Y87 := Y87.keep (h' := hp148) (fun x h1 h2 => hf148.1 x (by omega))
  have G3 : ∀ j, j < 8 → Lay hp148 (2 + 3 * j) (fun _ => 0) (fun _ => 0) 0 := fun j hj => (G3 j hj).keep (fun x h1 h2 => c87 x (by omega) (by omega))
  have G1 := (c87 1 (by omega) (by omega)).trans G1
  have hob := F0.ob
  refine x_vret (pc := 151) dX6_init_151 rfl (hq _ ⟨⟨F0, F1, F2, F3, F4, F5, F6, F7, F8, F9, g, G1, G2⟩, fun l hl => ⟨G3 l hl, by show 0 < 128; decide⟩, ⟨_, _, _, Y26⟩, ⟨_, _, _, _, R29, hin⟩, Z36, ⟨_, _, _, Y76⟩, ⟨_, _, _, Y79⟩, ⟨_, _, _, _, Y82⟩, _, _, _, _, _, Y87⟩)

theorem nN_ex (y : Int) : ∃ N : Nat, max 1 (min 8 y) = (N : Int) ∧ (1 ≤ N ∧ N ≤ 8) := ⟨(max 1 (min 8 y)).toNat, by omega, by omega⟩

set_option maxRecDepth 4000 in
theorem n_SpanLoom {G : GL} {d : Nat} {hp : HP} {p N : Nat} (ob0 : isob hp 0 6) {f : Nat → Int} (hX : hp 1000001 = ar 0 6 f) (hf : ∀ i, i < 6 → f i = prm i) {x : Int} (hx : -2147483648 ≤ x ∧ x < 2147483648) {y : Int} (hy : -2147483648 ≤ y ∧ y < 2147483648) (hP : isP p) (ep : gk x 6 = (p : Int)) (eN : max 1 (min 8 y) = (N : Int)) : Ct G (d + 3) 91 1784 mX6_init [vr 0, vi x, vi y] hp 1 (fun r h z => r = none ∧ z = 92 ∧ CLI p N (fun _ _ => 0) (fun _ _ => 0) (fun _ => 0) h) := by
  show Ex _ _ _ _ _ _ [vr 0, vi x, vi y, vu] _ _ _ _
  refine x_aload_n (pc := 0) dX6_init_0 rfl ?_
  refine x_objInit (pc := 1) dX6_init_1 kX6_3 oi_inst oi_code (by omega) (Nat.le_of_ble_eq_true rfl) ?_
  refine x_aload_n (pc := 4) dX6_init_4 rfl ?_
  refine x_iload_n (pc := 5) dX6_init_5 rfl ?_
  refine x_t1 (pc := 6) dX6_init_6 wX6_greatestPrime sX6_greatestPrime kX6_9 (by decide) rfl (Nat.le_of_ble_eq_true rfl) (t_gp (d := d + 2) hX hf hx) ?_
  rw [ep]
  refine x_pFv (pc := 9) dX6_init_9 pX6_13 rfl (fit_int _) ob0 (by omega) (fun hp9 hf9 => ?_)
  refine x_aload_n (pc := 12) dX6_init_12 rfl ?_
  refine x_iconst (pc := 13) dX6_init_13 ?_
  refine x_bipush (pc := 14) dX6_init_14 (by decide) ?_
  refine x_iload_n (pc := 16) dX6_init_16 rfl ?_
  refine x_t2 (pc := 17) dX6_init_17 wJ9_min_7cf53 sJ9_min_7cf53 kX6_17 (by decide) rfl (Nat.le_of_ble_eq_true rfl) (t_min (by omega) hy) ?_
  refine x_t2 (pc := 20) dX6_init_20 wJ9_max_7cf53 sJ9_max_7cf53 kX6_23 (by decide) rfl (Nat.le_of_ble_eq_true rfl) (t_max (by omega) (by omega)) ?_
  rw [eN]
  refine x_pFv (pc := 23) dX6_init_23 pX6_26 rfl (fit_int _) hf9.2.1.ob (by omega) (fun hp23 hf23 => ?_)
  refine x_aload_n (pc := 26) dX6_init_26 rfl ?_
  refine x_bipush (pc := 27) dX6_init_27 (by decide) ?_
  refine x_anew (pc := 29) (rc := 90) (rs := 1776) (n := 8) dX6_init_29 naX6_29 (by decide) (by omega) ?_
  have F0 := (hf23.2.2 _ _ (by decide) hf9.2.1).up (x := rr 4 (8 : Int).toNat (fun _ => none)) (show 0 ≠ 1 by decide)
  have F1 := hf23.2.1.up (x := rr 4 (8 : Int).toNat (fun _ => none)) (show 0 ≠ 1 by decide)
  refine x_pFv (pc := 32) dX6_init_32 pX6_31 rfl (fit_arr _ _) F0.ob (by omega) (fun hp32 hf32 => ?_)
  have F0 := hf32.2.2 _ _ (by decide) F0
  have F1 := hf32.2.2 _ _ (by decide) F1
  have F2 := hf32.2.1
  have G1 := (hf32.1 1 (by omega)).trans (up_s _ _ _)
  refine x_iconst (pc := 35) dX6_init_35 ?_
  refine x_istore_n (pc := 36) dX6_init_36 (by decide) rfl ?_
  show Ex _ _ _ _ _ _ [_, _, _, _] _ _ _ _
  exact k_cinit (p := p) (N := N) (fun hp g F0 F1 F2 G1 G2 G3 => k_cfin hP (fun h q => ⟨rfl, rfl, q⟩) F0 F1 F2 G1 G2 G3) 0 (by omega) _ (fun _ => none) F0 F1 F2 G1 (fun j hj => absurd hj (Nat.not_lt_zero _)) (fun j hj => absurd hj (Nat.not_lt_zero _))
