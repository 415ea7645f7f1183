/-- what turning leaves: rows M1 in least form, free places Kf, the tables of the two arrows -/
def TuR (p N l t z : Nat) (S T : Nat → Nat → Int) (W : Nat → Nat) (b : Bool) (hp h : HP) (v : AV) : Prop := ∃ (M1 : Nat → Nat → Int) (hd1 : Nat → Int) (k1 : Nat) (Kf : Nat → Nat), Rf (lx (szc S l) t + ry N (szc S l) t) k1 M1 hd1 ∧ inP M1 p ∧ k1 ≤ 4 ∧ (∀ v, Sp p k1 (lx (szc S l) t + ry N (szc S l) t) M1 v ↔ Sp p (szc S l t) (lx (szc S l) t + ry N (szc S l) t) (gat b (T l) t (lx (szc S l) t)) v) ∧ (∀ i, i < nf hd1 (lx (szc S l) t + ry N (szc S l) t) → Kf i < lx (szc S l) t + ry N (szc S l) t ∧ hd1 (Kf i) = -1 ∧ nf hd1 (Kf i) = i) ∧
  ((4 < lx (szc S l) t + ry N (szc S l) t - k1 ∧ v = vi (-1) ∧ LysA h S T W) ∨ (lx (szc S l) t + ry N (szc S l) t - k1 ≤ 4 ∧ v = vi ((lx (szc S l) t + ry N (szc S l) t - k1 : Nat) : Int) ∧ ∃ s3 n1 n2 n3 w3, LysA h (up S z s3) (up T z n3) (up W z w3) ∧ (∀ j, j < 8 → s3 j = if j = t then ((lx (szc S l) t + ry N (szc S l) t - k1 : Nat) : Int) else S l j) ∧ w3 = (W l ^^^ (if 0 < t then 2 ^ (t - 1) else 0)) ^^^ (if t + 1 < N then 2 ^ t else 0) ∧
    (if 0 < t then Tt b (t - 1) (lx (szc S l) t) (lx (szc S l) t + ry N (szc S l) t - k1) 0 (fun pl ix => rst p M1 hd1 (0 + pl) (Kf ix)) (T l) n1 else n1 = T l) ∧ (if t + 1 < N then Tt b t (ry N (szc S l) t) (lx (szc S l) t + ry N (szc S l) t - k1) 0 (fun pl ix => rst p M1 hd1 (lx (szc S l) t + pl) (Kf ix)) n1 n2 else n2 = n1) ∧ ∀ i, i < 112 → n3 i = n2 i))
theorem Ex.stk {G : GL} {d rc rs : Nat} {M : MD} {pc : Nat} {ls st : List AV} {hp : HP} {sz : Nat} {Q : Option AV → HP → Nat → Prop} {x y : Int} (e : x = y) (k : Ex G d rc rs M pc ls (vi x :: st) hp sz Q) : Ex G d rc rs M pc ls (vi y :: st) hp sz Q := e ▸ k
theorem val_rst {p wd f0 P : Nat} {M : Nat → Nat → Int} {hd : Nat → Int} {Kf : Nat → Nat} (hKf : ∀ i, i < nf hd wd → Kf i < wd ∧ hd (Kf i) = -1 ∧ nf hd (Kf i) = i) : ∀ g, g < wd → hd g = -1 → ∀ pl, pl < P → (fun pl ix => rst p M hd (f0 + pl) (Kf ix)) pl (nf hd g) = rst p M hd (f0 + pl) g := by
  intro g hg hgf pl _
  have hlt : nf hd g < nf hd wd := by
    have := nf_mono hd (show g + 1 ≤ wd by omega)
    rw [nf_t hgf] at this
    omega
  show rst p M hd (f0 + pl) (Kf (nf hd g)) = _
  rw [nf_inj (hKf _ hlt).2.1 hgf (hKf _ hlt).2.2]
theorem Sp_cgM {p c w : Nat} {M N' : Nat → Nat → Int} (h : ∀ r, r < c → ∀ j, j < w → M r j = N' r j) (v : Nat → Int) : Sp p c w M v ↔ Sp p c w N' v := by
  constructor
  · rintro ⟨a, ha⟩
    refine ⟨a, fun j hj => ?_⟩
    rw [sm_cg c (g := fun i => a i * M i j) (fun i hi => by rw [h i hi j hj])]
    exact ha j hj
  · rintro ⟨a, ha⟩
    refine ⟨a, fun j hj => ?_⟩
    rw [sm_cg c (g := fun i => a i * N' i j) (fun i hi => by rw [h i hi j hj])]
    exact ha j hj
theorem xor_lt {a k : Nat} (ha : a < 128) (hk : k < 7) : a ^^^ 2 ^ k < 128 := Nat.xor_lt_two_pow (n := 7) ha (Nat.lt_of_le_of_lt (Nat.pow_le_pow_right (by decide) (show k ≤ 6 by omega)) (by decide))

set_option maxRecDepth 4000 in
theorem k_turnLR {G : GL} {d : Nat} {hp : HP} {sz p N : Nat} (C : ClsA hp p N) (hz : 92 ≤ sz) (hN : 1 ≤ N ∧ N ≤ 8) (hP : isP p) {S T : Nat → Nat → Int} {W : Nat → Nat} (Ls : LysA hp S T W) (hS : inS S) (hT : ∀ l, l < 8 → inL (T l) p) (L26 : ∃ s n w, Lay hp 26 s n w) (RX : RwX hp 29 p) {l t z : Nat} (hl : l < 8) (ht : t < N) (hz8 : z < 8) (b : Bool) (t0 : 0 < t) (t1 : t + 1 < N) : Ex G (d + 4) 0 0 mX6_turn 75 [vr 0, vi l, vi t, vi z, vr (2 + 3 * l), vi (bz b), vu, vu] [] hp sz (Vs (fun v h => TuR p N l t z S T W b hp h v ∧ ClsA h p N ∧ Fr hp h 2 35 ∧ (∃ s n w, Lay h 26 s n w) ∧ RwX h 29 p) sz) := by
  have hst := szc_8 hS hl t (by omega)
  have hlx : lx (szc S l) t ≤ 4 := by unfold lx; split; exact szc_4 hS hl _; omega
  have hry : ry N (szc S l) t ≤ 4 := by unfold ry; split; exact szc_4 hS hl _; omega
  obtain ⟨s26, n26, w26, L26⟩ := L26
  obtain ⟨LA, hwA⟩ := Ls l hl
  obtain ⟨C0, C1, C2, C3, C4, C5, C6, C7, C8, C9, g, gA, gB⟩ := id C
  have hob := C0.ob
  refine x_aload_n (pc := 75) dX6_turn_75 rfl ?_
  refine x_aload (pc := 76) dX6_turn_76 rfl ?_
  refine x_iload_n (pc := 78) dX6_turn_78 rfl ?_
  refine x_iload (pc := 79) dX6_turn_79 rfl ?_
  refine x_p3 (pc := 81) dX6_turn_81 wX6_gatherBeside iX6_gatherBeside kX6_168 (by decide) rfl (Nat.le_of_ble_eq_true rfl) (by assumption) (by omega) (t_gather (d := d) C hz hN (by omega) ht (szc_8 hS hl) (hT l hl) LA RX) (fun h81 e81 => ?_)
  obtain ⟨f81, M0, hd0, RR, hM0, hd0m, gM⟩ := e81
  have Ca := C.keep (f81 0 (by omega)) (f81 1 (by omega))
  obtain ⟨C0, C1, C2, C3, C4, C5, C6, C7, C8, C9, g, gA, gB⟩ := id Ca
  have hoR := RR.ob
  refine x_aload_n (pc := 84) dX6_turn_84 rfl ?_
  refine x_gf (pc := 85) dX6_turn_85 fX6_45 (by assumption) (by omega) ?_
  refine x_p0 (pc := 88) dX6_turn_88 wX3_bringToLeast iX3_bringToLeast kX6_172 (by decide) rfl (Nat.le_of_ble_eq_true rfl) hoR (by omega) (t_bringR RR (by omega) hst.2 (by omega) hP hM0 hd0m) (fun h88 e88 => ?_)
  obtain ⟨f88, M1, hd1, k1, R1, hM1, hk1, hRf, hSp⟩ := e88
  have Cb := Ca.keep (f88 0 (by omega)) (f88 1 (by omega))
  obtain ⟨C0, C1, C2, C3, C4, C5, C6, C7, C8, C9, g, gA, gB⟩ := id Cb
  have hoR1 := R1.ob
  have Lsb := (Ls.kp (fun x h1 h2 => f81 x (by omega))).kp (fun x h1 h2 => f88 x (by omega))
  have hkw := hRf.1
  have hfr := hRf.free
  obtain ⟨Kf, hKf⟩ := nf_exF hd1 (lx (szc S l) t + ry N (szc S l) t)
  have hSp2 : ∀ v, Sp p k1 (lx (szc S l) t + ry N (szc S l) t) M1 v ↔ Sp p (szc S l t) (lx (szc S l) t + ry N (szc S l) t) (gat b (T l) t (lx (szc S l) t)) v := fun v => (hSp v).trans (Sp_cgM gM v)
  have Fb : Fr hp h88 29 35 := f81.tr f88
  have L26b : Lay h88 26 s26 n26 w26 := L26.keep (fun x h1 h2 => Fb x (by omega))
  refine x_aload_n (pc := 91) dX6_turn_91 rfl ?_
  refine x_gf (pc := 92) dX6_turn_92 fX6_45 (by assumption) (by omega) ?_
  refine x_w0 (pc := 95) dX6_turn_95 wX3_freeCount iX3_freeCount kX6_175 (by decide) rfl (Nat.le_of_ble_eq_true rfl) hoR1 (by omega) (t_freeCount R1 (by omega)) ?_
  rw [show ((lx (szc S l) t + ry N (szc S l) t : Nat) : Int) - (k1 : Int) = (((lx (szc S l) t + ry N (szc S l) t) - k1 : Nat) : Int) by omega]
  refine x_istore (pc := 98) dX6_turn_98 (by decide) rfl ?_
  show Ex _ _ _ _ _ _ [_, _, _, _, _, _, _, _] _ _ _ _
  refine x_iload (pc := 100) dX6_turn_100 rfl ?_
  refine x_iconst (pc := 102) dX6_turn_102 ?_
  refine x_icmp_le (pc := 103) (tgt := 108) dX6_turn_103 (by decide) (by omega) (by omega) (fun c103 => ?_) (fun c103 => ?_)
  · refine x_aload_n (pc := 108) dX6_turn_108 rfl ?_
    refine x_gf (pc := 109) dX6_turn_109 fX6_36 (by assumption) (by omega) ?_
    refine x_aload (pc := 112) dX6_turn_112 rfl ?_
    refine x_p1 (pc := 114) dX6_turn_114 wX0_copy iX0_copy kX6_144 (by decide) rfl (Nat.le_of_ble_eq_true rfl) L26b.ob (by omega) (t_copy L26b (by omega) (Lsb l hl).1 (by omega) (by omega)) (fun h114 e114 => ?_)
    obtain ⟨f114, s4, n4, L4, z4, z5⟩ := e114
    have Cc := Cb.keep (f114 0 (by omega)) (f114 1 (by omega))
    obtain ⟨C0, C1, C2, C3, C4, C5, C6, C7, C8, C9, g, gA, gB⟩ := id Cc
    have Lsc := Lsb.kp (fun x h1 h2 => f114 x (by omega))
    have R2 := R1.keep (hp' := h114) (fun x h1 h2 => f114 x (by omega))
    obtain ⟨X1, X2, X3, X4, X5⟩ := id L4
    have hwl := (Ls l hl).2
    refine x_aload_n (pc := 117) dX6_turn_117 rfl ?_
    refine x_gf (pc := 118) dX6_turn_118 fX6_36 (by assumption) (by omega) ?_
    refine x_gn (pc := 121) dX6_turn_121 fX6_95 (by assumption) (by omega) ?_
    refine x_iload_n (pc := 124) dX6_turn_124 rfl ?_
    refine x_iload (pc := 125) dX6_turn_125 rfl ?_
    refine x_is (pc := 127) dX6_turn_127 (by assumption) (by omega) rfl (by omega) ?_
    have L5 : Lay (up h114 27 (ar 0 8 (up s4 t (((lx (szc S l) t + ry N (szc S l) t) - k1 : Nat) : Int)))) 26 (up s4 t (((lx (szc S l) t + ry N (szc S l) t) - k1 : Nat) : Int)) n4 (W l) := ⟨X1.up (by omega), X2.up (by omega), X3.up (by omega), up_s _ _ _, (up_n _ _ (by omega)).trans X5⟩
    have Cd := Cc.keep (hp' := up h114 27 (ar 0 8 (up s4 t (((lx (szc S l) t + ry N (szc S l) t) - k1 : Nat) : Int)))) (up_n _ _ (by omega)) (up_n _ _ (by omega))
    have Lsd := Lsc.kp (h := up h114 27 (ar 0 8 (up s4 t (((lx (szc S l) t + ry N (szc S l) t) - k1 : Nat) : Int)))) (fun x h1 h2 => up_n _ _ (by omega))
    have R3 := R2.keep (hp' := up h114 27 (ar 0 8 (up s4 t (((lx (szc S l) t + ry N (szc S l) t) - k1 : Nat) : Int)))) (fun x h1 h2 => up_n _ _ (by omega))
    have Fd : Fr hp (up h114 27 (ar 0 8 (up s4 t (((lx (szc S l) t + ry N (szc S l) t) - k1 : Nat) : Int)))) 26 35 := fun x hx => (up_n _ _ (by omega)).trans ((f114 x (by omega)).trans (Fb x (by omega)))
    generalize up h114 27 (ar 0 8 (up s4 t (((lx (szc S l) t + ry N (szc S l) t) - k1 : Nat) : Int))) = hD at L5 Cd Lsd R3 Fd ⊢
    obtain ⟨C0, C1, C2, C3, C4, C5, C6, C7, C8, C9, g, gA, gB⟩ := id Cd
    have hob5 := C0.ob
    obtain ⟨LAd, hwd⟩ := Lsd l hl
    obtain ⟨Y1, Y2, Y3, Y4, Y5⟩ := id LAd
    rw [show 2 + 3 * l + 1 = 3 + 3 * l by omega] at Y1 Y4
    refine x_iload_n (pc := 128) dX6_turn_128 rfl ?_
    refine x_if_le (pc := 129) (tgt := 144) dX6_turn_129 (by decide) (by omega) (fun c129 => ?_) (fun c129 => ?_)
    · exact absurd c129 (by omega)
    · refine x_aload (pc := 132) dX6_turn_132 rfl ?_
      refine x_gn (pc := 134) dX6_turn_134 fX6_95 (by assumption) (by omega) ?_
      refine x_iload_n (pc := 137) dX6_turn_137 rfl ?_
      refine x_iconst (pc := 138) dX6_turn_138 ?_
      refine x_isub (pc := 139) dX6_turn_139 ?_
      refine x_il (pc := 140) (j := t - 1) dX6_turn_140 (by assumption) (by omega) (by omega) (by omega) ?_
      rw [(szc_8 hS hl (t - 1) (by omega)).1]
      refine x_goto (pc := 141) (tgt := 145) dX6_turn_141 (by decide) ?_
      rw [show ((szc S l (t - 1) : Nat) : Int) = ((lx (szc S l) t : Nat) : Int) from by unfold lx; rw [if_pos t0]]
      refine x_istore (pc := 145) dX6_turn_145 (by decide) rfl ?_
      show Ex _ _ _ _ _ _ [_, _, _, _, _, _, _, _] _ _ _ _
      refine x_aload_n (pc := 147) dX6_turn_147 rfl ?_
      refine x_iload_n (pc := 148) dX6_turn_148 rfl ?_
      refine x_iconst (pc := 149) dX6_turn_149 ?_
      refine x_isub (pc := 150) dX6_turn_150 ?_
      refine x_w1 (pc := 151) dX6_turn_151 wX6_isArrow iX6_isArrow kX6_151 (by decide) rfl (Nat.le_of_ble_eq_true rfl) hob5 (by omega) (t_isArrow Cd hz hN (by omega)) ?_
      refine x_if_eq (pc := 154) (tgt := 169) dX6_turn_154 (by decide) (bz_rg _) (fun c154 => ?_) (fun c154 => ?_)
      · exact absurd (bz_e c154) (by omega)
      · refine x_aload_n (pc := 157) dX6_turn_157 rfl ?_
        refine x_iload_n (pc := 158) dX6_turn_158 rfl ?_
        refine x_iconst (pc := 159) dX6_turn_159 ?_
        refine x_isub (pc := 160) dX6_turn_160 ?_
        rw [show (t : Int) - 1 = ((t - 1 : Nat) : Int) by omega]
        refine x_iload (pc := 161) dX6_turn_161 rfl ?_
        refine x_iconst (pc := 163) dX6_turn_163 ?_
        refine x_iload (pc := 164) dX6_turn_164 rfl ?_
        refine x_p4 (pc := 166) dX6_turn_166 wX6_putTurned iX6_putTurned kX6_179 (by decide) rfl (Nat.le_of_ble_eq_true rfl) hob5 (by omega) (t_putTurned (d := d + 1) (k := t - 1) (f0 := 0) (P := lx (szc S l) t) (b := b) (val := (fun pl ix => rst p M1 hd1 (0 + pl) (Kf ix))) hz hP (by omega) hlx hM1 hRf (by omega) (by omega) (by omega) (by omega) (val_rst (f0 := 0) hKf) Cd L5 hwl R3) (fun h166 e166 => ?_)
        obtain ⟨Ce, f166, R4, n6, L6, T6⟩ := e166
        have Lse := Lsd.kp (fun x h1 h2 => f166 x (by omega))
        obtain ⟨C0, C1, C2, C3, C4, C5, C6, C7, C8, C9, g, gA, gB⟩ := id Ce
        have hob6 := C0.ob
        obtain ⟨LAd, hwd⟩ := Lse l hl
        obtain ⟨Y1, Y2, Y3, Y4, Y5⟩ := id LAd
        rw [show 2 + 3 * l + 1 = 3 + 3 * l by omega] at Y1 Y4
        refine x_aload_n (pc := 169) dX6_turn_169 rfl ?_
        refine x_iload_n (pc := 170) dX6_turn_170 rfl ?_
        refine x_w1 (pc := 171) dX6_turn_171 wX6_isArrow iX6_isArrow kX6_151 (by decide) rfl (Nat.le_of_ble_eq_true rfl) hob6 (by omega) (t_isArrow Ce hz hN (by omega)) ?_
        refine x_if_eq (pc := 174) (tgt := 195) dX6_turn_174 (by decide) (bz_rg _) (fun c174 => ?_) (fun c174 => ?_)
        · exact absurd (bz_e c174) (by omega)
        · refine x_aload_n (pc := 177) dX6_turn_177 rfl ?_
          refine x_iload_n (pc := 178) dX6_turn_178 rfl ?_
          refine x_iload (pc := 179) dX6_turn_179 rfl ?_
          refine x_iload (pc := 181) dX6_turn_181 rfl ?_
          refine x_aload (pc := 183) dX6_turn_183 rfl ?_
          refine x_gn (pc := 185) dX6_turn_185 fX6_95 (by assumption) (by omega) ?_
          refine x_iload_n (pc := 188) dX6_turn_188 rfl ?_
          refine x_iconst (pc := 189) dX6_turn_189 ?_
          refine x_iadd (pc := 190) dX6_turn_190 ?_
          refine x_il (pc := 191) (j := t + 1) dX6_turn_191 (by assumption) (by omega) (by omega) (by omega) ?_
          rw [(szc_8 hS hl (t + 1) (by omega)).1, show ((szc S l (t + 1) : Nat) : Int) = ((ry N (szc S l) t : Nat) : Int) from by unfold ry; rw [if_pos t1]]
          refine x_p4 (pc := 192) dX6_turn_192 wX6_putTurned iX6_putTurned kX6_179 (by decide) rfl (Nat.le_of_ble_eq_true rfl) hob6 (by omega) (t_putTurned (d := d + 1) (k := t) (f0 := lx (szc S l) t) (P := ry N (szc S l) t) (b := b) (val := (fun pl ix => rst p M1 hd1 (lx (szc S l) t + pl) (Kf ix))) hz hP (by omega) hry hM1 hRf (by omega) (by omega) (by omega) (by omega) (val_rst (f0 := lx (szc S l) t) hKf) Ce L6 (xor_lt hwl (by omega)) R4) (fun h192 e192 => ?_)
          obtain ⟨Cf, f192, R5, n7, L7, T7⟩ := e192
          have Lsf := Lse.kp (fun x h1 h2 => f192 x (by omega))
          obtain ⟨C0, C1, C2, C3, C4, C5, C6, C7, C8, C9, g, gA, gB⟩ := id Cf
          refine x_aload_n (pc := 195) dX6_turn_195 rfl ?_
          refine x_gf (pc := 196) dX6_turn_196 fX6_31 (by assumption) (by omega) ?_
          refine x_iload_n (pc := 199) dX6_turn_199 rfl ?_
          refine x_al (pc := 200) dX6_turn_200 (by assumption) (by omega) rfl (by omega) (gB z hz8) ?_
          refine x_aload_n (pc := 201) dX6_turn_201 rfl ?_
          refine x_gf (pc := 202) dX6_turn_202 fX6_36 (by assumption) (by omega) ?_
          refine x_p1 (pc := 205) dX6_turn_205 wX0_copy iX0_copy kX6_144 (by decide) rfl (Nat.le_of_ble_eq_true rfl) (Lsf z hz8).1.ob (by omega) (t_copy (Lsf z hz8).1 (by omega) L7 (by omega) (by omega)) (fun h205 e205 => ?_)
          obtain ⟨f205, s8, n8, L8, z8, z9⟩ := e205
          refine x_iload (pc := 208) dX6_turn_208 rfl ?_
          refine x_iret (pc := 210) dX6_turn_210 rfl (by
              refine ⟨_, rfl, rfl, ⟨M1, hd1, k1, Kf, hRf, hM1, (by omega), hSp2, hKf, Or.inr ⟨by omega, rfl, s8, (fun x => if x < 112 then n6 x else T l x), (fun x => if x < 112 then n7 x else T l x), n8, (W l ^^^ 2 ^ (t - 1)) ^^^ 2 ^ t, Lsf.one hz8 f205 L8 (xor_lt (xor_lt hwl (by omega)) (by omega)), fun j hj => ?_, ?_, ?_, ?_, fun i hi => ?_⟩⟩, Cf.keep (f205 0 (by omega)) (f205 1 (by omega)), fun x hx => (f205 x (by omega)).trans ((f192 x (by omega)).trans ((f166 x (by omega)).trans (Fd x (by omega)))), ⟨_, _, _, L7.keep (fun x h1 h2 => f205 x (by omega))⟩, ⟨M1, hd1, _, _, R5.keep (fun x h1 h2 => f205 x (by omega)), hM1⟩⟩
              · rw [z8 j hj]
                by_cases e : j = t
                · rw [e, up_s, if_pos rfl]
                · rw [up_n _ _ e, if_neg e, z4 j hj]
              · rw [if_pos t0, if_pos t1]
              · rw [if_pos t0]
                rw [hfr] at T6
                refine ⟨fun place ix h1 h2 => ?_, fun x hx => ?_⟩
                · have := pos_rg (b := b) (k := t - 1) h1 h2
                  exact (if_pos (show pos b (t - 1) place ix < 112 by omega)).trans (T6.1 place ix h1 h2)
                · by_cases e : x < 112
                  · exact (if_pos e).trans ((T6.2 x hx).trans (z5 x e))
                  · exact if_neg e
              · rw [if_pos t1]
                rw [hfr] at T7
                refine ⟨fun place ix h1 h2 => ?_, fun x hx => ?_⟩
                · have := pos_rg (b := b) (k := t) h1 h2
                  exact (if_pos (show pos b t place ix < 112 by omega)).trans (T7.1 place ix h1 h2)
                · by_cases e : x < 112
                  · exact (if_pos e).trans ((T7.2 x hx).trans (if_pos e).symm)
                  · exact (if_neg e).trans (if_neg e).symm
              · exact (z9 i hi).trans (if_pos hi).symm)
  · refine x_iconst (pc := 106) dX6_turn_106 ?_
    refine x_iret (pc := 107) dX6_turn_107 rfl ⟨_, rfl, rfl, ⟨M1, hd1, k1, Kf, hRf, hM1, (by omega), hSp2, hKf, Or.inl ⟨by omega, rfl, Lsb⟩⟩, Cb, Fb.wide (by omega) (by omega), ⟨_, _, _, L26b⟩, ⟨M1, hd1, _, _, R1, hM1⟩⟩

set_option maxRecDepth 4000 in
theorem k_turnL {G : GL} {d : Nat} {hp : HP} {sz p N : Nat} (C : ClsA hp p N) (hz : 92 ≤ sz) (hN : 1 ≤ N ∧ N ≤ 8) (hP : isP p) {S T : Nat → Nat → Int} {W : Nat → Nat} (Ls : LysA hp S T W) (hS : inS S) (hT : ∀ l, l < 8 → inL (T l) p) (L26 : ∃ s n w, Lay hp 26 s n w) (RX : RwX hp 29 p) {l t z : Nat} (hl : l < 8) (ht : t < N) (hz8 : z < 8) (b : Bool) (t0 : 0 < t) (t1 : ¬ t + 1 < N) : Ex G (d + 4) 0 0 mX6_turn 75 [vr 0, vi l, vi t, vi z, vr (2 + 3 * l), vi (bz b), vu, vu] [] hp sz (Vs (fun v h => TuR p N l t z S T W b hp h v ∧ ClsA h p N ∧ Fr hp h 2 35 ∧ (∃ s n w, Lay h 26 s n w) ∧ RwX h 29 p) sz) := by
  have hst := szc_8 hS hl t (by omega)
  have hlx : lx (szc S l) t ≤ 4 := by unfold lx; split; exact szc_4 hS hl _; omega
  have hry : ry N (szc S l) t ≤ 4 := by unfold ry; split; exact szc_4 hS hl _; omega
  obtain ⟨s26, n26, w26, L26⟩ := L26
  obtain ⟨LA, hwA⟩ := Ls l hl
  obtain ⟨C0, C1, C2, C3, C4, C5, C6, C7, C8, C9, g, gA, gB⟩ := id C
  have hob := C0.ob
  refine x_aload_n (pc := 75) dX6_turn_75 rfl ?_
  refine x_aload (pc := 76) dX6_turn_76 rfl ?_
  refine x_iload_n (pc := 78) dX6_turn_78 rfl ?_
  refine x_iload (pc := 79) dX6_turn_79 rfl ?_
  refine x_p3 (pc := 81) dX6_turn_81 wX6_gatherBeside iX6_gatherBeside kX6_168 (by decide) rfl (Nat.le_of_ble_eq_true rfl) (by assumption) (by omega) (t_gather (d := d) C hz hN (by omega) ht (szc_8 hS hl) (hT l hl) LA RX) (fun h81 e81 => ?_)
  obtain ⟨f81, M0, hd0, RR, hM0, hd0m, gM⟩ := e81
  have Ca := C.keep (f81 0 (by omega)) (f81 1 (by omega))
  obtain ⟨C0, C1, C2, C3, C4, C5, C6, C7, C8, C9, g, gA, gB⟩ := id Ca
  have hoR := RR.ob
  refine x_aload_n (pc := 84) dX6_turn_84 rfl ?_
  refine x_gf (pc := 85) dX6_turn_85 fX6_45 (by assumption) (by omega) ?_
  refine x_p0 (pc := 88) dX6_turn_88 wX3_bringToLeast iX3_bringToLeast kX6_172 (by decide) rfl (Nat.le_of_ble_eq_true rfl) hoR (by omega) (t_bringR RR (by omega) hst.2 (by omega) hP hM0 hd0m) (fun h88 e88 => ?_)
  obtain ⟨f88, M1, hd1, k1, R1, hM1, hk1, hRf, hSp⟩ := e88
  have Cb := Ca.keep (f88 0 (by omega)) (f88 1 (by omega))
  obtain ⟨C0, C1, C2, C3, C4, C5, C6, C7, C8, C9, g, gA, gB⟩ := id Cb
  have hoR1 := R1.ob
  have Lsb := (Ls.kp (fun x h1 h2 => f81 x (by omega))).kp (fun x h1 h2 => f88 x (by omega))
  have hkw := hRf.1
  have hfr := hRf.free
  obtain ⟨Kf, hKf⟩ := nf_exF hd1 (lx (szc S l) t + ry N (szc S l) t)
  have hSp2 : ∀ v, Sp p k1 (lx (szc S l) t + ry N (szc S l) t) M1 v ↔ Sp p (szc S l t) (lx (szc S l) t + ry N (szc S l) t) (gat b (T l) t (lx (szc S l) t)) v := fun v => (hSp v).trans (Sp_cgM gM v)
  have Fb : Fr hp h88 29 35 := f81.tr f88
  have L26b : Lay h88 26 s26 n26 w26 := L26.keep (fun x h1 h2 => Fb x (by omega))
  refine x_aload_n (pc := 91) dX6_turn_91 rfl ?_
  refine x_gf (pc := 92) dX6_turn_92 fX6_45 (by assumption) (by omega) ?_
  refine x_w0 (pc := 95) dX6_turn_95 wX3_freeCount iX3_freeCount kX6_175 (by decide) rfl (Nat.le_of_ble_eq_true rfl) hoR1 (by omega) (t_freeCount R1 (by omega)) ?_
  rw [show ((lx (szc S l) t + ry N (szc S l) t : Nat) : Int) - (k1 : Int) = (((lx (szc S l) t + ry N (szc S l) t) - k1 : Nat) : Int) by omega]
  refine x_istore (pc := 98) dX6_turn_98 (by decide) rfl ?_
  show Ex _ _ _ _ _ _ [_, _, _, _, _, _, _, _] _ _ _ _
  refine x_iload (pc := 100) dX6_turn_100 rfl ?_
  refine x_iconst (pc := 102) dX6_turn_102 ?_
  refine x_icmp_le (pc := 103) (tgt := 108) dX6_turn_103 (by decide) (by omega) (by omega) (fun c103 => ?_) (fun c103 => ?_)
  · refine x_aload_n (pc := 108) dX6_turn_108 rfl ?_
    refine x_gf (pc := 109) dX6_turn_109 fX6_36 (by assumption) (by omega) ?_
    refine x_aload (pc := 112) dX6_turn_112 rfl ?_
    refine x_p1 (pc := 114) dX6_turn_114 wX0_copy iX0_copy kX6_144 (by decide) rfl (Nat.le_of_ble_eq_true rfl) L26b.ob (by omega) (t_copy L26b (by omega) (Lsb l hl).1 (by omega) (by omega)) (fun h114 e114 => ?_)
    obtain ⟨f114, s4, n4, L4, z4, z5⟩ := e114
    have Cc := Cb.keep (f114 0 (by omega)) (f114 1 (by omega))
    obtain ⟨C0, C1, C2, C3, C4, C5, C6, C7, C8, C9, g, gA, gB⟩ := id Cc
    have Lsc := Lsb.kp (fun x h1 h2 => f114 x (by omega))
    have R2 := R1.keep (hp' := h114) (fun x h1 h2 => f114 x (by omega))
    obtain ⟨X1, X2, X3, X4, X5⟩ := id L4
    have hwl := (Ls l hl).2
    refine x_aload_n (pc := 117) dX6_turn_117 rfl ?_
    refine x_gf (pc := 118) dX6_turn_118 fX6_36 (by assumption) (by omega) ?_
    refine x_gn (pc := 121) dX6_turn_121 fX6_95 (by assumption) (by omega) ?_
    refine x_iload_n (pc := 124) dX6_turn_124 rfl ?_
    refine x_iload (pc := 125) dX6_turn_125 rfl ?_
    refine x_is (pc := 127) dX6_turn_127 (by assumption) (by omega) rfl (by omega) ?_
    have L5 : Lay (up h114 27 (ar 0 8 (up s4 t (((lx (szc S l) t + ry N (szc S l) t) - k1 : Nat) : Int)))) 26 (up s4 t (((lx (szc S l) t + ry N (szc S l) t) - k1 : Nat) : Int)) n4 (W l) := ⟨X1.up (by omega), X2.up (by omega), X3.up (by omega), up_s _ _ _, (up_n _ _ (by omega)).trans X5⟩
    have Cd := Cc.keep (hp' := up h114 27 (ar 0 8 (up s4 t (((lx (szc S l) t + ry N (szc S l) t) - k1 : Nat) : Int)))) (up_n _ _ (by omega)) (up_n _ _ (by omega))
    have Lsd := Lsc.kp (h := up h114 27 (ar 0 8 (up s4 t (((lx (szc S l) t + ry N (szc S l) t) - k1 : Nat) : Int)))) (fun x h1 h2 => up_n _ _ (by omega))
    have R3 := R2.keep (hp' := up h114 27 (ar 0 8 (up s4 t (((lx (szc S l) t + ry N (szc S l) t) - k1 : Nat) : Int)))) (fun x h1 h2 => up_n _ _ (by omega))
    have Fd : Fr hp (up h114 27 (ar 0 8 (up s4 t (((lx (szc S l) t + ry N (szc S l) t) - k1 : Nat) : Int)))) 26 35 := fun x hx => (up_n _ _ (by omega)).trans ((f114 x (by omega)).trans (Fb x (by omega)))
    generalize up h114 27 (ar 0 8 (up s4 t (((lx (szc S l) t + ry N (szc S l) t) - k1 : Nat) : Int))) = hD at L5 Cd Lsd R3 Fd ⊢
    obtain ⟨C0, C1, C2, C3, C4, C5, C6, C7, C8, C9, g, gA, gB⟩ := id Cd
    have hob5 := C0.ob
    obtain ⟨LAd, hwd⟩ := Lsd l hl
    obtain ⟨Y1, Y2, Y3, Y4, Y5⟩ := id LAd
    rw [show 2 + 3 * l + 1 = 3 + 3 * l by omega] at Y1 Y4
    refine x_iload_n (pc := 128) dX6_turn_128 rfl ?_
    refine x_if_le (pc := 129) (tgt := 144) dX6_turn_129 (by decide) (by omega) (fun c129 => ?_) (fun c129 => ?_)
    · exact absurd c129 (by omega)
    · refine x_aload (pc := 132) dX6_turn_132 rfl ?_
      refine x_gn (pc := 134) dX6_turn_134 fX6_95 (by assumption) (by omega) ?_
      refine x_iload_n (pc := 137) dX6_turn_137 rfl ?_
      refine x_iconst (pc := 138) dX6_turn_138 ?_
      refine x_isub (pc := 139) dX6_turn_139 ?_
      refine x_il (pc := 140) (j := t - 1) dX6_turn_140 (by assumption) (by omega) (by omega) (by omega) ?_
      rw [(szc_8 hS hl (t - 1) (by omega)).1]
      refine x_goto (pc := 141) (tgt := 145) dX6_turn_141 (by decide) ?_
      rw [show ((szc S l (t - 1) : Nat) : Int) = ((lx (szc S l) t : Nat) : Int) from by unfold lx; rw [if_pos t0]]
      refine x_istore (pc := 145) dX6_turn_145 (by decide) rfl ?_
      show Ex _ _ _ _ _ _ [_, _, _, _, _, _, _, _] _ _ _ _
      refine x_aload_n (pc := 147) dX6_turn_147 rfl ?_
      refine x_iload_n (pc := 148) dX6_turn_148 rfl ?_
      refine x_iconst (pc := 149) dX6_turn_149 ?_
      refine x_isub (pc := 150) dX6_turn_150 ?_
      refine x_w1 (pc := 151) dX6_turn_151 wX6_isArrow iX6_isArrow kX6_151 (by decide) rfl (Nat.le_of_ble_eq_true rfl) hob5 (by omega) (t_isArrow Cd hz hN (by omega)) ?_
      refine x_if_eq (pc := 154) (tgt := 169) dX6_turn_154 (by decide) (bz_rg _) (fun c154 => ?_) (fun c154 => ?_)
      · exact absurd (bz_e c154) (by omega)
      · refine x_aload_n (pc := 157) dX6_turn_157 rfl ?_
        refine x_iload_n (pc := 158) dX6_turn_158 rfl ?_
        refine x_iconst (pc := 159) dX6_turn_159 ?_
        refine x_isub (pc := 160) dX6_turn_160 ?_
        rw [show (t : Int) - 1 = ((t - 1 : Nat) : Int) by omega]
        refine x_iload (pc := 161) dX6_turn_161 rfl ?_
        refine x_iconst (pc := 163) dX6_turn_163 ?_
        refine x_iload (pc := 164) dX6_turn_164 rfl ?_
        refine x_p4 (pc := 166) dX6_turn_166 wX6_putTurned iX6_putTurned kX6_179 (by decide) rfl (Nat.le_of_ble_eq_true rfl) hob5 (by omega) (t_putTurned (d := d + 1) (k := t - 1) (f0 := 0) (P := lx (szc S l) t) (b := b) (val := (fun pl ix => rst p M1 hd1 (0 + pl) (Kf ix))) hz hP (by omega) hlx hM1 hRf (by omega) (by omega) (by omega) (by omega) (val_rst (f0 := 0) hKf) Cd L5 hwl R3) (fun h166 e166 => ?_)
        obtain ⟨Ce, f166, R4, n6, L6, T6⟩ := e166
        have Lse := Lsd.kp (fun x h1 h2 => f166 x (by omega))
        obtain ⟨C0, C1, C2, C3, C4, C5, C6, C7, C8, C9, g, gA, gB⟩ := id Ce
        have hob6 := C0.ob
        obtain ⟨LAd, hwd⟩ := Lse l hl
        obtain ⟨Y1, Y2, Y3, Y4, Y5⟩ := id LAd
        rw [show 2 + 3 * l + 1 = 3 + 3 * l by omega] at Y1 Y4
        refine x_aload_n (pc := 169) dX6_turn_169 rfl ?_
        refine x_iload_n (pc := 170) dX6_turn_170 rfl ?_
        refine x_w1 (pc := 171) dX6_turn_171 wX6_isArrow iX6_isArrow kX6_151 (by decide) rfl (Nat.le_of_ble_eq_true rfl) hob6 (by omega) (t_isArrow Ce hz hN (by omega)) ?_
        refine x_if_eq (pc := 174) (tgt := 195) dX6_turn_174 (by decide) (bz_rg _) (fun c174 => ?_) (fun c174 => ?_)
        · refine x_aload_n (pc := 195) dX6_turn_195 rfl ?_
          refine x_gf (pc := 196) dX6_turn_196 fX6_31 (by assumption) (by omega) ?_
          refine x_iload_n (pc := 199) dX6_turn_199 rfl ?_
          refine x_al (pc := 200) dX6_turn_200 (by assumption) (by omega) rfl (by omega) (gB z hz8) ?_
          refine x_aload_n (pc := 201) dX6_turn_201 rfl ?_
          refine x_gf (pc := 202) dX6_turn_202 fX6_36 (by assumption) (by omega) ?_
          refine x_p1 (pc := 205) dX6_turn_205 wX0_copy iX0_copy kX6_144 (by decide) rfl (Nat.le_of_ble_eq_true rfl) (Lse z hz8).1.ob (by omega) (t_copy (Lse z hz8).1 (by omega) L6 (by omega) (by omega)) (fun h205 e205 => ?_)
          obtain ⟨f205, s8, n8, L8, z8, z9⟩ := e205
          refine x_iload (pc := 208) dX6_turn_208 rfl ?_
          refine x_iret (pc := 210) dX6_turn_210 rfl (by
              refine ⟨_, rfl, rfl, ⟨M1, hd1, k1, Kf, hRf, hM1, (by omega), hSp2, hKf, Or.inr ⟨by omega, rfl, s8, (fun x => if x < 112 then n6 x else T l x), (fun x => if x < 112 then n6 x else T l x), n8, W l ^^^ 2 ^ (t - 1), Lse.one hz8 f205 L8 (xor_lt hwl (by omega)), fun j hj => ?_, ?_, ?_, ?_, fun i hi => ?_⟩⟩, Ce.keep (f205 0 (by omega)) (f205 1 (by omega)), fun x hx => (f205 x (by omega)).trans ((f166 x (by omega)).trans (Fd x (by omega))), ⟨_, _, _, L6.keep (fun x h1 h2 => f205 x (by omega))⟩, ⟨M1, hd1, _, _, R4.keep (fun x h1 h2 => f205 x (by omega)), hM1⟩⟩
              · rw [z8 j hj]
                by_cases e : j = t
                · rw [e, up_s, if_pos rfl]
                · rw [up_n _ _ e, if_neg e, z4 j hj]
              · rw [if_pos t0, if_neg t1, Nat.xor_zero]
              · rw [if_pos t0]
                rw [hfr] at T6
                refine ⟨fun place ix h1 h2 => ?_, fun x hx => ?_⟩
                · have := pos_rg (b := b) (k := t - 1) h1 h2
                  exact (if_pos (show pos b (t - 1) place ix < 112 by omega)).trans (T6.1 place ix h1 h2)
                · by_cases e : x < 112
                  · exact (if_pos e).trans ((T6.2 x hx).trans (z5 x e))
                  · exact if_neg e
              · rw [if_neg t1]
              · exact (z9 i hi).trans (if_pos hi).symm)
        · exact absurd (bz_n c174) (by omega)
  · refine x_iconst (pc := 106) dX6_turn_106 ?_
    refine x_iret (pc := 107) dX6_turn_107 rfl ⟨_, rfl, rfl, ⟨M1, hd1, k1, Kf, hRf, hM1, (by omega), hSp2, hKf, Or.inl ⟨by omega, rfl, Lsb⟩⟩, Cb, Fb.wide (by omega) (by omega), ⟨_, _, _, L26b⟩, ⟨M1, hd1, _, _, R1, hM1⟩⟩

set_option maxRecDepth 4000 in
theorem k_turnR {G : GL} {d : Nat} {hp : HP} {sz p N : Nat} (C : ClsA hp p N) (hz : 92 ≤ sz) (hN : 1 ≤ N ∧ N ≤ 8) (hP : isP p) {S T : Nat → Nat → Int} {W : Nat → Nat} (Ls : LysA hp S T W) (hS : inS S) (hT : ∀ l, l < 8 → inL (T l) p) (L26 : ∃ s n w, Lay hp 26 s n w) (RX : RwX hp 29 p) {l t z : Nat} (hl : l < 8) (ht : t < N) (hz8 : z < 8) (b : Bool) (t0 : ¬ 0 < t) (t1 : t + 1 < N) : Ex G (d + 4) 0 0 mX6_turn 75 [vr 0, vi l, vi t, vi z, vr (2 + 3 * l), vi (bz b), vu, vu] [] hp sz (Vs (fun v h => TuR p N l t z S T W b hp h v ∧ ClsA h p N ∧ Fr hp h 2 35 ∧ (∃ s n w, Lay h 26 s n w) ∧ RwX h 29 p) sz) := by
  have hst := szc_8 hS hl t (by omega)
  have hlx : lx (szc S l) t ≤ 4 := by unfold lx; split; exact szc_4 hS hl _; omega
  have hry : ry N (szc S l) t ≤ 4 := by unfold ry; split; exact szc_4 hS hl _; omega
  obtain ⟨s26, n26, w26, L26⟩ := L26
  obtain ⟨LA, hwA⟩ := Ls l hl
  obtain ⟨C0, C1, C2, C3, C4, C5, C6, C7, C8, C9, g, gA, gB⟩ := id C
  have hob := C0.ob
  refine x_aload_n (pc := 75) dX6_turn_75 rfl ?_
  refine x_aload (pc := 76) dX6_turn_76 rfl ?_
  refine x_iload_n (pc := 78) dX6_turn_78 rfl ?_
  refine x_iload (pc := 79) dX6_turn_79 rfl ?_
  refine x_p3 (pc := 81) dX6_turn_81 wX6_gatherBeside iX6_gatherBeside kX6_168 (by decide) rfl (Nat.le_of_ble_eq_true rfl) (by assumption) (by omega) (t_gather (d := d) C hz hN (by omega) ht (szc_8 hS hl) (hT l hl) LA RX) (fun h81 e81 => ?_)
  obtain ⟨f81, M0, hd0, RR, hM0, hd0m, gM⟩ := e81
  have Ca := C.keep (f81 0 (by omega)) (f81 1 (by omega))
  obtain ⟨C0, C1, C2, C3, C4, C5, C6, C7, C8, C9, g, gA, gB⟩ := id Ca
  have hoR := RR.ob
  refine x_aload_n (pc := 84) dX6_turn_84 rfl ?_
  refine x_gf (pc := 85) dX6_turn_85 fX6_45 (by assumption) (by omega) ?_
  refine x_p0 (pc := 88) dX6_turn_88 wX3_bringToLeast iX3_bringToLeast kX6_172 (by decide) rfl (Nat.le_of_ble_eq_true rfl) hoR (by omega) (t_bringR RR (by omega) hst.2 (by omega) hP hM0 hd0m) (fun h88 e88 => ?_)
  obtain ⟨f88, M1, hd1, k1, R1, hM1, hk1, hRf, hSp⟩ := e88
  have Cb := Ca.keep (f88 0 (by omega)) (f88 1 (by omega))
  obtain ⟨C0, C1, C2, C3, C4, C5, C6, C7, C8, C9, g, gA, gB⟩ := id Cb
  have hoR1 := R1.ob
  have Lsb := (Ls.kp (fun x h1 h2 => f81 x (by omega))).kp (fun x h1 h2 => f88 x (by omega))
  have hkw := hRf.1
  have hfr := hRf.free
  obtain ⟨Kf, hKf⟩ := nf_exF hd1 (lx (szc S l) t + ry N (szc S l) t)
  have hSp2 : ∀ v, Sp p k1 (lx (szc S l) t + ry N (szc S l) t) M1 v ↔ Sp p (szc S l t) (lx (szc S l) t + ry N (szc S l) t) (gat b (T l) t (lx (szc S l) t)) v := fun v => (hSp v).trans (Sp_cgM gM v)
  have Fb : Fr hp h88 29 35 := f81.tr f88
  have L26b : Lay h88 26 s26 n26 w26 := L26.keep (fun x h1 h2 => Fb x (by omega))
  refine x_aload_n (pc := 91) dX6_turn_91 rfl ?_
  refine x_gf (pc := 92) dX6_turn_92 fX6_45 (by assumption) (by omega) ?_
  refine x_w0 (pc := 95) dX6_turn_95 wX3_freeCount iX3_freeCount kX6_175 (by decide) rfl (Nat.le_of_ble_eq_true rfl) hoR1 (by omega) (t_freeCount R1 (by omega)) ?_
  rw [show ((lx (szc S l) t + ry N (szc S l) t : Nat) : Int) - (k1 : Int) = (((lx (szc S l) t + ry N (szc S l) t) - k1 : Nat) : Int) by omega]
  refine x_istore (pc := 98) dX6_turn_98 (by decide) rfl ?_
  show Ex _ _ _ _ _ _ [_, _, _, _, _, _, _, _] _ _ _ _
  refine x_iload (pc := 100) dX6_turn_100 rfl ?_
  refine x_iconst (pc := 102) dX6_turn_102 ?_
  refine x_icmp_le (pc := 103) (tgt := 108) dX6_turn_103 (by decide) (by omega) (by omega) (fun c103 => ?_) (fun c103 => ?_)
  · refine x_aload_n (pc := 108) dX6_turn_108 rfl ?_
    refine x_gf (pc := 109) dX6_turn_109 fX6_36 (by assumption) (by omega) ?_
    refine x_aload (pc := 112) dX6_turn_112 rfl ?_
    refine x_p1 (pc := 114) dX6_turn_114 wX0_copy iX0_copy kX6_144 (by decide) rfl (Nat.le_of_ble_eq_true rfl) L26b.ob (by omega) (t_copy L26b (by omega) (Lsb l hl).1 (by omega) (by omega)) (fun h114 e114 => ?_)
    obtain ⟨f114, s4, n4, L4, z4, z5⟩ := e114
    have Cc := Cb.keep (f114 0 (by omega)) (f114 1 (by omega))
    obtain ⟨C0, C1, C2, C3, C4, C5, C6, C7, C8, C9, g, gA, gB⟩ := id Cc
    have Lsc := Lsb.kp (fun x h1 h2 => f114 x (by omega))
    have R2 := R1.keep (hp' := h114) (fun x h1 h2 => f114 x (by omega))
    obtain ⟨X1, X2, X3, X4, X5⟩ := id L4
    have hwl := (Ls l hl).2
    refine x_aload_n (pc := 117) dX6_turn_117 rfl ?_
    refine x_gf (pc := 118) dX6_turn_118 fX6_36 (by assumption) (by omega) ?_
    refine x_gn (pc := 121) dX6_turn_121 fX6_95 (by assumption) (by omega) ?_
    refine x_iload_n (pc := 124) dX6_turn_124 rfl ?_
    refine x_iload (pc := 125) dX6_turn_125 rfl ?_
    refine x_is (pc := 127) dX6_turn_127 (by assumption) (by omega) rfl (by omega) ?_
    have L5 : Lay (up h114 27 (ar 0 8 (up s4 t (((lx (szc S l) t + ry N (szc S l) t) - k1 : Nat) : Int)))) 26 (up s4 t (((lx (szc S l) t + ry N (szc S l) t) - k1 : Nat) : Int)) n4 (W l) := ⟨X1.up (by omega), X2.up (by omega), X3.up (by omega), up_s _ _ _, (up_n _ _ (by omega)).trans X5⟩
    have Cd := Cc.keep (hp' := up h114 27 (ar 0 8 (up s4 t (((lx (szc S l) t + ry N (szc S l) t) - k1 : Nat) : Int)))) (up_n _ _ (by omega)) (up_n _ _ (by omega))
    have Lsd := Lsc.kp (h := up h114 27 (ar 0 8 (up s4 t (((lx (szc S l) t + ry N (szc S l) t) - k1 : Nat) : Int)))) (fun x h1 h2 => up_n _ _ (by omega))
    have R3 := R2.keep (hp' := up h114 27 (ar 0 8 (up s4 t (((lx (szc S l) t + ry N (szc S l) t) - k1 : Nat) : Int)))) (fun x h1 h2 => up_n _ _ (by omega))
    have Fd : Fr hp (up h114 27 (ar 0 8 (up s4 t (((lx (szc S l) t + ry N (szc S l) t) - k1 : Nat) : Int)))) 26 35 := fun x hx => (up_n _ _ (by omega)).trans ((f114 x (by omega)).trans (Fb x (by omega)))
    generalize up h114 27 (ar 0 8 (up s4 t (((lx (szc S l) t + ry N (szc S l) t) - k1 : Nat) : Int))) = hD at L5 Cd Lsd R3 Fd ⊢
    obtain ⟨C0, C1, C2, C3, C4, C5, C6, C7, C8, C9, g, gA, gB⟩ := id Cd
    have hob5 := C0.ob
    obtain ⟨LAd, hwd⟩ := Lsd l hl
    obtain ⟨Y1, Y2, Y3, Y4, Y5⟩ := id LAd
    rw [show 2 + 3 * l + 1 = 3 + 3 * l by omega] at Y1 Y4
    refine x_iload_n (pc := 128) dX6_turn_128 rfl ?_
    refine x_if_le (pc := 129) (tgt := 144) dX6_turn_129 (by decide) (by omega) (fun c129 => ?_) (fun c129 => ?_)
    · refine x_iconst (pc := 144) dX6_turn_144 ?_
      rw [show (0 : Int) = ((lx (szc S l) t : Nat) : Int) from by unfold lx; rw [if_neg t0]; rfl]
      refine x_istore (pc := 145) dX6_turn_145 (by decide) rfl ?_
      show Ex _ _ _ _ _ _ [_, _, _, _, _, _, _, _] _ _ _ _
      refine x_aload_n (pc := 147) dX6_turn_147 rfl ?_
      refine x_iload_n (pc := 148) dX6_turn_148 rfl ?_
      refine x_iconst (pc := 149) dX6_turn_149 ?_
      refine x_isub (pc := 150) dX6_turn_150 ?_
      refine x_w1 (pc := 151) dX6_turn_151 wX6_isArrow iX6_isArrow kX6_151 (by decide) rfl (Nat.le_of_ble_eq_true rfl) hob5 (by omega) (t_isArrow Cd hz hN (by omega)) ?_
      refine x_if_eq (pc := 154) (tgt := 169) dX6_turn_154 (by decide) (bz_rg _) (fun c154 => ?_) (fun c154 => ?_)
      · refine x_aload_n (pc := 169) dX6_turn_169 rfl ?_
        refine x_iload_n (pc := 170) dX6_turn_170 rfl ?_
        refine x_w1 (pc := 171) dX6_turn_171 wX6_isArrow iX6_isArrow kX6_151 (by decide) rfl (Nat.le_of_ble_eq_true rfl) hob5 (by omega) (t_isArrow Cd hz hN (by omega)) ?_
        refine x_if_eq (pc := 174) (tgt := 195) dX6_turn_174 (by decide) (bz_rg _) (fun c174 => ?_) (fun c174 => ?_)
        · exact absurd (bz_e c174) (by omega)
        · refine x_aload_n (pc := 177) dX6_turn_177 rfl ?_
          refine x_iload_n (pc := 178) dX6_turn_178 rfl ?_
          refine x_iload (pc := 179) dX6_turn_179 rfl ?_
          refine x_iload (pc := 181) dX6_turn_181 rfl ?_
          refine x_aload (pc := 183) dX6_turn_183 rfl ?_
          refine x_gn (pc := 185) dX6_turn_185 fX6_95 (by assumption) (by omega) ?_
          refine x_iload_n (pc := 188) dX6_turn_188 rfl ?_
          refine x_iconst (pc := 189) dX6_turn_189 ?_
          refine x_iadd (pc := 190) dX6_turn_190 ?_
          refine x_il (pc := 191) (j := t + 1) dX6_turn_191 (by assumption) (by omega) (by omega) (by omega) ?_
          rw [(szc_8 hS hl (t + 1) (by omega)).1, show ((szc S l (t + 1) : Nat) : Int) = ((ry N (szc S l) t : Nat) : Int) from by unfold ry; rw [if_pos t1]]
          refine x_p4 (pc := 192) dX6_turn_192 wX6_putTurned iX6_putTurned kX6_179 (by decide) rfl (Nat.le_of_ble_eq_true rfl) hob5 (by omega) (t_putTurned (d := d + 1) (k := t) (f0 := lx (szc S l) t) (P := ry N (szc S l) t) (b := b) (val := (fun pl ix => rst p M1 hd1 (lx (szc S l) t + pl) (Kf ix))) hz hP (by omega) hry hM1 hRf (by omega) (by omega) (by omega) (by omega) (val_rst (f0 := lx (szc S l) t) hKf) Cd L5 hwl R3) (fun h192 e192 => ?_)
          obtain ⟨Cf, f192, R5, n7, L7, T7⟩ := e192
          have Lsf := Lsd.kp (fun x h1 h2 => f192 x (by omega))
          obtain ⟨C0, C1, C2, C3, C4, C5, C6, C7, C8, C9, g, gA, gB⟩ := id Cf
          refine x_aload_n (pc := 195) dX6_turn_195 rfl ?_
          refine x_gf (pc := 196) dX6_turn_196 fX6_31 (by assumption) (by omega) ?_
          refine x_iload_n (pc := 199) dX6_turn_199 rfl ?_
          refine x_al (pc := 200) dX6_turn_200 (by assumption) (by omega) rfl (by omega) (gB z hz8) ?_
          refine x_aload_n (pc := 201) dX6_turn_201 rfl ?_
          refine x_gf (pc := 202) dX6_turn_202 fX6_36 (by assumption) (by omega) ?_
          refine x_p1 (pc := 205) dX6_turn_205 wX0_copy iX0_copy kX6_144 (by decide) rfl (Nat.le_of_ble_eq_true rfl) (Lsf z hz8).1.ob (by omega) (t_copy (Lsf z hz8).1 (by omega) L7 (by omega) (by omega)) (fun h205 e205 => ?_)
          obtain ⟨f205, s8, n8, L8, z8, z9⟩ := e205
          refine x_iload (pc := 208) dX6_turn_208 rfl ?_
          refine x_iret (pc := 210) dX6_turn_210 rfl (by
              refine ⟨_, rfl, rfl, ⟨M1, hd1, k1, Kf, hRf, hM1, (by omega), hSp2, hKf, Or.inr ⟨by omega, rfl, s8, (fun x => if x < 112 then n4 x else T l x), (fun x => if x < 112 then n7 x else T l x), n8, W l ^^^ 2 ^ t, Lsf.one hz8 f205 L8 (xor_lt hwl (by omega)), fun j hj => ?_, ?_, ?_, ?_, fun i hi => ?_⟩⟩, Cf.keep (f205 0 (by omega)) (f205 1 (by omega)), fun x hx => (f205 x (by omega)).trans ((f192 x (by omega)).trans (Fd x (by omega))), ⟨_, _, _, L7.keep (fun x h1 h2 => f205 x (by omega))⟩, ⟨M1, hd1, _, _, R5.keep (fun x h1 h2 => f205 x (by omega)), hM1⟩⟩
              · rw [z8 j hj]
                by_cases e : j = t
                · rw [e, up_s, if_pos rfl]
                · rw [up_n _ _ e, if_neg e, z4 j hj]
              · rw [if_neg t0, if_pos t1, Nat.xor_zero]
              · rw [if_neg t0]
                funext x
                by_cases e : x < 112
                · exact (if_pos e).trans (z5 x e)
                · exact if_neg e
              · rw [if_pos t1]
                rw [hfr] at T7
                refine ⟨fun place ix h1 h2 => ?_, fun x hx => ?_⟩
                · have := pos_rg (b := b) (k := t) h1 h2
                  exact (if_pos (show pos b t place ix < 112 by omega)).trans (T7.1 place ix h1 h2)
                · by_cases e : x < 112
                  · exact (if_pos e).trans ((T7.2 x hx).trans (if_pos e).symm)
                  · exact (if_neg e).trans (if_neg e).symm
              · exact (z9 i hi).trans (if_pos hi).symm)
      · exact absurd (bz_n c154) (by omega)
    · exact absurd c129 (by omega)
  · refine x_iconst (pc := 106) dX6_turn_106 ?_
    refine x_iret (pc := 107) dX6_turn_107 rfl ⟨_, rfl, rfl, ⟨M1, hd1, k1, Kf, hRf, hM1, (by omega), hSp2, hKf, Or.inl ⟨by omega, rfl, Lsb⟩⟩, Cb, Fb.wide (by omega) (by omega), ⟨_, _, _, L26b⟩, ⟨M1, hd1, _, _, R1, hM1⟩⟩

set_option maxRecDepth 4000 in
theorem t_turn6 {G : GL} {d : Nat} {hp : HP} {sz p N : Nat} (C : ClsA hp p N) (hz : 92 ≤ sz) (hN : 1 ≤ N ∧ N ≤ 8) (hP : isP p) {S T : Nat → Nat → Int} {W : Nat → Nat} (Ls : LysA hp S T W) (hS : inS S) (hT : ∀ l, l < 8 → inL (T l) p) (L26 : ∃ s n w, Lay hp 26 s n w) (RX : RwX hp 29 p) {x : Int} (hx : -2147483648 ≤ x ∧ x < 2147483648) {y : Int} (hy : -2147483648 ≤ y ∧ y < 2147483648) {z : Int} (hz1 : -2147483648 ≤ z ∧ z < 2147483648) : Ct G (d + 4) 0 0 mX6_turn [vr 0, vi x, vi y, vi z] hp sz (Vs (fun v h => ((0 ≤ x ∧ x < 8 ∧ 0 ≤ y ∧ y < N ∧ 0 ≤ z ∧ z < 8 ∧ Tn N (W x.toNat) y.toNat) ∧ TuR p N x.toNat y.toNat z.toNat S T W (decide (ta (Lw (W x.toNat)) (if 0 < y.toNat then y.toNat - 1 else y.toNat) = y.toNat)) hp h v ∧ ClsA h p N ∧ Fr hp h 2 35 ∧ (∃ s n w, Lay h 26 s n w) ∧ RwX h 29 p) ∨ ((¬ (0 ≤ x ∧ x < 8 ∧ 0 ≤ y ∧ y < N ∧ 0 ≤ z ∧ z < 8 ∧ Tn N (W x.toNat) y.toNat)) ∧ v = vi (-1) ∧ h = hp)) sz) := by
  show Ex _ _ _ _ _ _ [vr 0, vi x, vi y, vi z, vu, vu, vu, vu] _ _ _ _
  obtain ⟨C0, C1, C2, C3, C4, C5, C6, C7, C8, C9, g, gA, gB⟩ := id C
  have hob := C0.ob
  refine x_aload_n (pc := 0) dX6_turn_0 rfl ?_
  refine x_iload_n (pc := 1) dX6_turn_1 rfl ?_
  refine x_w1 (pc := 2) dX6_turn_2 wX6_isLaying iX6_isLaying kX6_82 (by decide) rfl (Nat.le_of_ble_eq_true rfl) (by assumption) (by omega) (t_isLaying C hz hN hx) ?_
  refine x_if_eq (pc := 5) (tgt := 38) dX6_turn_5 (by decide) (bz_rg _) (fun c5 => ?_) (fun c5 => ?_)
  · have d1 := bz_e c5
    refine x_iconst (pc := 38) dX6_turn_38 ?_
    refine x_iret (pc := 39) dX6_turn_39 rfl (by first | exact ⟨_, rfl, rfl, Or.inr ⟨fun q => by omega, rfl, rfl⟩⟩ | exact ⟨_, rfl, rfl, Or.inr ⟨fun q => hnt (hrb.mpr q.2.2.2.2.2.2), rfl, rfl⟩⟩)
  · have d1 := bz_n c5
    refine x_aload_n (pc := 8) dX6_turn_8 rfl ?_
    refine x_iload_n (pc := 9) dX6_turn_9 rfl ?_
    refine x_w1 (pc := 10) dX6_turn_10 wX6_isLaying iX6_isLaying kX6_82 (by decide) rfl (Nat.le_of_ble_eq_true rfl) (by assumption) (by omega) (t_isLaying C hz hN hz1) ?_
    refine x_if_eq (pc := 13) (tgt := 38) dX6_turn_13 (by decide) (bz_rg _) (fun c13 => ?_) (fun c13 => ?_)
    · have d2 := bz_e c13
      refine x_iconst (pc := 38) dX6_turn_38 ?_
      refine x_iret (pc := 39) dX6_turn_39 rfl (by first | exact ⟨_, rfl, rfl, Or.inr ⟨fun q => by omega, rfl, rfl⟩⟩ | exact ⟨_, rfl, rfl, Or.inr ⟨fun q => hnt (hrb.mpr q.2.2.2.2.2.2), rfl, rfl⟩⟩)
    · have d2 := bz_n c13
      refine x_aload_n (pc := 16) dX6_turn_16 rfl ?_
      refine x_iload_n (pc := 17) dX6_turn_17 rfl ?_
      refine x_w1 (pc := 18) dX6_turn_18 wX6_isPost iX6_isPost kX6_117 (by decide) rfl (Nat.le_of_ble_eq_true rfl) (by assumption) (by omega) (t_isPost C hz hN hy) ?_
      refine x_if_eq (pc := 21) (tgt := 38) dX6_turn_21 (by decide) (bz_rg _) (fun c21 => ?_) (fun c21 => ?_)
      · have d3 := bz_e c21
        refine x_iconst (pc := 38) dX6_turn_38 ?_
        refine x_iret (pc := 39) dX6_turn_39 rfl (by first | exact ⟨_, rfl, rfl, Or.inr ⟨fun q => by omega, rfl, rfl⟩⟩ | exact ⟨_, rfl, rfl, Or.inr ⟨fun q => hnt (hrb.mpr q.2.2.2.2.2.2), rfl, rfl⟩⟩)
      · have d3 := bz_n c21
        obtain ⟨l, rfl⟩ : ∃ l : Nat, x = (l : Int) := ⟨x.toNat, by omega⟩
        obtain ⟨t, rfl⟩ : ∃ l : Nat, y = (l : Int) := ⟨y.toNat, by omega⟩
        obtain ⟨z, rfl⟩ : ∃ l : Nat, z = (l : Int) := ⟨z.toNat, by omega⟩
        simp only [Int.toNat_natCast]
        have hl : l < 8 := by omega
        obtain ⟨LA, hwA⟩ := Ls l hl
        have hoA := LA.ob
        refine x_aload_n (pc := 24) dX6_turn_24 rfl ?_
        refine x_aload_n (pc := 25) dX6_turn_25 rfl ?_
        refine x_gf (pc := 26) dX6_turn_26 fX6_31 (by assumption) (by omega) ?_
        refine x_iload_n (pc := 29) dX6_turn_29 rfl ?_
        refine x_al (pc := 30) dX6_turn_30 (by assumption) (by omega) rfl (by omega) (gB l hl) ?_
        refine x_iload_n (pc := 31) dX6_turn_31 rfl ?_
        refine x_y2 (pc := 32) dX6_turn_32 wX6_isTurning iX6_isTurning kX6_164 (by decide) rfl (Nat.le_of_ble_eq_true rfl) (by assumption) (by omega) (t_isTurning C hz hN LA (by omega) hwA (by omega)) (fun v32 h32 e32 => ?_)
        obtain ⟨rfl, rb, rfl, hrb⟩ := e32
        refine x_if_ne (pc := 35) (tgt := 40) dX6_turn_35 (by decide) (bz_rg _) (fun c35 => ?_) (fun c35 => ?_)
        · have htn := hrb.mp (by cases rb; exact absurd rfl c35; rfl)
          refine x_aload_n (pc := 40) dX6_turn_40 rfl ?_
          refine x_gf (pc := 41) dX6_turn_41 fX6_31 (by assumption) (by omega) ?_
          refine x_iload_n (pc := 44) dX6_turn_44 rfl ?_
          refine x_al (pc := 45) dX6_turn_45 (by assumption) (by omega) rfl (by omega) (gB l hl) ?_
          refine x_astore (pc := 46) dX6_turn_46 (by decide) rfl ?_
          show Ex _ _ _ _ _ _ [_, _, _, _, _, _, _, _] _ _ _ _
          by_cases t0' : 0 < t
          · refine x_aload (pc := 48) dX6_turn_48 rfl ?_
            refine x_iload_n (pc := 50) dX6_turn_50 rfl ?_
            refine x_if_le (pc := 51) (tgt := 60) dX6_turn_51 (by decide) (by omega) (fun c51 => ?_) (fun c51 => ?_)
            · exact absurd c51 (by omega)
            · refine x_iload_n (pc := 54) dX6_turn_54 rfl ?_
              refine x_iconst (pc := 55) dX6_turn_55 ?_
              refine x_isub (pc := 56) dX6_turn_56 ?_
              rw [show (t : Int) - 1 = ((t - 1 : Nat) : Int) by omega]
              refine x_goto (pc := 57) (tgt := 61) dX6_turn_57 (by decide) ?_
              refine x_w1 (pc := 61) dX6_turn_61 wX0_target iX0_target kX6_154 (by decide) rfl (Nat.le_of_ble_eq_true rfl) hoA (by omega) (t_target LA (by omega) (k := t - 1) (by omega) hwA) ?_
              rw [show (if (W l).testBit (t - 1) = true then t - 1 else t - 1 + 1) = ta (Lw (W l)) (t - 1) from rfl]
              refine x_iload_n (pc := 64) dX6_turn_64 rfl ?_
              refine x_icmp_ne (pc := 65) (tgt := 72) dX6_turn_65 (by decide) (by have := so_ta (Lf := Lw (W l)) (k := t - 1); omega) (by omega) (fun c65 => ?_) (fun c65 => ?_)
              · refine x_iconst (pc := 72) dX6_turn_72 ?_
                first
                  | (refine Ex.stk (show bz (decide (ta (Lw (W l)) (if 0 < t then t - 1 else t) = t)) = 1 from (bz1 (by rw [if_pos (by omega)]; omega)).symm) ?_
                     refine x_istore (pc := 73) dX6_turn_73 (by decide) rfl ?_
                     show Ex _ _ _ _ _ _ [_, _, _, _, _, _, _, _] _ _ _ _
                     by_cases t0 : 0 < t
                     · by_cases t1 : t + 1 < N
                       · exact Ex.mono (fun r h9 s9 q9 => by obtain ⟨v9, e9, z9, q9⟩ := q9; exact ⟨v9, e9, z9, Or.inl ⟨⟨by omega, by omega, by omega, by omega, by omega, by omega, htn⟩, q9⟩⟩) (k_turnLR (d := d) C hz hN hP Ls hS hT L26 RX hl (by omega) (by omega) _ t0 t1)
                       · exact Ex.mono (fun r h9 s9 q9 => by obtain ⟨v9, e9, z9, q9⟩ := q9; exact ⟨v9, e9, z9, Or.inl ⟨⟨by omega, by omega, by omega, by omega, by omega, by omega, htn⟩, q9⟩⟩) (k_turnL (d := d) C hz hN hP Ls hS hT L26 RX hl (by omega) (by omega) _ t0 t1)
                     · exact Ex.mono (fun r h9 s9 q9 => by obtain ⟨v9, e9, z9, q9⟩ := q9; exact ⟨v9, e9, z9, Or.inl ⟨⟨by omega, by omega, by omega, by omega, by omega, by omega, htn⟩, q9⟩⟩) (k_turnR (d := d) C hz hN hP Ls hS hT L26 RX hl (by omega) (by omega) _ t0 (by have := htn.1; omega)))
                  | (refine Ex.stk (show bz (decide (ta (Lw (W l)) (if 0 < t then t - 1 else t) = t)) = 0 from (bz0 (by rw [if_pos (by omega)]; omega)).symm) ?_
                     refine x_istore (pc := 73) dX6_turn_73 (by decide) rfl ?_
                     show Ex _ _ _ _ _ _ [_, _, _, _, _, _, _, _] _ _ _ _
                     by_cases t0 : 0 < t
                     · by_cases t1 : t + 1 < N
                       · exact Ex.mono (fun r h9 s9 q9 => by obtain ⟨v9, e9, z9, q9⟩ := q9; exact ⟨v9, e9, z9, Or.inl ⟨⟨by omega, by omega, by omega, by omega, by omega, by omega, htn⟩, q9⟩⟩) (k_turnLR (d := d) C hz hN hP Ls hS hT L26 RX hl (by omega) (by omega) _ t0 t1)
                       · exact Ex.mono (fun r h9 s9 q9 => by obtain ⟨v9, e9, z9, q9⟩ := q9; exact ⟨v9, e9, z9, Or.inl ⟨⟨by omega, by omega, by omega, by omega, by omega, by omega, htn⟩, q9⟩⟩) (k_turnL (d := d) C hz hN hP Ls hS hT L26 RX hl (by omega) (by omega) _ t0 t1)
                     · exact Ex.mono (fun r h9 s9 q9 => by obtain ⟨v9, e9, z9, q9⟩ := q9; exact ⟨v9, e9, z9, Or.inl ⟨⟨by omega, by omega, by omega, by omega, by omega, by omega, htn⟩, q9⟩⟩) (k_turnR (d := d) C hz hN hP Ls hS hT L26 RX hl (by omega) (by omega) _ t0 (by have := htn.1; omega)))
              · refine x_iconst (pc := 68) dX6_turn_68 ?_
                refine x_goto (pc := 69) (tgt := 73) dX6_turn_69 (by decide) ?_
                first
                  | (refine Ex.stk (show bz (decide (ta (Lw (W l)) (if 0 < t then t - 1 else t) = t)) = 1 from (bz1 (by rw [if_pos (by omega)]; omega)).symm) ?_
                     refine x_istore (pc := 73) dX6_turn_73 (by decide) rfl ?_
                     show Ex _ _ _ _ _ _ [_, _, _, _, _, _, _, _] _ _ _ _
                     by_cases t0 : 0 < t
                     · by_cases t1 : t + 1 < N
                       · exact Ex.mono (fun r h9 s9 q9 => by obtain ⟨v9, e9, z9, q9⟩ := q9; exact ⟨v9, e9, z9, Or.inl ⟨⟨by omega, by omega, by omega, by omega, by omega, by omega, htn⟩, q9⟩⟩) (k_turnLR (d := d) C hz hN hP Ls hS hT L26 RX hl (by omega) (by omega) _ t0 t1)
                       · exact Ex.mono (fun r h9 s9 q9 => by obtain ⟨v9, e9, z9, q9⟩ := q9; exact ⟨v9, e9, z9, Or.inl ⟨⟨by omega, by omega, by omega, by omega, by omega, by omega, htn⟩, q9⟩⟩) (k_turnL (d := d) C hz hN hP Ls hS hT L26 RX hl (by omega) (by omega) _ t0 t1)
                     · exact Ex.mono (fun r h9 s9 q9 => by obtain ⟨v9, e9, z9, q9⟩ := q9; exact ⟨v9, e9, z9, Or.inl ⟨⟨by omega, by omega, by omega, by omega, by omega, by omega, htn⟩, q9⟩⟩) (k_turnR (d := d) C hz hN hP Ls hS hT L26 RX hl (by omega) (by omega) _ t0 (by have := htn.1; omega)))
                  | (refine Ex.stk (show bz (decide (ta (Lw (W l)) (if 0 < t then t - 1 else t) = t)) = 0 from (bz0 (by rw [if_pos (by omega)]; omega)).symm) ?_
                     refine x_istore (pc := 73) dX6_turn_73 (by decide) rfl ?_
                     show Ex _ _ _ _ _ _ [_, _, _, _, _, _, _, _] _ _ _ _
                     by_cases t0 : 0 < t
                     · by_cases t1 : t + 1 < N
                       · exact Ex.mono (fun r h9 s9 q9 => by obtain ⟨v9, e9, z9, q9⟩ := q9; exact ⟨v9, e9, z9, Or.inl ⟨⟨by omega, by omega, by omega, by omega, by omega, by omega, htn⟩, q9⟩⟩) (k_turnLR (d := d) C hz hN hP Ls hS hT L26 RX hl (by omega) (by omega) _ t0 t1)
                       · exact Ex.mono (fun r h9 s9 q9 => by obtain ⟨v9, e9, z9, q9⟩ := q9; exact ⟨v9, e9, z9, Or.inl ⟨⟨by omega, by omega, by omega, by omega, by omega, by omega, htn⟩, q9⟩⟩) (k_turnL (d := d) C hz hN hP Ls hS hT L26 RX hl (by omega) (by omega) _ t0 t1)
                     · exact Ex.mono (fun r h9 s9 q9 => by obtain ⟨v9, e9, z9, q9⟩ := q9; exact ⟨v9, e9, z9, Or.inl ⟨⟨by omega, by omega, by omega, by omega, by omega, by omega, htn⟩, q9⟩⟩) (k_turnR (d := d) C hz hN hP Ls hS hT L26 RX hl (by omega) (by omega) _ t0 (by have := htn.1; omega)))
          · refine x_aload (pc := 48) dX6_turn_48 rfl ?_
            refine x_iload_n (pc := 50) dX6_turn_50 rfl ?_
            refine x_if_le (pc := 51) (tgt := 60) dX6_turn_51 (by decide) (by omega) (fun c51 => ?_) (fun c51 => ?_)
            · refine x_iload_n (pc := 60) dX6_turn_60 rfl ?_
              refine x_w1 (pc := 61) dX6_turn_61 wX0_target iX0_target kX6_154 (by decide) rfl (Nat.le_of_ble_eq_true rfl) hoA (by omega) (t_target LA (by omega) (k := t) (by have := htn.1; omega) hwA) ?_
              rw [show (if (W l).testBit (t) = true then t else t + 1) = ta (Lw (W l)) (t) from rfl]
              refine x_iload_n (pc := 64) dX6_turn_64 rfl ?_
              refine x_icmp_ne (pc := 65) (tgt := 72) dX6_turn_65 (by decide) (by have := so_ta (Lf := Lw (W l)) (k := t); omega) (by omega) (fun c65 => ?_) (fun c65 => ?_)
              · refine x_iconst (pc := 72) dX6_turn_72 ?_
                first
                  | (refine Ex.stk (show bz (decide (ta (Lw (W l)) (if 0 < t then t - 1 else t) = t)) = 1 from (bz1 (by rw [if_neg (by omega)]; omega)).symm) ?_
                     refine x_istore (pc := 73) dX6_turn_73 (by decide) rfl ?_
                     show Ex _ _ _ _ _ _ [_, _, _, _, _, _, _, _] _ _ _ _
                     by_cases t0 : 0 < t
                     · by_cases t1 : t + 1 < N
                       · exact Ex.mono (fun r h9 s9 q9 => by obtain ⟨v9, e9, z9, q9⟩ := q9; exact ⟨v9, e9, z9, Or.inl ⟨⟨by omega, by omega, by omega, by omega, by omega, by omega, htn⟩, q9⟩⟩) (k_turnLR (d := d) C hz hN hP Ls hS hT L26 RX hl (by omega) (by omega) _ t0 t1)
                       · exact Ex.mono (fun r h9 s9 q9 => by obtain ⟨v9, e9, z9, q9⟩ := q9; exact ⟨v9, e9, z9, Or.inl ⟨⟨by omega, by omega, by omega, by omega, by omega, by omega, htn⟩, q9⟩⟩) (k_turnL (d := d) C hz hN hP Ls hS hT L26 RX hl (by omega) (by omega) _ t0 t1)
                     · exact Ex.mono (fun r h9 s9 q9 => by obtain ⟨v9, e9, z9, q9⟩ := q9; exact ⟨v9, e9, z9, Or.inl ⟨⟨by omega, by omega, by omega, by omega, by omega, by omega, htn⟩, q9⟩⟩) (k_turnR (d := d) C hz hN hP Ls hS hT L26 RX hl (by omega) (by omega) _ t0 (by have := htn.1; omega)))
                  | (refine Ex.stk (show bz (decide (ta (Lw (W l)) (if 0 < t then t - 1 else t) = t)) = 0 from (bz0 (by rw [if_neg (by omega)]; omega)).symm) ?_
                     refine x_istore (pc := 73) dX6_turn_73 (by decide) rfl ?_
                     show Ex _ _ _ _ _ _ [_, _, _, _, _, _, _, _] _ _ _ _
                     by_cases t0 : 0 < t
                     · by_cases t1 : t + 1 < N
                       · exact Ex.mono (fun r h9 s9 q9 => by obtain ⟨v9, e9, z9, q9⟩ := q9; exact ⟨v9, e9, z9, Or.inl ⟨⟨by omega, by omega, by omega, by omega, by omega, by omega, htn⟩, q9⟩⟩) (k_turnLR (d := d) C hz hN hP Ls hS hT L26 RX hl (by omega) (by omega) _ t0 t1)
                       · exact Ex.mono (fun r h9 s9 q9 => by obtain ⟨v9, e9, z9, q9⟩ := q9; exact ⟨v9, e9, z9, Or.inl ⟨⟨by omega, by omega, by omega, by omega, by omega, by omega, htn⟩, q9⟩⟩) (k_turnL (d := d) C hz hN hP Ls hS hT L26 RX hl (by omega) (by omega) _ t0 t1)
                     · exact Ex.mono (fun r h9 s9 q9 => by obtain ⟨v9, e9, z9, q9⟩ := q9; exact ⟨v9, e9, z9, Or.inl ⟨⟨by omega, by omega, by omega, by omega, by omega, by omega, htn⟩, q9⟩⟩) (k_turnR (d := d) C hz hN hP Ls hS hT L26 RX hl (by omega) (by omega) _ t0 (by have := htn.1; omega)))
              · refine x_iconst (pc := 68) dX6_turn_68 ?_
                refine x_goto (pc := 69) (tgt := 73) dX6_turn_69 (by decide) ?_
                first
                  | (refine Ex.stk (show bz (decide (ta (Lw (W l)) (if 0 < t then t - 1 else t) = t)) = 1 from (bz1 (by rw [if_neg (by omega)]; omega)).symm) ?_
                     refine x_istore (pc := 73) dX6_turn_73 (by decide) rfl ?_
                     show Ex _ _ _ _ _ _ [_, _, _, _, _, _, _, _] _ _ _ _
                     by_cases t0 : 0 < t
                     · by_cases t1 : t + 1 < N
                       · exact Ex.mono (fun r h9 s9 q9 => by obtain ⟨v9, e9, z9, q9⟩ := q9; exact ⟨v9, e9, z9, Or.inl ⟨⟨by omega, by omega, by omega, by omega, by omega, by omega, htn⟩, q9⟩⟩) (k_turnLR (d := d) C hz hN hP Ls hS hT L26 RX hl (by omega) (by omega) _ t0 t1)
                       · exact Ex.mono (fun r h9 s9 q9 => by obtain ⟨v9, e9, z9, q9⟩ := q9; exact ⟨v9, e9, z9, Or.inl ⟨⟨by omega, by omega, by omega, by omega, by omega, by omega, htn⟩, q9⟩⟩) (k_turnL (d := d) C hz hN hP Ls hS hT L26 RX hl (by omega) (by omega) _ t0 t1)
                     · exact Ex.mono (fun r h9 s9 q9 => by obtain ⟨v9, e9, z9, q9⟩ := q9; exact ⟨v9, e9, z9, Or.inl ⟨⟨by omega, by omega, by omega, by omega, by omega, by omega, htn⟩, q9⟩⟩) (k_turnR (d := d) C hz hN hP Ls hS hT L26 RX hl (by omega) (by omega) _ t0 (by have := htn.1; omega)))
                  | (refine Ex.stk (show bz (decide (ta (Lw (W l)) (if 0 < t then t - 1 else t) = t)) = 0 from (bz0 (by rw [if_neg (by omega)]; omega)).symm) ?_
                     refine x_istore (pc := 73) dX6_turn_73 (by decide) rfl ?_
                     show Ex _ _ _ _ _ _ [_, _, _, _, _, _, _, _] _ _ _ _
                     by_cases t0 : 0 < t
                     · by_cases t1 : t + 1 < N
                       · exact Ex.mono (fun r h9 s9 q9 => by obtain ⟨v9, e9, z9, q9⟩ := q9; exact ⟨v9, e9, z9, Or.inl ⟨⟨by omega, by omega, by omega, by omega, by omega, by omega, htn⟩, q9⟩⟩) (k_turnLR (d := d) C hz hN hP Ls hS hT L26 RX hl (by omega) (by omega) _ t0 t1)
                       · exact Ex.mono (fun r h9 s9 q9 => by obtain ⟨v9, e9, z9, q9⟩ := q9; exact ⟨v9, e9, z9, Or.inl ⟨⟨by omega, by omega, by omega, by omega, by omega, by omega, htn⟩, q9⟩⟩) (k_turnL (d := d) C hz hN hP Ls hS hT L26 RX hl (by omega) (by omega) _ t0 t1)
                     · exact Ex.mono (fun r h9 s9 q9 => by obtain ⟨v9, e9, z9, q9⟩ := q9; exact ⟨v9, e9, z9, Or.inl ⟨⟨by omega, by omega, by omega, by omega, by omega, by omega, htn⟩, q9⟩⟩) (k_turnR (d := d) C hz hN hP Ls hS hT L26 RX hl (by omega) (by omega) _ t0 (by have := htn.1; omega)))
            · exact absurd c51 (by omega)
        · have hnt : ¬ rb = true := fun q => by rw [q] at c35; exact absurd c35 (by decide)
          refine x_iconst (pc := 38) dX6_turn_38 ?_
          refine x_iret (pc := 39) dX6_turn_39 rfl (by first | exact ⟨_, rfl, rfl, Or.inr ⟨fun q => by omega, rfl, rfl⟩⟩ | exact ⟨_, rfl, rfl, Or.inr ⟨fun q => hnt (hrb.mpr q.2.2.2.2.2.2), rfl, rfl⟩⟩)
