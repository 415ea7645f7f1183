theorem Spn_cgt {K : Type} [Lean.Grind.CommRing K] {m : Nat} {A B : Nat → Nat → K} (h : ∀ i, i < m → ∀ j, A i j = B i j) (v : Nat → K) : Spn m (fun _ => True) A v ↔ Spn m (fun _ => True) B v := by
  constructor
  · intro q; exact q.cgx (fun r i hr _ => (h r hr i).symm)
  · intro q; exact q.cgx (fun r i hr _ => h r hr i)
set_option maxRecDepth 4000 in
theorem k_tuM {K : Type} [Lean.Grind.CommRing K] {f : Int → K} {G : GL} {d : Nat} {sz p N : Nat} (hf : Iot p f) (hz : 615 ≤ sz) (hN : 1 ≤ N ∧ N ≤ 8) (hP : isP p) {W : Nat → Nat} {S T : Nat → Int} (hS : inSm S) (hT : inTm T p) {l t z : Nat} (hl : l < 8) (ht : t < N) (hz8 : z < 8) {b : Bool} {Q : Option AV → HP → Nat → Prop} {hp : HP} (tx : TX hp p N W S T) {A E : Nat → Int} (Nw : NwA hp A E) {f00 : Nat → Int} (A0 : hp 360 = ar 0 9 f00) {v6 v7 v11 v12 v13 v14 v15 v16 v17 v18 v19 : AV} (hq : ∀ v h, TuM f p N l t z S T W b h v → Fu hp h → (∃ A E, NwA h A E) → (∃ f0, h 360 = ar 0 9 f0) → Q (some v) h sz) : Ex G (d + 3) 0 0 mX7_turn 177 [vr 92, vi l, vi t, vi z, vi (bz (decide (0 < t))), vi (bz (decide (t + 1 < N))), v6, v7, vi (bz b), vi (lx (szs S l) t), vi (ry N (szs S l) t), v11, v12, v13, v14, v15, v16, v17, v18, v19] [] hp sz Q := by
  have hlx : (lx (szs S l) t) ≤ 4 := by unfold lx; split; exact szs_4 hS hl _; omega
  have hry : (ry N (szs S l) t) ≤ 4 := by unfold ry; split; exact szs_4 hS hl _; omega
  have hm4 := szs_4 hS hl t
  have hpl := hP.le
  obtain ⟨M, ld, m, w, g, σ, F, Qs, tt⟩ := tx
  obtain ⟨C, D, Mo, FA, ⟨gq, SA, SB⟩, SC⟩ := id tt
  obtain ⟨C0, C1, C2, C3, C4, C5, C6, C7, C8, C11, C12, C13, C14, C15, C16, C17, C18, C19, C20, C21, C22, C23⟩ := id C
  have hob := C0.ob
  obtain ⟨D1, D2, D3, D4⟩ := id D
  obtain ⟨O1, O2, O3, O4, O5, O6⟩ := id Mo
  refine x_aload_n (pc := 177) dX7_turn_177 rfl ?_
  refine x_iload_n (pc := 178) dX7_turn_178 rfl ?_
  refine x_iload_n (pc := 179) dX7_turn_179 rfl ?_
  refine x_w2 (pc := 180) dX7_turn_180 wX7_at iX7_at kX7_118 (by decide) rfl (Nat.le_of_ble_eq_true rfl) (by assumption) (by omega) (m_at C hz hN D hl (k := t) (by omega)) ?_
  rw [(szs_8 hS hl t (by omega)).1]
  refine x_istore (pc := 183) dX7_turn_183 (by decide) rfl ?_
  show Ex _ _ _ _ _ _ [_, _, _, _, _, _, _, _, _, _, _, _, _, _, _, _, _, _, _, _] _ _ _ _
  refine x_aload_n (pc := 185) dX7_turn_185 rfl ?_
  refine x_iload (pc := 186) dX7_turn_186 rfl ?_
  refine x_iload (pc := 188) dX7_turn_188 rfl ?_
  refine x_iadd (pc := 190) dX7_turn_190 ?_
  rw [show (((lx (szs S l) t) : Nat) : Int) + (((ry N (szs S l) t) : Nat) : Int) = ((((lx (szs S l) t) + (ry N (szs S l) t)) : Nat) : Int) by omega]
  refine x_p1 (pc := 191) dX7_turn_191 wX7_begin iX7_begin kX7_155 (by decide) rfl (Nat.le_of_ble_eq_true rfl) (by assumption) (by omega) (m_begin C hz hN ⟨g, σ, Mo⟩ (n := ((lx (szs S l) t) + (ry N (szs S l) t)))) (fun h191 e191 => ?_)
  obtain ⟨CB, fB, g0, σ0, moB⟩ := e191
  have tB := tt.of CB moB fB
  refine x_iconst (pc := 194) dX7_turn_194 ?_
  refine x_istore (pc := 195) dX7_turn_195 (by decide) rfl ?_
  show Ex _ _ _ _ _ _ [_, _, _, _, _, _, _, _, _, _, _, _, _, _, _, _, _, _, _, _] _ _ _ _
  refine k_tu0 (d := d) hz hN hP hT hl ht hlx hry (szs_4 hS hl t) (fun q => by unfold lx at q; split at q <;> omega) (fun q => by unfold ry at q; split at q <;> omega) rfl 0 (by omega) h191 M g0 σ0 _ _ tB (fun z hz9 => absurd hz9 (Nat.not_lt_zero _)) (fun i j hi => absurd hi (Nat.not_lt_zero _)) (fun h1 M1 g1 σ1 v13 v14 t1 f1 hM1 hO1 => ?_)
  obtain ⟨C, D, Mo, FA, ⟨gq, SA, SB⟩, SC⟩ := id t1
  obtain ⟨C0, C1, C2, C3, C4, C5, C6, C7, C8, C11, C12, C13, C14, C15, C16, C17, C18, C19, C20, C21, C22, C23⟩ := id C
  have hob := C0.ob
  obtain ⟨D1, D2, D3, D4⟩ := id D
  obtain ⟨O1, O2, O3, O4, O5, O6⟩ := id Mo
  refine x_aload_n (pc := 337) dX7_turn_337 rfl ?_
  refine x_y0 (pc := 338) dX7_turn_338 wX7_reduce iX7_reduce kX7_162 (by decide) rfl (Nat.le_of_ble_eq_true rfl) (by assumption) (by omega) (m_reduceK hf C hz hN hP ⟨g1, σ1, Mo⟩ (by omega) (by omega) hO1) (fun v338 h338 e338 => ?_)
  obtain ⟨C2, f338, M2, ld2, k1, rfl, ⟨g2, σ2, mo2⟩, q2, k2, k3, rk2, ls2, in2, sp2⟩ := e338
  have t2 := t1.of C2 mo2 f338
  have A2 : h338 360 = ar 0 9 f00 := ((f338.t _ (by omega) (by omega)).trans ((f1 _ (by omega) (by omega)).trans (fB.t _ (by omega) (by omega)))).trans A0
  refine x_istore (pc := 341) dX7_turn_341 (by decide) rfl ?_
  show Ex _ _ _ _ _ _ [_, _, _, _, _, _, _, _, _, _, _, _, _, _, _, _, _, _, _, _] _ _ _ _
  refine x_iconst (pc := 343) dX7_turn_343 ?_
  refine x_istore (pc := 344) dX7_turn_344 (by decide) rfl ?_
  show Ex _ _ _ _ _ _ [_, _, _, _, _, _, _, _, _, _, _, _, _, _, _, _, _, _, _, _] _ _ _ _
  refine x_iconst (pc := 346) dX7_turn_346 ?_
  refine x_istore (pc := 347) dX7_turn_347 (by decide) rfl ?_
  show Ex _ _ _ _ _ _ [_, _, _, _, _, _, _, _, _, _, _, _, _, _, _, _, _, _, _, _] _ _ _ _
  refine k_tu3 (d := d) hz hN hlx hry (by omega) (fun r hr => ⟨(ls2 r hr).1, (ls2 r hr).2.1⟩) rfl 0 (by omega) h338 f00 t2 A2 (fun i hi => absurd hi (Nat.not_lt_zero _)) (fun h3 f3 t3 a3 ff3 hF3 => ?_)
  obtain ⟨Kf, hKf⟩ := nf_exF (hdm ld2 k1) ((lx (szs S l) t) + (ry N (szs S l) t))
  have hF0 : ∀ i, i < nf (hdm ld2 k1) ((lx (szs S l) t) + (ry N (szs S l) t)) → f3 i = (Kf i : Int) := fun i hi => by
    obtain ⟨k, e1, e2, e3, e4⟩ := hF3 i hi
    rw [e1, nf_inj e3 (hKf i hi).2.1 (e4.trans (hKf i hi).2.2.symm)]
  have hSp : ∀ v, Spn k1 (fun _ => True) (fun i => tr ((lx (szs S l) t) + (ry N (szs S l) t)) f (M2 i)) v ↔ Spn (szs S l t) (fun _ => True) (fun i => tr ((lx (szs S l) t) + (ry N (szs S l) t)) f (gat b (nlT T l) t (lx (szs S l) t) i)) v := fun v => (sp2 v).trans (Spn_cgt (fun i hi j => by
    by_cases e : j < ((lx (szs S l) t) + (ry N (szs S l) t))
    · show tr _ f (M1 i) j = tr _ f _ j
      unfold tr
      rw [if_pos e, if_pos e, hM1 i hi j e]
    · show tr _ f (M1 i) j = tr _ f _ j
      unfold tr
      rw [if_neg e, if_neg e]) v)
  have Fa : ∀ x, (x < 92 ∨ 395 < x) → h3 x = hp x := fun x hx => (ff3 x (by omega)).trans ((f338.t x (by omega) (by omega)).trans ((f1 x (by omega) (by omega)).trans (fB.t x (by omega) (by omega))))
  have Na : h3 96 = ar 0 8 A ∧ h3 97 = ar 0 128 E := ⟨((ff3 _ (by omega)).trans ((f338.t _ (by omega) (by omega)).trans ((f1 _ (by omega) (by omega)).trans (fB.t _ (by omega) (by omega))))).trans Nw.1, ((ff3 _ (by omega)).trans ((f338.t _ (by omega) (by omega)).trans ((f1 _ (by omega) (by omega)).trans (fB.t _ (by omega) (by omega))))).trans Nw.2⟩
  obtain ⟨C, D, Mo, FA, ⟨gq, SA, SB⟩, SC⟩ := id t3
  obtain ⟨C0, C1, C2, C3, C4, C5, C6, C7, C8, C11, C12, C13, C14, C15, C16, C17, C18, C19, C20, C21, C22, C23⟩ := id C
  have hob := C0.ob
  obtain ⟨D1, D2, D3, D4⟩ := id D
  obtain ⟨O1, O2, O3, O4, O5, O6⟩ := id Mo
  refine x_iload (pc := 389) dX7_turn_389 rfl ?_
  refine x_iconst (pc := 391) dX7_turn_391 ?_
  refine x_icmp_le (pc := 392) (tgt := 397) dX7_turn_392 (by decide) (by have := nf_le (hdm ld2 k1) ((lx (szs S l) t) + (ry N (szs S l) t)); omega) (by omega) (fun c392 => ?_) (fun c392 => ?_)
  · exact k_tuD (d := d) hf hz hN hP hS hT hl ht hz8 (by omega) k3 q2 rk2 ls2 in2 hSp hKf hF0 t3 Na a3 (by omega) (fun v h q1 q2 q3 q4 => hq v h q1 (fun x hx => (q2 x hx).trans (Fa x hx)) q3 q4)
  · refine x_iconst (pc := 395) dX7_turn_395 ?_
    refine x_iret (pc := 396) dX7_turn_396 rfl (hq _ _ ⟨M2, ld2, k1, Kf, k3, q2, rk2, ls2, in2, hSp, hKf, Or.inl ⟨by omega, rfl, ⟨_, _, _, _, _, _, _, _, t3⟩⟩⟩ Fa ⟨A, E, Na⟩ ⟨_, a3⟩)
