def LsA (h : HP) (Bg En Cn : Nat → Int) : Prop := h 398 = ar 0 64 Bg ∧ h 399 = ar 0 64 En ∧ h 400 = ar 0 2 Cn
theorem LsA.keep {h h' : HP} {Bg En Cn : Nat → Int} (a : LsA h Bg En Cn) (f : Ft h h') : LsA h' Bg En Cn := ⟨(f _ (by omega) (by omega)).trans a.1, (f _ (by omega) (by omega)).trans a.2.1, (f _ (by omega) (by omega)).trans a.2.2⟩
def Fl (hp h : HP) : Prop := ∀ x, x ≠ 92 → (x < 98 ∨ x = 360 ∨ x = 362 ∨ x = 396 ∨ x = 397 ∨ 400 < x) → h x = hp x
theorem Fl.rf {hp : HP} : Fl hp hp := fun _ _ _ => rfl
theorem Fl.tr {h1 h2 h3 : HP} (a : Fl h1 h2) (b : Fl h2 h3) : Fl h1 h3 := fun x e1 e2 => (b x e1 e2).trans (a x e1 e2)
theorem Ft.l {hp h : HP} (f : Ft hp h) : Fl hp h := fun x e1 e2 => f x e1 (by omega)
theorem Fl.up {hp h : HP} {a : Nat} {c : AC} (f : Fl hp h) (h1 : 398 ≤ a) (h2 : a ≤ 400) : Fl hp (up h a c) := fun x e1 e2 => (up_n _ _ (by omega)).trans (f x e1 e2)
theorem TX.keep {h h' : HP} {p N : Nat} {W : Nat → Nat} {S T : Nat → Int} (t : TX h p N W S T) (f : ∀ x, x ≤ 395 → h' x = h x) : TX h' p N W S T := by
  obtain ⟨M, ld, m, w, g, σ, F, Qs, t1, t2, t3, t4, ⟨g', t5, t5b⟩, t6⟩ := t
  exact ⟨M, ld, m, w, g, σ, F, Qs, t1.keep (f _ (by omega)), t2.keep (fun x _ h2 => f x (by omega)), t3.keep (f _ (by omega)) (fun x _ h2 => f x (by omega)), (f _ (by omega)).trans t4, ⟨g', (f _ (by omega)).trans t5, t5b⟩, fun i hi => (f _ (by omega)).trans (t6 i hi)⟩
/-- the list stands in the rows from place o on -/
def Lk (L : List (Nat × Nat)) (o : Nat) (Bg En : Nat → Int) : Prop := ∀ i, i < L.length → Bg (o + i) = ((L.getD i (0, 0)).1 : Int) ∧ En (o + i) = ((L.getD i (0, 0)).2 : Int)
theorem Lk.push {L : List (Nat × Nat)} {o : Nat} {Bg En : Nat → Int} (h : Lk L o Bg En) (a b : Nat) : Lk (L ++ [(a, b)]) o (up Bg (o + L.length) a) (up En (o + L.length) b) := by
  intro i hi
  rw [List.length_append, List.length_singleton] at hi
  by_cases e : i = L.length
  · subst e
    rw [up_s, up_s, List.getD_eq_getElem?_getD, List.getElem?_append_right (Nat.le_refl _), Nat.sub_self]
    exact ⟨rfl, rfl⟩
  · rw [up_n _ _ (by omega), up_n _ _ (by omega), List.getD_eq_getElem?_getD, List.getElem?_append_left (by omega), ← List.getD_eq_getElem?_getD]
    exact h i (by omega)

theorem k_list3 {K : Type} [Lean.Grind.CommRing K] {f : Int → K} {G : GL} {d : Nat} {sz p N : Nat} (hf : Iot p f) (hz : 615 ≤ sz) (hN : 1 ≤ N ∧ N ≤ 8) (hP : isP p) {W : Nat → Nat} {S T : Nat → Int} (hS : inSm S) (hT : inTm T p) {Rb : Nat → Nat} {st en : Nat → Nat → Nat} {xb : Nat → Nat → Nat → Nat → K} (hBs : ∀ l, l < 8 → Bar N 4 (szs S l) (Lw (W l)) (TK f T (Lw (W l)) (szs S l) l) (Rb l) (st l) (en l) (xb l)) {l sd : Nat} (hl : l < 8) (hsd : sd < 2) {Cn : Nat → Int} {Q : Option AV → HP → Nat → Prop} {a b mm : Nat} (hmm : mm ≤ 32) : ∀ k, k ≤ mm → ∀ (hp : HP) (L : List (Nat × Nat)) (Bg En : Nat → Int), TX hp p N W S T → LsA hp Bg En Cn → Lk L (32 * sd) Bg En → L.length + (mm - k) ≤ 32 → (∀ h Bg1 En1, TX h p N W S T → LsA h Bg1 En1 Cn → Fl hp h → Lk (L ++ List.replicate (mm - k) (a, b)) (32 * sd) Bg1 En1 → (∀ i, (i < 32 * sd ∨ 32 * sd + 32 ≤ i) → Bg1 i = Bg i ∧ En1 i = En i) → Ex G (d + 5) 0 0 mX7_list 83 [vr 92, vi l, vi sd, vi ((L ++ List.replicate (mm - k) (a, b)).length : Nat), vi a, vi b, vi mm, vi mm] [] h sz Q) → Ex G (d + 5) 0 0 mX7_list 41 [vr 92, vi l, vi sd, vi (L.length : Nat), vi a, vi b, vi mm, vi k] [] hp sz Q := by
  refine down (fun hp L Bg En tx As Lk0 hlen hq => ?_) (fun k hk ih hp L Bg En tx As Lk0 hlen hq => ?_)
  · have C := TX.C tx
    obtain ⟨C0, C1, C2, C3, C4, C5, C6, C7, C8, C11, C12, C13, C14, C15, C16, C17, C18, C19, C20, C21, C22, C23⟩ := id C
    have hob := C0.ob
    obtain ⟨A1, A2, A3⟩ := id As
    refine x_iload (pc := 41) dX7_list_41 rfl ?_
    refine x_iload (pc := 43) dX7_list_43 rfl ?_
    refine x_icmp_ge (pc := 45) (tgt := 83) dX7_list_45 (by decide) (by omega) (by omega) (fun c45 => ?_) (fun c45 => ?_)
    · have hq9 := hq hp Bg En tx As Fl.rf (by rw [Nat.sub_self]; simpa using Lk0) (fun i _ => ⟨rfl, rfl⟩)
      rw [Nat.sub_self, List.replicate_zero, List.append_nil] at hq9
      exact hq9
    · exact absurd c45 (by omega)
  · have C := TX.C tx
    obtain ⟨C0, C1, C2, C3, C4, C5, C6, C7, C8, C11, C12, C13, C14, C15, C16, C17, C18, C19, C20, C21, C22, C23⟩ := id C
    have hob := C0.ob
    obtain ⟨A1, A2, A3⟩ := id As
    refine x_iload (pc := 41) dX7_list_41 rfl ?_
    refine x_iload (pc := 43) dX7_list_43 rfl ?_
    refine x_icmp_ge (pc := 45) (tgt := 83) dX7_list_45 (by decide) (by omega) (by omega) (fun c45 => ?_) (fun c45 => ?_)
    · exact absurd c45 (by omega)
    · refine x_aload_n (pc := 48) dX7_list_48 rfl ?_
      refine x_gf (pc := 49) dX7_list_49 fX7_48 (by assumption) (by omega) ?_
      refine x_bipush (pc := 52) dX7_list_52 (by decide) ?_
      refine x_iload_n (pc := 54) dX7_list_54 rfl ?_
      refine x_imul (pc := 55) dX7_list_55 ?_
      refine x_iload_n (pc := 56) dX7_list_56 rfl ?_
      refine x_iadd (pc := 57) dX7_list_57 ?_
      refine x_iload (pc := 58) dX7_list_58 rfl ?_
      refine x_is (pc := 60) (j := 32 * sd + L.length) dX7_list_60 (by assumption) (by omega) (by omega) (by omega) ?_
      have C17b := C17.up (b := 398) (x := ar 0 64 (up Bg (32 * sd + L.length) a)) (by omega)
      have A2b := (up_n hp (ar 0 64 (up Bg (32 * sd + L.length) (a : Int))) (show 399 ≠ 398 by omega)).trans A2
      refine x_aload_n (pc := 61) dX7_list_61 rfl ?_
      refine x_gf (pc := 62) dX7_list_62 fX7_51 (by assumption) (by omega) ?_
      refine x_bipush (pc := 65) dX7_list_65 (by decide) ?_
      refine x_iload_n (pc := 67) dX7_list_67 rfl ?_
      refine x_imul (pc := 68) dX7_list_68 ?_
      refine x_iload_n (pc := 69) dX7_list_69 rfl ?_
      refine x_iadd (pc := 70) dX7_list_70 ?_
      refine x_iload (pc := 71) dX7_list_71 rfl ?_
      refine x_is (pc := 73) (j := 32 * sd + L.length) dX7_list_73 (by assumption) (by omega) (by omega) (by omega) ?_
      refine x_iinc (pc := 74) dX7_list_74 rfl (by decide) rfl ?_
      show Ex _ _ _ _ _ _ [_, _, _, _, _, _, _, _] _ _ _ _
      refine x_iinc (pc := 77) dX7_list_77 rfl (by decide) rfl ?_
      show Ex _ _ _ _ _ _ [_, _, _, _, _, _, _, _] _ _ _ _
      refine x_goto (pc := 80) (tgt := 41) dX7_list_80 (by decide) ?_
      have hL : L.length + 1 = (L ++ [(a, b)]).length := by rw [List.length_append, List.length_singleton]
      have tx2 : TX (up (up hp 398 (ar 0 64 (up Bg (32 * sd + L.length) a))) 399 (ar 0 64 (up En (32 * sd + L.length) b))) p N W S T := tx.keep (fun x hx => (up_n _ _ (by omega)).trans (up_n _ _ (by omega)))
      have As2 : LsA (up (up hp 398 (ar 0 64 (up Bg (32 * sd + L.length) a))) 399 (ar 0 64 (up En (32 * sd + L.length) b))) (up Bg (32 * sd + L.length) a) (up En (32 * sd + L.length) b) Cn := ⟨(up_n _ _ (by omega)).trans (up_s _ _ _), up_s _ _ _, (up_n _ _ (by omega)).trans ((up_n _ _ (by omega)).trans A3)⟩
      rw [show ((L.length : Nat) : Int) + 1 = (((L ++ [(a, b)]).length : Nat) : Int) by omega]
      exact ih _ (L ++ [(a, b)]) _ _ tx2 As2 (Lk0.push a b) (by omega) (fun h Bg1 En1 t1 s1 f1 e1 e2 => by
        have e3 : L ++ [(a, b)] ++ List.replicate (mm - (k + 1)) (a, b) = L ++ List.replicate (mm - k) (a, b) := by
          rw [List.append_assoc, show mm - k = (mm - (k + 1)) + 1 by omega, List.replicate_succ]
          rfl
        rw [e3] at e1 ⊢
        exact hq h Bg1 En1 t1 s1 (((Fl.rf.up (by omega) (by omega)).up (by omega) (by omega)).tr f1) e1 (fun i hi => ⟨(e2 i hi).1.trans (up_n _ _ (by omega)), (e2 i hi).2.trans (up_n _ _ (by omega))⟩))

theorem k_list2 {K : Type} [Lean.Grind.CommRing K] {f : Int → K} {G : GL} {d : Nat} {sz p N : Nat} (hf : Iot p f) (hz : 615 ≤ sz) (hN : 1 ≤ N ∧ N ≤ 8) (hP : isP p) {W : Nat → Nat} {S T : Nat → Int} (hS : inSm S) (hT : inTm T p) {Rb : Nat → Nat} {st en : Nat → Nat → Nat} {xb : Nat → Nat → Nat → Nat → K} (hBs : ∀ l, l < 8 → Bar N 4 (szs S l) (Lw (W l)) (TK f T (Lw (W l)) (szs S l) l) (Rb l) (st l) (en l) (xb l)) {l sd : Nat} (hl : l < 8) (hsd : sd < 2) {Cn : Nat → Int} {Q : Option AV → HP → Nat → Prop} {a : Nat} : ∀ b, b ≤ N → a ≤ b → ∀ (hp : HP) (L : List (Nat × Nat)) (Bg En : Nat → Int) (v6 v7 : AV), TX hp p N W S T → LsA hp Bg En Cn → Lk L (32 * sd) Bg En → (L ++ rB (mul (Rb l) (st l) (en l)) N a (N - b)).length ≤ 32 → (∀ h Bg1 En1 v6 v7, TX h p N W S T → LsA h Bg1 En1 Cn → Fl hp h → Lk (L ++ rB (mul (Rb l) (st l) (en l)) N a (N - b)) (32 * sd) Bg1 En1 → (∀ i, (i < 32 * sd ∨ 32 * sd + 32 ≤ i) → Bg1 i = Bg i ∧ En1 i = En i) → Ex G (d + 5) 0 0 mX7_list 89 [vr 92, vi l, vi sd, vi ((L ++ rB (mul (Rb l) (st l) (en l)) N a (N - b)).length : Nat), vi a, vi N, v6, v7] [] h sz Q) → Ex G (d + 5) 0 0 mX7_list 18 [vr 92, vi l, vi sd, vi (L.length : Nat), vi a, vi b, v6, v7] [] hp sz Q := by
  refine down (fun hab hp L Bg En v6 v7 tx As Lk0 hlen hq => ?_) (fun b hb ih hab hp L Bg En v6 v7 tx As Lk0 hlen hq => ?_)
  · have C := TX.C tx
    obtain ⟨C0, C1, C2, C3, C4, C5, C6, C7, C8, C11, C12, C13, C14, C15, C16, C17, C18, C19, C20, C21, C22, C23⟩ := id C
    have hob := C0.ob
    obtain ⟨A1, A2, A3⟩ := id As
    refine x_iload (pc := 18) dX7_list_18 rfl ?_
    refine x_aload_n (pc := 20) dX7_list_20 rfl ?_
    refine x_gf (pc := 21) dX7_list_21 fX7_93 (by assumption) (by omega) ?_
    refine x_icmp_ge (pc := 24) (tgt := 89) dX7_list_24 (by decide) (by omega) (by omega) (fun c24 => ?_) (fun c24 => ?_)
    · have hq9 := hq hp Bg En v6 v7 tx As Fl.rf (by rw [Nat.sub_self]; show Lk (L ++ []) _ _ _; rw [List.append_nil]; exact Lk0) (fun i _ => ⟨rfl, rfl⟩)
      rw [Nat.sub_self, show rB (mul (Rb l) (st l) (en l)) N a 0 = [] from rfl, List.append_nil] at hq9
      exact hq9
    · exact absurd c24 (by omega)
  · have C := TX.C tx
    obtain ⟨C0, C1, C2, C3, C4, C5, C6, C7, C8, C11, C12, C13, C14, C15, C16, C17, C18, C19, C20, C21, C22, C23⟩ := id C
    have hob := C0.ob
    obtain ⟨A1, A2, A3⟩ := id As
    refine x_iload (pc := 18) dX7_list_18 rfl ?_
    refine x_aload_n (pc := 20) dX7_list_20 rfl ?_
    refine x_gf (pc := 21) dX7_list_21 fX7_93 (by assumption) (by omega) ?_
    refine x_icmp_ge (pc := 24) (tgt := 89) dX7_list_24 (by decide) (by omega) (by omega) (fun c24 => ?_) (fun c24 => ?_)
    · exact absurd c24 (by omega)
    · refine x_aload_n (pc := 27) dX7_list_27 rfl ?_
      refine x_iload_n (pc := 28) dX7_list_28 rfl ?_
      refine x_iload (pc := 29) dX7_list_29 rfl ?_
      refine x_iload (pc := 31) dX7_list_31 rfl ?_
      refine x_y3 (pc := 33) dX7_list_33 wX7_times iX7_times kX7_184 (by decide) rfl (Nat.le_of_ble_eq_true rfl) (by assumption) (by omega) (m_times (d := d) hf hz hN hP hT (l := l) hl (szs_8 hS hl) (hBs l hl) (a := a) (b := b) hab hb tx) (fun v33 h33 e33 => ?_)
      obtain ⟨rfl, tx1, f1⟩ := e33
      have As1 := As.keep f1
      refine x_istore (pc := 36) dX7_list_36 (by decide) rfl ?_
      show Ex _ _ _ _ _ _ [_, _, _, _, _, _, _, _] _ _ _ _
      refine x_iconst (pc := 38) dX7_list_38 ?_
      refine x_istore (pc := 39) dX7_list_39 (by decide) rfl ?_
      show Ex _ _ _ _ _ _ [_, _, _, _, _, _, _, _] _ _ _ _
      rw [rB_s hb, List.length_append, List.length_append, List.length_replicate] at hlen
      refine k_list3 (d := d) hf hz hN hP hS hT hBs hl hsd (a := a) (b := b) (mm := (mul (Rb l) (st l) (en l)) a b) (by omega) 0 (by omega) h33 L Bg En tx1 As1 Lk0 (by omega) (fun h2 Bg2 En2 t2 s2 f2 e1 e2 => ?_)
      rw [Nat.sub_zero] at e1 ⊢
      refine x_iinc (pc := 83) dX7_list_83 rfl (by decide) rfl ?_
      show Ex _ _ _ _ _ _ [_, _, _, _, _, _, _, _] _ _ _ _
      refine x_goto (pc := 86) (tgt := 18) dX7_list_86 (by decide) ?_
      exact ih (by omega) h2 (L ++ List.replicate ((mul (Rb l) (st l) (en l)) a b) (a, b)) Bg2 En2 _ _ t2 s2 e1 (by rw [List.length_append, List.length_append, List.length_replicate]; omega) (fun h3 Bg3 En3 v6 v7 t3 s3 f3 e3 e4 => by
        have e5 : L ++ List.replicate ((mul (Rb l) (st l) (en l)) a b) (a, b) ++ rB (mul (Rb l) (st l) (en l)) N a (N - (b + 1)) = L ++ rB (mul (Rb l) (st l) (en l)) N a (N - b) := by rw [List.append_assoc, ← rB_s hb]
        rw [e5] at e3 ⊢
        exact hq h3 Bg3 En3 v6 v7 t3 s3 ((f1.l.tr f2).tr f3) e3 (fun i hi => ⟨(e4 i hi).1.trans (e2 i hi).1, (e4 i hi).2.trans (e2 i hi).2⟩))

theorem k_list1 {K : Type} [Lean.Grind.CommRing K] {f : Int → K} {G : GL} {d : Nat} {sz p N : Nat} (hf : Iot p f) (hz : 615 ≤ sz) (hN : 1 ≤ N ∧ N ≤ 8) (hP : isP p) {W : Nat → Nat} {S T : Nat → Int} (hS : inSm S) (hT : inTm T p) {Rb : Nat → Nat} {st en : Nat → Nat → Nat} {xb : Nat → Nat → Nat → Nat → K} (hBs : ∀ l, l < 8 → Bar N 4 (szs S l) (Lw (W l)) (TK f T (Lw (W l)) (szs S l) l) (Rb l) (st l) (en l) (xb l)) {l sd : Nat} (hl : l < 8) (hsd : sd < 2) {Cn : Nat → Int} {Q : Option AV → HP → Nat → Prop} : ∀ a, a ≤ N → ∀ (hp : HP) (L : List (Nat × Nat)) (Bg En : Nat → Int) (v5 v6 v7 : AV), TX hp p N W S T → LsA hp Bg En Cn → Lk L (32 * sd) Bg En → (L ++ rA (mul (Rb l) (st l) (en l)) N (N - a)).length ≤ 32 → (∀ h Bg1 En1 v5 v6 v7, TX h p N W S T → LsA h Bg1 En1 Cn → Fl hp h → Lk (L ++ rA (mul (Rb l) (st l) (en l)) N (N - a)) (32 * sd) Bg1 En1 → (∀ i, (i < 32 * sd ∨ 32 * sd + 32 ≤ i) → Bg1 i = Bg i ∧ En1 i = En i) → Ex G (d + 5) 0 0 mX7_list 95 [vr 92, vi l, vi sd, vi ((L ++ rA (mul (Rb l) (st l) (en l)) N (N - a)).length : Nat), vi N, v5, v6, v7] [] h sz Q) → Ex G (d + 5) 0 0 mX7_list 5 [vr 92, vi l, vi sd, vi (L.length : Nat), vi a, v5, v6, v7] [] hp sz Q := by
  refine down (fun hp L Bg En v5 v6 v7 tx As Lk0 hlen hq => ?_) (fun a ha ih hp L Bg En v5 v6 v7 tx As Lk0 hlen hq => ?_)
  · have C := TX.C tx
    obtain ⟨C0, C1, C2, C3, C4, C5, C6, C7, C8, C11, C12, C13, C14, C15, C16, C17, C18, C19, C20, C21, C22, C23⟩ := id C
    have hob := C0.ob
    obtain ⟨A1, A2, A3⟩ := id As
    refine x_iload (pc := 5) dX7_list_5 rfl ?_
    refine x_aload_n (pc := 7) dX7_list_7 rfl ?_
    refine x_gf (pc := 8) dX7_list_8 fX7_93 (by assumption) (by omega) ?_
    refine x_icmp_ge (pc := 11) (tgt := 95) dX7_list_11 (by decide) (by omega) (by omega) (fun c11 => ?_) (fun c11 => ?_)
    · have hq9 := hq hp Bg En v5 v6 v7 tx As Fl.rf (by rw [Nat.sub_self]; show Lk (L ++ []) _ _ _; rw [List.append_nil]; exact Lk0) (fun i _ => ⟨rfl, rfl⟩)
      rw [Nat.sub_self, show rA (mul (Rb l) (st l) (en l)) N 0 = [] from rfl, List.append_nil] at hq9
      exact hq9
    · exact absurd c11 (by omega)
  · have C := TX.C tx
    obtain ⟨C0, C1, C2, C3, C4, C5, C6, C7, C8, C11, C12, C13, C14, C15, C16, C17, C18, C19, C20, C21, C22, C23⟩ := id C
    have hob := C0.ob
    obtain ⟨A1, A2, A3⟩ := id As
    refine x_iload (pc := 5) dX7_list_5 rfl ?_
    refine x_aload_n (pc := 7) dX7_list_7 rfl ?_
    refine x_gf (pc := 8) dX7_list_8 fX7_93 (by assumption) (by omega) ?_
    refine x_icmp_ge (pc := 11) (tgt := 95) dX7_list_11 (by decide) (by omega) (by omega) (fun c11 => ?_) (fun c11 => ?_)
    · exact absurd c11 (by omega)
    · refine x_iload (pc := 14) dX7_list_14 rfl ?_
      refine x_istore (pc := 16) dX7_list_16 (by decide) rfl ?_
      show Ex _ _ _ _ _ _ [_, _, _, _, _, _, _, _] _ _ _ _
      rw [rA_s ha, ← List.append_assoc, List.length_append] at hlen
      refine k_list2 (d := d) hf hz hN hP hS hT hBs hl hsd (a := a) a (by omega) (Nat.le_refl _) hp L Bg En _ _ tx As Lk0 (by omega) (fun h2 Bg2 En2 v6 v7 t2 s2 f2 e1 e2 => ?_)
      refine x_iinc (pc := 89) dX7_list_89 rfl (by decide) rfl ?_
      show Ex _ _ _ _ _ _ [_, _, _, _, _, _, _, _] _ _ _ _
      refine x_goto (pc := 92) (tgt := 5) dX7_list_92 (by decide) ?_
      exact ih h2 (L ++ rB (mul (Rb l) (st l) (en l)) N a (N - a)) Bg2 En2 _ _ _ t2 s2 e1 (by rw [List.length_append]; omega) (fun h3 Bg3 En3 v5 v6 v7 t3 s3 f3 e3 e4 => by
        have e5 : L ++ rB (mul (Rb l) (st l) (en l)) N a (N - a) ++ rA (mul (Rb l) (st l) (en l)) N (N - (a + 1)) = L ++ rA (mul (Rb l) (st l) (en l)) N (N - a) := by rw [List.append_assoc, ← rA_s ha]
        rw [e5] at e3 ⊢
        exact hq h3 Bg3 En3 v5 v6 v7 t3 s3 (f2.tr f3) e3 (fun i hi => ⟨(e4 i hi).1.trans (e2 i hi).1, (e4 i hi).2.trans (e2 i hi).2⟩))

set_option maxRecDepth 4000 in
theorem m_list {K : Type} [Lean.Grind.CommRing K] {f : Int → K} {G : GL} {d : Nat} {sz p N : Nat} (hf : Iot p f) (hz : 615 ≤ sz) (hN : 1 ≤ N ∧ N ≤ 8) (hP : isP p) {W : Nat → Nat} {S T : Nat → Int} (hS : inSm S) (hT : inTm T p) {Rb : Nat → Nat} {st en : Nat → Nat → Nat} {xb : Nat → Nat → Nat → Nat → K} (hBs : ∀ l, l < 8 → Bar N 4 (szs S l) (Lw (W l)) (TK f T (Lw (W l)) (szs S l) l) (Rb l) (st l) (en l) (xb l)) {l sd : Nat} (hl : l < 8) (hsd : sd < 2) {Bg En Cn : Nat → Int} {hp : HP} (tx : TX hp p N W S T) (As : LsA hp Bg En Cn) (hlen : (rA (mul (Rb l) (st l) (en l)) N N).length ≤ 32) : Ct G (d + 5) 0 0 mX7_list [vr 92, vi l, vi sd] hp sz (Vd (fun h => TX h p N W S T ∧ Fl hp h ∧ ∃ Bg1 En1, LsA h Bg1 En1 (up Cn sd ((rA (mul (Rb l) (st l) (en l)) N N).length : Int)) ∧ Lk (rA (mul (Rb l) (st l) (en l)) N N) (32 * sd) Bg1 En1 ∧ ∀ i, (i < 32 * sd ∨ 32 * sd + 32 ≤ i) → Bg1 i = Bg i ∧ En1 i = En i) sz) := by
  show Ex _ _ _ _ _ _ [vr 92, vi l, vi sd, vu, vu, vu, vu, vu] _ _ _ _
  refine x_iconst (pc := 0) dX7_list_0 ?_
  refine x_istore_n (pc := 1) dX7_list_1 (by decide) rfl ?_
  show Ex _ _ _ _ _ _ [_, _, _, _, _, _, _, _] _ _ _ _
  refine x_iconst (pc := 2) dX7_list_2 ?_
  refine x_istore (pc := 3) dX7_list_3 (by decide) rfl ?_
  show Ex _ _ _ _ _ _ [_, _, _, _, _, _, _, _] _ _ _ _
  have key := k_list1 (G := G) (d := d) (Q := Vd (fun h => TX h p N W S T ∧ Fl hp h ∧ ∃ Bg1 En1, LsA h Bg1 En1 (up Cn sd ((rA (mul (Rb l) (st l) (en l)) N N).length : Int)) ∧ Lk (rA (mul (Rb l) (st l) (en l)) N N) (32 * sd) Bg1 En1 ∧ ∀ i, (i < 32 * sd ∨ 32 * sd + 32 ≤ i) → Bg1 i = Bg i ∧ En1 i = En i) sz) hf hz hN hP hS hT hBs hl hsd 0 (by omega) hp [] Bg En vu vu vu tx As (fun i hi => absurd hi (Nat.not_lt_zero _)) (by rw [Nat.sub_zero, List.nil_append]; exact hlen) (fun h Bg1 En1 v5 v6 v7 t1 s1 f1 e1 e2 => by
    rw [Nat.sub_zero, List.nil_append] at e1 ⊢
    have C := t1.C
    obtain ⟨C0, C1, C2, C3, C4, C5, C6, C7, C8, C11, C12, C13, C14, C15, C16, C17, C18, C19, C20, C21, C22, C23⟩ := id C
    have hob := C0.ob
    obtain ⟨A1, A2, A3⟩ := id s1
    refine x_aload_n (pc := 95) dX7_list_95 rfl ?_
    refine x_gf (pc := 96) dX7_list_96 fX7_54 (by assumption) (by omega) ?_
    refine x_iload_n (pc := 99) dX7_list_99 rfl ?_
    refine x_iload_n (pc := 100) dX7_list_100 rfl ?_
    refine x_is (pc := 101) dX7_list_101 (by assumption) (by omega) rfl (by omega) ?_
    refine x_vret (pc := 102) dX7_list_102 rfl ⟨rfl, rfl, t1.keep (fun x hx => up_n _ _ (by omega)), f1.up (by omega) (by omega), Bg1, En1, ⟨(up_n _ _ (by omega)).trans A1, (up_n _ _ (by omega)).trans A2, up_s _ _ _⟩, e1, e2⟩)
  exact key
