/-! shorter rows -/
def fld (hp : HP) (a c j : Nat) (v : AV) : Prop := ∃ fs, hp a = ob c fs ∧ fs j = v
def isob (hp : HP) (a c : Nat) : Prop := ∃ fs, hp a = ob c fs
theorem fld.ob {hp : HP} {a c j : Nat} {v : AV} (h : fld hp a c j v) : isob hp a c := ⟨_, h.choose_spec.1⟩
theorem fld.keep {hp hp' : HP} {a c j : Nat} {v : AV} (h : fld hp a c j v) (e : hp' a = hp a) : fld hp' a c j v := by
  obtain ⟨fs, h1, h2⟩ := h
  exact ⟨fs, e.trans h1, h2⟩
theorem fld.up {hp : HP} {a b c j : Nat} {v : AV} {x : AC} (h : fld hp a c j v) (e : a ≠ b) : fld (up hp b x) a c j v := h.keep (up_n _ _ e)
def Rd (v : Option AV) (hp : HP) (sz : Nat) : Option AV → HP → Nat → Prop := fun r h z => r = v ∧ h = hp ∧ z = sz
section XS
variable {G : GL} {d rc rs : Nat} {M : MD} {pc : Nat} {ls st : List AV} {hp : HP} {sz : Nat} {Q : Option AV → HP → Nat → Prop}
theorem x_gf {a c j idx : Nat} {v : AV} (hd : decode M.2.1 pc = .ok (.getfield idx, 3)) (hF : FL M.1.cls idx c j) (h : fld hp a c j v) (ha : a < sz) (k : Ex G d rc rs M (pc + 3) ls (v :: st) hp sz Q) : Ex G d rc rs M pc ls (vr a :: st) hp sz Q := by
  obtain ⟨fs, h1, h2⟩ := h
  subst h2
  exact x_get hd hF h1 ha k
theorem x_gn {a c j idx : Nat} {v : AV} (hd : decode M.2.1 pc = .ok (.getfield idx, 3)) (hF : FN M.1.cls idx c j) (h : fld hp a c j v) (ha : a < sz) (k : Ex G d rc rs M (pc + 3) ls (v :: st) hp sz Q) : Ex G d rc rs M pc ls (vr a :: st) hp sz Q := by
  obtain ⟨fs, h1, h2⟩ := h
  subst h2
  exact x_getN hd hF h1 ha k
/-- what putting v into field j of the object at a makes of the picture -/
def pf (hp : HP) (a c j : Nat) (v : AV) (hp' : HP) : Prop := (∀ b, b ≠ a → hp' b = hp b) ∧ fld hp' a c j v ∧ ∀ i w, i ≠ j → fld hp a c i w → fld hp' a c i w
theorem x_pfi {a c j idx : Nat} {x : Int} (hd : decode M.2.1 pc = .ok (.putfield idx, 3)) (hF : FP M.1.cls idx c j false .int) (h : isob hp a c) (ha : a < sz) (k : ∀ hp', pf hp a c j (vi x) hp' → Ex G d rc rs M (pc + 3) ls st hp' sz Q) : Ex G d rc rs M pc ls (vi x :: vr a :: st) hp sz Q := by
  obtain ⟨fs, h1⟩ := h
  refine x_put hd hF (fit_int x) h1 ha (k _ ⟨fun b hb => up_n _ _ hb, ⟨_, up_s _ _ _, up_s _ _ _⟩, fun i w hi hw => ?_⟩)
  obtain ⟨fs', g1, g2⟩ := hw
  have e : fs' = fs := congrArg Prod.snd (Sum.inl.inj (g1.symm.trans h1))
  subst e
  exact ⟨_, up_s _ _ _, (up_n _ _ hi).trans g2⟩
theorem x_pfo {a c j idx b : Nat} {C : String} (hd : decode M.2.1 pc = .ok (.putfield idx, 3)) (hF : FP M.1.cls idx c j false (.object C)) (h : isob hp a c) (ha : a < sz) (k : ∀ hp', pf hp a c j (vr b) hp' → Ex G d rc rs M (pc + 3) ls st hp' sz Q) : Ex G d rc rs M pc ls (vr b :: vr a :: st) hp sz Q := by
  obtain ⟨fs, h1⟩ := h
  refine x_put hd hF (fit_obj C b) h1 ha (k _ ⟨fun b hb => up_n _ _ hb, ⟨_, up_s _ _ _, up_s _ _ _⟩, fun i w hi hw => ?_⟩)
  obtain ⟨fs', g1, g2⟩ := hw
  have e : fs' = fs := congrArg Prod.snd (Sum.inl.inj (g1.symm.trans h1))
  subst e
  exact ⟨_, up_s _ _ _, (up_n _ _ hi).trans g2⟩
theorem x_pFv {a c j idx : Nat} {v : AV} {ty : FieldType} (hd : decode M.2.1 pc = .ok (.putfield idx, 3)) (hF : FP M.1.cls idx c j true ty) (hin : M.1.name = "<init>") (hv : narrow ty (cv G v) = cv G v ∧ fits ty (cv G v) = true) (h : isob hp a c) (ha : a < sz) (k : ∀ hp', pf hp a c j v hp' → Ex G d rc rs M (pc + 3) ls st hp' sz Q) : Ex G d rc rs M pc ls (v :: vr a :: st) hp sz Q := by
  obtain ⟨fs, h1⟩ := h
  refine x_putF hd hF hin hv h1 ha (k _ ⟨fun b hb => up_n _ _ hb, ⟨_, up_s _ _ _, up_s _ _ _⟩, fun i w hi hw => ?_⟩)
  obtain ⟨fs', g1, g2⟩ := hw
  have e : fs' = fs := congrArg Prod.snd (Sum.inl.inj (g1.symm.trans h1))
  subst e
  exact ⟨_, up_s _ _ _, (up_n _ _ hi).trans g2⟩
theorem x_v0 {idx ci a : Nat} {N : MD} {Q' : Option AV → HP → Nat → Prop} (hd : decode M.2.1 pc = .ok (.invokevirtual idx, 3)) (hN : MW N 0) (hI : MI N ci) (hlk : Cond.methodLink M.1.cls idx N.1 ∈ lw_g) (hlen : 0 + 1 ≤ N.2.2.1) (hcat : (([] : List AV).all fun v => (cv G v).category == 1) = true) (hst : (st.map fun v => (cv G v).category).sum ≤ 8) (hc : isob hp a ci) (ha : a < sz) (ct : Ct G d 0 0 N (vr a :: []) hp sz Q') (k : ∀ (r : Option AV) (hp' : HP) (sz' : Nat), Q' r hp' sz' → Ex G (d + 1) rc rs M (pc + 3) ls (r.toList ++ st) hp' sz' Q) : Ex G (d + 1) rc rs M pc ls (vr a :: st) hp sz Q := by
  obtain ⟨fs, h1⟩ := hc
  have h := x_callV (as := []) (mc := 0) (ms := 0) (rc := rc) (rs := rs) hd hN hI hlk rfl hlen hcat hst (Nat.le_refl (d + 1)) h1 ha ct k
  rw [Nat.zero_add, Nat.zero_add] at h
  exact h
theorem x_w0 {idx ci a : Nat} {N : MD} {v : AV} (hd : decode M.2.1 pc = .ok (.invokevirtual idx, 3)) (hN : MW N 0) (hI : MI N ci) (hlk : Cond.methodLink M.1.cls idx N.1 ∈ lw_g) (hlen : 0 + 1 ≤ N.2.2.1) (hcat : (([] : List AV).all fun v => (cv G v).category == 1) = true) (hst : (st.map fun v => (cv G v).category).sum ≤ 8) (hc : isob hp a ci) (ha : a < sz) (ct : Ct G d 0 0 N (vr a :: []) hp sz (Rd (some v) hp sz)) (k : Ex G (d + 1) rc rs M (pc + 3) ls (v :: st) hp sz Q) : Ex G (d + 1) rc rs M pc ls (vr a :: st) hp sz Q :=
  x_v0 hd hN hI hlk hlen hcat hst hc ha ct (by rintro _ _ _ ⟨rfl, rfl, rfl⟩; exact k)
theorem x_v1 {idx ci a : Nat} {N : MD} {v1 : AV} {Q' : Option AV → HP → Nat → Prop} (hd : decode M.2.1 pc = .ok (.invokevirtual idx, 3)) (hN : MW N 1) (hI : MI N ci) (hlk : Cond.methodLink M.1.cls idx N.1 ∈ lw_g) (hlen : 1 + 1 ≤ N.2.2.1) (hcat : (([v1] : List AV).all fun v => (cv G v).category == 1) = true) (hst : (st.map fun v => (cv G v).category).sum ≤ 8) (hc : isob hp a ci) (ha : a < sz) (ct : Ct G d 0 0 N (vr a :: [v1]) hp sz Q') (k : ∀ (r : Option AV) (hp' : HP) (sz' : Nat), Q' r hp' sz' → Ex G (d + 1) rc rs M (pc + 3) ls (r.toList ++ st) hp' sz' Q) : Ex G (d + 1) rc rs M pc ls (v1 :: vr a :: st) hp sz Q := by
  obtain ⟨fs, h1⟩ := hc
  have h := x_callV (as := [v1]) (mc := 0) (ms := 0) (rc := rc) (rs := rs) hd hN hI hlk rfl hlen hcat hst (Nat.le_refl (d + 1)) h1 ha ct k
  rw [Nat.zero_add, Nat.zero_add] at h
  exact h
theorem x_w1 {idx ci a : Nat} {N : MD} {v1 : AV} {v : AV} (hd : decode M.2.1 pc = .ok (.invokevirtual idx, 3)) (hN : MW N 1) (hI : MI N ci) (hlk : Cond.methodLink M.1.cls idx N.1 ∈ lw_g) (hlen : 1 + 1 ≤ N.2.2.1) (hcat : (([v1] : List AV).all fun v => (cv G v).category == 1) = true) (hst : (st.map fun v => (cv G v).category).sum ≤ 8) (hc : isob hp a ci) (ha : a < sz) (ct : Ct G d 0 0 N (vr a :: [v1]) hp sz (Rd (some v) hp sz)) (k : Ex G (d + 1) rc rs M (pc + 3) ls (v :: st) hp sz Q) : Ex G (d + 1) rc rs M pc ls (v1 :: vr a :: st) hp sz Q :=
  x_v1 hd hN hI hlk hlen hcat hst hc ha ct (by rintro _ _ _ ⟨rfl, rfl, rfl⟩; exact k)
theorem x_s1 {idx : Nat} {N : MD} {v1 : AV} {Q' : Option AV → HP → Nat → Prop} (hd : decode M.2.1 pc = .ok (.invokestatic idx, 3)) (hN : MW N 1) (hI : Cond.static N.1 ∈ lw_g) (hlk : Cond.methodLink M.1.cls idx N.1 ∈ lw_g) (hlen : 1 ≤ N.2.2.1) (hcat : (([v1] : List AV).all fun v => (cv G v).category == 1) = true) (hst : (st.map fun v => (cv G v).category).sum ≤ 8) (ct : Ct G d 0 0 N [v1] hp sz Q') (k : ∀ (r : Option AV) (hp' : HP) (sz' : Nat), Q' r hp' sz' → Ex G (d + 1) rc rs M (pc + 3) ls (r.toList ++ st) hp' sz' Q) : Ex G (d + 1) rc rs M pc ls (v1 :: st) hp sz Q := by
  have h := x_callS (as := [v1]) (mc := 0) (ms := 0) (rc := rc) (rs := rs) hd hN hI hlk rfl hlen hcat hst (Nat.le_refl (d + 1)) ct k
  rw [Nat.zero_add, Nat.zero_add] at h
  exact h
theorem x_t1 {idx : Nat} {N : MD} {v1 : AV} {v : AV} (hd : decode M.2.1 pc = .ok (.invokestatic idx, 3)) (hN : MW N 1) (hI : Cond.static N.1 ∈ lw_g) (hlk : Cond.methodLink M.1.cls idx N.1 ∈ lw_g) (hlen : 1 ≤ N.2.2.1) (hcat : (([v1] : List AV).all fun v => (cv G v).category == 1) = true) (hst : (st.map fun v => (cv G v).category).sum ≤ 8) (ct : Ct G d 0 0 N [v1] hp sz (Rd (some v) hp sz)) (k : Ex G (d + 1) rc rs M (pc + 3) ls (v :: st) hp sz Q) : Ex G (d + 1) rc rs M pc ls (v1 :: st) hp sz Q :=
  x_s1 hd hN hI hlk hlen hcat hst ct (by rintro _ _ _ ⟨rfl, rfl, rfl⟩; exact k)
theorem x_v2 {idx ci a : Nat} {N : MD} {v1 v2 : AV} {Q' : Option AV → HP → Nat → Prop} (hd : decode M.2.1 pc = .ok (.invokevirtual idx, 3)) (hN : MW N 2) (hI : MI N ci) (hlk : Cond.methodLink M.1.cls idx N.1 ∈ lw_g) (hlen : 2 + 1 ≤ N.2.2.1) (hcat : (([v1, v2] : List AV).all fun v => (cv G v).category == 1) = true) (hst : (st.map fun v => (cv G v).category).sum ≤ 8) (hc : isob hp a ci) (ha : a < sz) (ct : Ct G d 0 0 N (vr a :: [v1, v2]) hp sz Q') (k : ∀ (r : Option AV) (hp' : HP) (sz' : Nat), Q' r hp' sz' → Ex G (d + 1) rc rs M (pc + 3) ls (r.toList ++ st) hp' sz' Q) : Ex G (d + 1) rc rs M pc ls (v2 :: v1 :: vr a :: st) hp sz Q := by
  obtain ⟨fs, h1⟩ := hc
  have h := x_callV (as := [v1, v2]) (mc := 0) (ms := 0) (rc := rc) (rs := rs) hd hN hI hlk rfl hlen hcat hst (Nat.le_refl (d + 1)) h1 ha ct k
  rw [Nat.zero_add, Nat.zero_add] at h
  exact h
theorem x_w2 {idx ci a : Nat} {N : MD} {v1 v2 : AV} {v : AV} (hd : decode M.2.1 pc = .ok (.invokevirtual idx, 3)) (hN : MW N 2) (hI : MI N ci) (hlk : Cond.methodLink M.1.cls idx N.1 ∈ lw_g) (hlen : 2 + 1 ≤ N.2.2.1) (hcat : (([v1, v2] : List AV).all fun v => (cv G v).category == 1) = true) (hst : (st.map fun v => (cv G v).category).sum ≤ 8) (hc : isob hp a ci) (ha : a < sz) (ct : Ct G d 0 0 N (vr a :: [v1, v2]) hp sz (Rd (some v) hp sz)) (k : Ex G (d + 1) rc rs M (pc + 3) ls (v :: st) hp sz Q) : Ex G (d + 1) rc rs M pc ls (v2 :: v1 :: vr a :: st) hp sz Q :=
  x_v2 hd hN hI hlk hlen hcat hst hc ha ct (by rintro _ _ _ ⟨rfl, rfl, rfl⟩; exact k)
theorem x_s2 {idx : Nat} {N : MD} {v1 v2 : AV} {Q' : Option AV → HP → Nat → Prop} (hd : decode M.2.1 pc = .ok (.invokestatic idx, 3)) (hN : MW N 2) (hI : Cond.static N.1 ∈ lw_g) (hlk : Cond.methodLink M.1.cls idx N.1 ∈ lw_g) (hlen : 2 ≤ N.2.2.1) (hcat : (([v1, v2] : List AV).all fun v => (cv G v).category == 1) = true) (hst : (st.map fun v => (cv G v).category).sum ≤ 8) (ct : Ct G d 0 0 N [v1, v2] hp sz Q') (k : ∀ (r : Option AV) (hp' : HP) (sz' : Nat), Q' r hp' sz' → Ex G (d + 1) rc rs M (pc + 3) ls (r.toList ++ st) hp' sz' Q) : Ex G (d + 1) rc rs M pc ls (v2 :: v1 :: st) hp sz Q := by
  have h := x_callS (as := [v1, v2]) (mc := 0) (ms := 0) (rc := rc) (rs := rs) hd hN hI hlk rfl hlen hcat hst (Nat.le_refl (d + 1)) ct k
  rw [Nat.zero_add, Nat.zero_add] at h
  exact h
theorem x_t2 {idx : Nat} {N : MD} {v1 v2 : AV} {v : AV} (hd : decode M.2.1 pc = .ok (.invokestatic idx, 3)) (hN : MW N 2) (hI : Cond.static N.1 ∈ lw_g) (hlk : Cond.methodLink M.1.cls idx N.1 ∈ lw_g) (hlen : 2 ≤ N.2.2.1) (hcat : (([v1, v2] : List AV).all fun v => (cv G v).category == 1) = true) (hst : (st.map fun v => (cv G v).category).sum ≤ 8) (ct : Ct G d 0 0 N [v1, v2] hp sz (Rd (some v) hp sz)) (k : Ex G (d + 1) rc rs M (pc + 3) ls (v :: st) hp sz Q) : Ex G (d + 1) rc rs M pc ls (v2 :: v1 :: st) hp sz Q :=
  x_s2 hd hN hI hlk hlen hcat hst ct (by rintro _ _ _ ⟨rfl, rfl, rfl⟩; exact k)
theorem x_v3 {idx ci a : Nat} {N : MD} {v1 v2 v3 : AV} {Q' : Option AV → HP → Nat → Prop} (hd : decode M.2.1 pc = .ok (.invokevirtual idx, 3)) (hN : MW N 3) (hI : MI N ci) (hlk : Cond.methodLink M.1.cls idx N.1 ∈ lw_g) (hlen : 3 + 1 ≤ N.2.2.1) (hcat : (([v1, v2, v3] : List AV).all fun v => (cv G v).category == 1) = true) (hst : (st.map fun v => (cv G v).category).sum ≤ 8) (hc : isob hp a ci) (ha : a < sz) (ct : Ct G d 0 0 N (vr a :: [v1, v2, v3]) hp sz Q') (k : ∀ (r : Option AV) (hp' : HP) (sz' : Nat), Q' r hp' sz' → Ex G (d + 1) rc rs M (pc + 3) ls (r.toList ++ st) hp' sz' Q) : Ex G (d + 1) rc rs M pc ls (v3 :: v2 :: v1 :: vr a :: st) hp sz Q := by
  obtain ⟨fs, h1⟩ := hc
  have h := x_callV (as := [v1, v2, v3]) (mc := 0) (ms := 0) (rc := rc) (rs := rs) hd hN hI hlk rfl hlen hcat hst (Nat.le_refl (d + 1)) h1 ha ct k
  rw [Nat.zero_add, Nat.zero_add] at h
  exact h
theorem x_w3 {idx ci a : Nat} {N : MD} {v1 v2 v3 : AV} {v : AV} (hd : decode M.2.1 pc = .ok (.invokevirtual idx, 3)) (hN : MW N 3) (hI : MI N ci) (hlk : Cond.methodLink M.1.cls idx N.1 ∈ lw_g) (hlen : 3 + 1 ≤ N.2.2.1) (hcat : (([v1, v2, v3] : List AV).all fun v => (cv G v).category == 1) = true) (hst : (st.map fun v => (cv G v).category).sum ≤ 8) (hc : isob hp a ci) (ha : a < sz) (ct : Ct G d 0 0 N (vr a :: [v1, v2, v3]) hp sz (Rd (some v) hp sz)) (k : Ex G (d + 1) rc rs M (pc + 3) ls (v :: st) hp sz Q) : Ex G (d + 1) rc rs M pc ls (v3 :: v2 :: v1 :: vr a :: st) hp sz Q :=
  x_v3 hd hN hI hlk hlen hcat hst hc ha ct (by rintro _ _ _ ⟨rfl, rfl, rfl⟩; exact k)
theorem x_s3 {idx : Nat} {N : MD} {v1 v2 v3 : AV} {Q' : Option AV → HP → Nat → Prop} (hd : decode M.2.1 pc = .ok (.invokestatic idx, 3)) (hN : MW N 3) (hI : Cond.static N.1 ∈ lw_g) (hlk : Cond.methodLink M.1.cls idx N.1 ∈ lw_g) (hlen : 3 ≤ N.2.2.1) (hcat : (([v1, v2, v3] : List AV).all fun v => (cv G v).category == 1) = true) (hst : (st.map fun v => (cv G v).category).sum ≤ 8) (ct : Ct G d 0 0 N [v1, v2, v3] hp sz Q') (k : ∀ (r : Option AV) (hp' : HP) (sz' : Nat), Q' r hp' sz' → Ex G (d + 1) rc rs M (pc + 3) ls (r.toList ++ st) hp' sz' Q) : Ex G (d + 1) rc rs M pc ls (v3 :: v2 :: v1 :: st) hp sz Q := by
  have h := x_callS (as := [v1, v2, v3]) (mc := 0) (ms := 0) (rc := rc) (rs := rs) hd hN hI hlk rfl hlen hcat hst (Nat.le_refl (d + 1)) ct k
  rw [Nat.zero_add, Nat.zero_add] at h
  exact h
theorem x_t3 {idx : Nat} {N : MD} {v1 v2 v3 : AV} {v : AV} (hd : decode M.2.1 pc = .ok (.invokestatic idx, 3)) (hN : MW N 3) (hI : Cond.static N.1 ∈ lw_g) (hlk : Cond.methodLink M.1.cls idx N.1 ∈ lw_g) (hlen : 3 ≤ N.2.2.1) (hcat : (([v1, v2, v3] : List AV).all fun v => (cv G v).category == 1) = true) (hst : (st.map fun v => (cv G v).category).sum ≤ 8) (ct : Ct G d 0 0 N [v1, v2, v3] hp sz (Rd (some v) hp sz)) (k : Ex G (d + 1) rc rs M (pc + 3) ls (v :: st) hp sz Q) : Ex G (d + 1) rc rs M pc ls (v3 :: v2 :: v1 :: st) hp sz Q :=
  x_s3 hd hN hI hlk hlen hcat hst ct (by rintro _ _ _ ⟨rfl, rfl, rfl⟩; exact k)
theorem x_v4 {idx ci a : Nat} {N : MD} {v1 v2 v3 v4 : AV} {Q' : Option AV → HP → Nat → Prop} (hd : decode M.2.1 pc = .ok (.invokevirtual idx, 3)) (hN : MW N 4) (hI : MI N ci) (hlk : Cond.methodLink M.1.cls idx N.1 ∈ lw_g) (hlen : 4 + 1 ≤ N.2.2.1) (hcat : (([v1, v2, v3, v4] : List AV).all fun v => (cv G v).category == 1) = true) (hst : (st.map fun v => (cv G v).category).sum ≤ 8) (hc : isob hp a ci) (ha : a < sz) (ct : Ct G d 0 0 N (vr a :: [v1, v2, v3, v4]) hp sz Q') (k : ∀ (r : Option AV) (hp' : HP) (sz' : Nat), Q' r hp' sz' → Ex G (d + 1) rc rs M (pc + 3) ls (r.toList ++ st) hp' sz' Q) : Ex G (d + 1) rc rs M pc ls (v4 :: v3 :: v2 :: v1 :: vr a :: st) hp sz Q := by
  obtain ⟨fs, h1⟩ := hc
  have h := x_callV (as := [v1, v2, v3, v4]) (mc := 0) (ms := 0) (rc := rc) (rs := rs) hd hN hI hlk rfl hlen hcat hst (Nat.le_refl (d + 1)) h1 ha ct k
  rw [Nat.zero_add, Nat.zero_add] at h
  exact h
theorem x_w4 {idx ci a : Nat} {N : MD} {v1 v2 v3 v4 : AV} {v : AV} (hd : decode M.2.1 pc = .ok (.invokevirtual idx, 3)) (hN : MW N 4) (hI : MI N ci) (hlk : Cond.methodLink M.1.cls idx N.1 ∈ lw_g) (hlen : 4 + 1 ≤ N.2.2.1) (hcat : (([v1, v2, v3, v4] : List AV).all fun v => (cv G v).category == 1) = true) (hst : (st.map fun v => (cv G v).category).sum ≤ 8) (hc : isob hp a ci) (ha : a < sz) (ct : Ct G d 0 0 N (vr a :: [v1, v2, v3, v4]) hp sz (Rd (some v) hp sz)) (k : Ex G (d + 1) rc rs M (pc + 3) ls (v :: st) hp sz Q) : Ex G (d + 1) rc rs M pc ls (v4 :: v3 :: v2 :: v1 :: vr a :: st) hp sz Q :=
  x_v4 hd hN hI hlk hlen hcat hst hc ha ct (by rintro _ _ _ ⟨rfl, rfl, rfl⟩; exact k)
theorem x_s4 {idx : Nat} {N : MD} {v1 v2 v3 v4 : AV} {Q' : Option AV → HP → Nat → Prop} (hd : decode M.2.1 pc = .ok (.invokestatic idx, 3)) (hN : MW N 4) (hI : Cond.static N.1 ∈ lw_g) (hlk : Cond.methodLink M.1.cls idx N.1 ∈ lw_g) (hlen : 4 ≤ N.2.2.1) (hcat : (([v1, v2, v3, v4] : List AV).all fun v => (cv G v).category == 1) = true) (hst : (st.map fun v => (cv G v).category).sum ≤ 8) (ct : Ct G d 0 0 N [v1, v2, v3, v4] hp sz Q') (k : ∀ (r : Option AV) (hp' : HP) (sz' : Nat), Q' r hp' sz' → Ex G (d + 1) rc rs M (pc + 3) ls (r.toList ++ st) hp' sz' Q) : Ex G (d + 1) rc rs M pc ls (v4 :: v3 :: v2 :: v1 :: st) hp sz Q := by
  have h := x_callS (as := [v1, v2, v3, v4]) (mc := 0) (ms := 0) (rc := rc) (rs := rs) hd hN hI hlk rfl hlen hcat hst (Nat.le_refl (d + 1)) ct k
  rw [Nat.zero_add, Nat.zero_add] at h
  exact h
theorem x_t4 {idx : Nat} {N : MD} {v1 v2 v3 v4 : AV} {v : AV} (hd : decode M.2.1 pc = .ok (.invokestatic idx, 3)) (hN : MW N 4) (hI : Cond.static N.1 ∈ lw_g) (hlk : Cond.methodLink M.1.cls idx N.1 ∈ lw_g) (hlen : 4 ≤ N.2.2.1) (hcat : (([v1, v2, v3, v4] : List AV).all fun v => (cv G v).category == 1) = true) (hst : (st.map fun v => (cv G v).category).sum ≤ 8) (ct : Ct G d 0 0 N [v1, v2, v3, v4] hp sz (Rd (some v) hp sz)) (k : Ex G (d + 1) rc rs M (pc + 3) ls (v :: st) hp sz Q) : Ex G (d + 1) rc rs M pc ls (v4 :: v3 :: v2 :: v1 :: st) hp sz Q :=
  x_s4 hd hN hI hlk hlen hcat hst ct (by rintro _ _ _ ⟨rfl, rfl, rfl⟩; exact k)
theorem x_v5 {idx ci a : Nat} {N : MD} {v1 v2 v3 v4 v5 : AV} {Q' : Option AV → HP → Nat → Prop} (hd : decode M.2.1 pc = .ok (.invokevirtual idx, 3)) (hN : MW N 5) (hI : MI N ci) (hlk : Cond.methodLink M.1.cls idx N.1 ∈ lw_g) (hlen : 5 + 1 ≤ N.2.2.1) (hcat : (([v1, v2, v3, v4, v5] : List AV).all fun v => (cv G v).category == 1) = true) (hst : (st.map fun v => (cv G v).category).sum ≤ 8) (hc : isob hp a ci) (ha : a < sz) (ct : Ct G d 0 0 N (vr a :: [v1, v2, v3, v4, v5]) hp sz Q') (k : ∀ (r : Option AV) (hp' : HP) (sz' : Nat), Q' r hp' sz' → Ex G (d + 1) rc rs M (pc + 3) ls (r.toList ++ st) hp' sz' Q) : Ex G (d + 1) rc rs M pc ls (v5 :: v4 :: v3 :: v2 :: v1 :: vr a :: st) hp sz Q := by
  obtain ⟨fs, h1⟩ := hc
  have h := x_callV (as := [v1, v2, v3, v4, v5]) (mc := 0) (ms := 0) (rc := rc) (rs := rs) hd hN hI hlk rfl hlen hcat hst (Nat.le_refl (d + 1)) h1 ha ct k
  rw [Nat.zero_add, Nat.zero_add] at h
  exact h
theorem x_w5 {idx ci a : Nat} {N : MD} {v1 v2 v3 v4 v5 : AV} {v : AV} (hd : decode M.2.1 pc = .ok (.invokevirtual idx, 3)) (hN : MW N 5) (hI : MI N ci) (hlk : Cond.methodLink M.1.cls idx N.1 ∈ lw_g) (hlen : 5 + 1 ≤ N.2.2.1) (hcat : (([v1, v2, v3, v4, v5] : List AV).all fun v => (cv G v).category == 1) = true) (hst : (st.map fun v => (cv G v).category).sum ≤ 8) (hc : isob hp a ci) (ha : a < sz) (ct : Ct G d 0 0 N (vr a :: [v1, v2, v3, v4, v5]) hp sz (Rd (some v) hp sz)) (k : Ex G (d + 1) rc rs M (pc + 3) ls (v :: st) hp sz Q) : Ex G (d + 1) rc rs M pc ls (v5 :: v4 :: v3 :: v2 :: v1 :: vr a :: st) hp sz Q :=
  x_v5 hd hN hI hlk hlen hcat hst hc ha ct (by rintro _ _ _ ⟨rfl, rfl, rfl⟩; exact k)
theorem x_s5 {idx : Nat} {N : MD} {v1 v2 v3 v4 v5 : AV} {Q' : Option AV → HP → Nat → Prop} (hd : decode M.2.1 pc = .ok (.invokestatic idx, 3)) (hN : MW N 5) (hI : Cond.static N.1 ∈ lw_g) (hlk : Cond.methodLink M.1.cls idx N.1 ∈ lw_g) (hlen : 5 ≤ N.2.2.1) (hcat : (([v1, v2, v3, v4, v5] : List AV).all fun v => (cv G v).category == 1) = true) (hst : (st.map fun v => (cv G v).category).sum ≤ 8) (ct : Ct G d 0 0 N [v1, v2, v3, v4, v5] hp sz Q') (k : ∀ (r : Option AV) (hp' : HP) (sz' : Nat), Q' r hp' sz' → Ex G (d + 1) rc rs M (pc + 3) ls (r.toList ++ st) hp' sz' Q) : Ex G (d + 1) rc rs M pc ls (v5 :: v4 :: v3 :: v2 :: v1 :: st) hp sz Q := by
  have h := x_callS (as := [v1, v2, v3, v4, v5]) (mc := 0) (ms := 0) (rc := rc) (rs := rs) hd hN hI hlk rfl hlen hcat hst (Nat.le_refl (d + 1)) ct k
  rw [Nat.zero_add, Nat.zero_add] at h
  exact h
theorem x_t5 {idx : Nat} {N : MD} {v1 v2 v3 v4 v5 : AV} {v : AV} (hd : decode M.2.1 pc = .ok (.invokestatic idx, 3)) (hN : MW N 5) (hI : Cond.static N.1 ∈ lw_g) (hlk : Cond.methodLink M.1.cls idx N.1 ∈ lw_g) (hlen : 5 ≤ N.2.2.1) (hcat : (([v1, v2, v3, v4, v5] : List AV).all fun v => (cv G v).category == 1) = true) (hst : (st.map fun v => (cv G v).category).sum ≤ 8) (ct : Ct G d 0 0 N [v1, v2, v3, v4, v5] hp sz (Rd (some v) hp sz)) (k : Ex G (d + 1) rc rs M (pc + 3) ls (v :: st) hp sz Q) : Ex G (d + 1) rc rs M pc ls (v5 :: v4 :: v3 :: v2 :: v1 :: st) hp sz Q :=
  x_s5 hd hN hI hlk hlen hcat hst ct (by rintro _ _ _ ⟨rfl, rfl, rfl⟩; exact k)
end XS
