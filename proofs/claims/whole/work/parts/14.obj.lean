theorem in_cls : ∀ (c : Nat) (q : vw_C), classesX[c]? = some q → ∀ w ∈ u_ws q.1 q.2.1 q.2.2, w ∈ lw_g := by
  intro c q h
  match c, h with
  | 0, h => cases h; exact fun w hw => mem_g ((show ∀ w ∈ u_ws RX0 TX0 3, w ∈ lw_tbl by decide +kernel) w hw) ((show ∀ w ∈ u_ws RX0 TX0 3, goodWord w = true by decide +kernel) w hw)
  | 1, h => cases h; exact fun w hw => mem_g ((show ∀ w ∈ u_ws RX1 TX1 4, w ∈ lw_tbl by decide +kernel) w hw) ((show ∀ w ∈ u_ws RX1 TX1 4, goodWord w = true by decide +kernel) w hw)
  | 2, h => cases h; exact fun w hw => mem_g ((show ∀ w ∈ u_ws RX2 TX2 7, w ∈ lw_tbl by decide +kernel) w hw) ((show ∀ w ∈ u_ws RX2 TX2 7, goodWord w = true by decide +kernel) w hw)
  | 3, h => cases h; exact fun w hw => mem_g ((show ∀ w ∈ u_ws RX3 TX3 5, w ∈ lw_tbl by decide +kernel) w hw) ((show ∀ w ∈ u_ws RX3 TX3 5, goodWord w = true by decide +kernel) w hw)
  | 4, h => cases h; exact fun w hw => mem_g ((show ∀ w ∈ u_ws RX4 TX4 3, w ∈ lw_tbl by decide +kernel) w hw) ((show ∀ w ∈ u_ws RX4 TX4 3, goodWord w = true by decide +kernel) w hw)
  | 5, h => cases h; exact fun w hw => mem_g ((show ∀ w ∈ u_ws RX5 TX5 5, w ∈ lw_tbl by decide +kernel) w hw) ((show ∀ w ∈ u_ws RX5 TX5 5, goodWord w = true by decide +kernel) w hw)
  | 6, h => cases h; exact fun w hw => mem_g ((show ∀ w ∈ u_ws RX6 TX6 10, w ∈ lw_tbl by decide +kernel) w hw) ((show ∀ w ∈ u_ws RX6 TX6 10, goodWord w = true by decide +kernel) w hw)
  | 7, h => cases h; exact fun w hw => mem_g ((show ∀ w ∈ u_ws RX7 TX7 24, w ∈ lw_tbl by decide +kernel) w hw) ((show ∀ w ∈ u_ws RX7 TX7 24, goodWord w = true by decide +kernel) w hw)
  | c + 8, h => simp [classesX] at h
theorem cls_ty : ∀ (c : Nat) (q : vw_C), classesX[c]? = some q → ∀ k, k < q.2.2 → parseFieldDescriptor (q.2.1 k).2.2.1 = some (tyOf c k) := by
  intro c q h
  match c, h with
  | 0, h => cases h; exact tyX0_ok
  | 1, h => cases h; exact tyX1_ok
  | 2, h => cases h; exact tyX2_ok
  | 3, h => cases h; exact tyX3_ok
  | 4, h => cases h; exact tyX4_ok
  | 5, h => cases h; exact tyX5_ok
  | 6, h => cases h; exact tyX6_ok
  | 7, h => cases h; exact tyX7_ok
  | c + 8, h => simp [classesX] at h
theorem cls_nm : ∀ (c : Nat) (q : vw_C), classesX[c]? = some q → ∀ a, a < q.2.2 → ∀ b, b < q.2.2 → a ≠ b → (q.2.1 a).2.1 ≠ (q.2.1 b).2.1 := by
  intro c q h
  match c, h with
  | 0, h => cases h; exact nmX0
  | 1, h => cases h; exact nmX1
  | 2, h => cases h; exact nmX2
  | 3, h => cases h; exact nmX3
  | 4, h => cases h; exact nmX4
  | 5, h => cases h; exact nmX5
  | 6, h => cases h; exact nmX6
  | 7, h => cases h; exact nmX7
  | c + 8, h => simp [classesX] at h
/-- the constant pool's entry idx of the class own is field k of class c -/
def FL (own : String) (idx c k : Nat) : Prop := ∃ q : vw_C, classesX[c]? = some q ∧ k < q.2.2 ∧ Cond.fieldLink own idx (q.2.1 k).1 (q.2.1 k).2.1 (q.2.1 k).2.2.1 ∈ lw_g
def FN (own : String) (idx c k : Nat) : Prop := ∃ (q : vw_C) (host : String), classesX[c]? = some q ∧ k < q.2.2 ∧ Cond.fieldLinkNest own idx (q.2.1 k).1 (q.2.1 k).2.1 (q.2.1 k).2.2.1 host ∈ lw_n
def FP (own : String) (idx c k : Nat) (fin : Bool) (ty : FieldType) : Prop := ∃ q : vw_C, classesX[c]? = some q ∧ k < q.2.2 ∧ Cond.fieldLink own idx (q.2.1 k).1 (q.2.1 k).2.1 (q.2.1 k).2.2.1 ∈ lw_g ∧ (q.2.1 k).2.2.2 = fin ∧ (q.2.1 k).1 = own ∧ tyOf c k = ty
section XO
variable {G : GL} {d rc rs : Nat} {M : MD} {pc : Nat} {ls st : List AV} {hp : HP} {sz : Nat} {Q : Option AV → HP → Nat → Prop}
theorem ob_at {a c : Nat} {fs : Nat → AV} {H : Heap} (h : Rl G hp sz H) (hc : hp a = ob c fs) (ha : a < sz) : ∃ r : vw_C, classesX[c]? = some r ∧ t_OB (ad G a) (G.1 c) r.2.2 (G.2.1 c) H (fun j => cv G (fs j)) := by
  have := h.at ha
  rw [hc] at this
  exact this
theorem x_get {a c j idx : Nat} {fs : Nat → AV} (hd : decode M.2.1 pc = .ok (.getfield idx, 3)) (hF : FL M.1.cls idx c j) (hc : hp a = ob c fs) (ha : a < sz) (k : Ex G d rc rs M (pc + 3) ls (fs j :: st) hp sz Q) : Ex G d rc rs M pc ls (vr a :: st) hp sz Q := by
  intro p l e R s m args below meth c H locs cells slots lsR C h1 h2 h3 h4 h5
  obtain ⟨q, f1, f2, f3⟩ := hF
  obtain ⟨r, r1, cell, q1, q2, q3, q4⟩ := ob_at h3 hc ha
  have hr : r = q := Option.some.inj (r1.symm.trans f1)
  subst hr
  obtain ⟨hS, hfc, kC, hkC, hkind⟩ := C.kk.1 _ _ f1
  obtain ⟨cf, kf, fi, f, hi, hsl⟩ := hS j f2
  refine W.getf C.1 C.2.1 C.own (C.word f3) hi (u_facts hfc hkC (u_lays (fun w hw => C.word hw) (in_cls _ _ f1) f2) hi).1 q1 (by rw [q3]; exact fun h => by cases h) (v := cv G (fs j)) ?_ rfl rfl hd (k p l e R s m args below meth c H locs cells slots lsR C h1 h2 h3 h4 h5)
  rw [hsl, q4 j f2]
theorem x_getN {a c j idx : Nat} {fs : Nat → AV} (hd : decode M.2.1 pc = .ok (.getfield idx, 3)) (hF : FN M.1.cls idx c j) (hc : hp a = ob c fs) (ha : a < sz) (k : Ex G d rc rs M (pc + 3) ls (fs j :: st) hp sz Q) : Ex G d rc rs M pc ls (vr a :: st) hp sz Q := by
  intro p l e R s m args below meth c H locs cells slots lsR C h1 h2 h3 h4 h5
  obtain ⟨q, host, f1, f2, f3⟩ := hF
  obtain ⟨r, r1, cell, q1, q2, q3, q4⟩ := ob_at h3 hc ha
  have hr : r = q := Option.some.inj (r1.symm.trans f1)
  subst hr
  obtain ⟨hS, hfc, kC, hkC, hkind⟩ := C.kk.1 _ _ f1
  obtain ⟨cf, kf, fi, f, hi, hsl⟩ := hS j f2
  refine va_Wgetf C.1 C.2.1 C.own (va_Nw.use rfl (C.kk.2.2.2.2.2.2.1 _ f3)) hi (u_facts hfc hkC (u_lays (fun w hw => C.word hw) (in_cls _ _ f1) f2) hi).1 q1 (by rw [q3]; exact fun h => by cases h) (v := cv G (fs j)) ?_ rfl rfl hd (k p l e R s m args below meth c H locs cells slots lsR C h1 h2 h3 h4 h5)
  rw [hsl, q4 j f2]
theorem fit_int (x : Int) : narrow .int (cv G (vi x)) = cv G (vi x) ∧ fits .int (cv G (vi x)) = true := ⟨rfl, rfl⟩
theorem fit_obj (C : String) (x : Nat) : narrow (.object C) (cv G (vr x)) = cv G (vr x) ∧ fits (.object C) (cv G (vr x)) = true := ⟨rfl, rfl⟩
theorem fit_arr (ty : FieldType) (x : Nat) : narrow (.array ty) (cv G (vr x)) = cv G (vr x) ∧ fits (.array ty) (cv G (vr x)) = true := ⟨rfl, rfl⟩
theorem x_put {a c j idx : Nat} {fs : Nat → AV} {v : AV} {ty : FieldType} (hd : decode M.2.1 pc = .ok (.putfield idx, 3)) (hF : FP M.1.cls idx c j false ty) (hv : narrow ty (cv G v) = cv G v ∧ fits ty (cv G v) = true) (hc : hp a = ob c fs) (ha : a < sz) (k : Ex G d rc rs M (pc + 3) ls st (up hp a (ob c (up fs j v))) sz Q) : Ex G d rc rs M pc ls (v :: vr a :: st) hp sz Q := by
  intro p l e R s m args below meth c' H locs cells slots lsR C h1 h2 h3 h4 h5
  obtain ⟨q, f1, f2, f3, f4, f5, f6⟩ := hF
  obtain ⟨r, r1, cell, q1, q2, q3, q4⟩ := ob_at h3 hc ha
  have hr : r = q := Option.some.inj (r1.symm.trans f1)
  subst hr
  have hts : ∀ w ∈ lw_g, w.before args s = true := fun w hw => C.word hw
  have hap := va_apart (D := (G.1, G.2.1)) (cl := classesX) (tys := []) (own := M.1.cls) hts (in_cls _ _ f1) (tyOf c) (cls_ty _ _ f1) (cls_nm _ _ f1) ⟨C.kk.1, fun k q h => by simp at h⟩ f1
  obtain ⟨hS, hfc, kC, hkC, hkind⟩ := C.kk.1 _ _ f1
  obtain ⟨cf, kf, fi, f, hi, hsl⟩ := hS j f2
  have hlay := hts _ (in_cls _ _ f1 _ (u_in_lay f2))
  unfold u_lay at hlay
  rw [if_neg (by rw [f4]; decide)] at hlay
  have hst := (u_facts hfc hkC (u_lays hts (in_cls _ _ f1) f2) hi).1
  have hpd := cls_ty _ _ f1 j f2
  rw [f6] at hpd
  have h6 := u_store hfc hkC hkind hlay hi hpd hv.1 hv.2
  refine W.putK C.1 C.2.1 (f := f) ⟨C.own, C.word f3, ⟨_, _, _, hi⟩, hst⟩ (by rw [q2]; exact h6) q1 q3 (by rw [hsl]; exact k2_hasslot (q4 j f2)) rfl rfl hd fun H' e1 e2 e3 => ?_
  rw [hsl] at e1 ⊢
  refine k p l e R s m args below meth c' H' _ cells slots lsR C h1 h2 (h3.set ha ⟨r, f1, t_OB.to (V := updV (fun x => cv G (fs x)) j (cv G v)) ⟨_, e1, q2, q3, t_set q4 hap f2 _⟩ (fun i _ => ?_)⟩ e2 e3) (lo_add h4 (ad_ge ha h3.2.1)) h5
  by_cases hij : i = j
  · subst hij
    simp [updV, up]
  · simp [updV, up, hij]
theorem x_putF {a c j idx : Nat} {fs : Nat → AV} {v : AV} {ty : FieldType} (hd : decode M.2.1 pc = .ok (.putfield idx, 3)) (hF : FP M.1.cls idx c j true ty) (hin : M.1.name = "<init>") (hv : narrow ty (cv G v) = cv G v ∧ fits ty (cv G v) = true) (hc : hp a = ob c fs) (ha : a < sz) (k : Ex G d rc rs M (pc + 3) ls st (up hp a (ob c (up fs j v))) sz Q) : Ex G d rc rs M pc ls (v :: vr a :: st) hp sz Q := by
  intro p l e R s m args below meth c' H locs cells slots lsR C h1 h2 h3 h4 h5
  obtain ⟨q, f1, f2, f3, f4, f5, f6⟩ := hF
  obtain ⟨r, r1, cell, q1, q2, q3, q4⟩ := ob_at h3 hc ha
  have hr : r = q := Option.some.inj (r1.symm.trans f1)
  subst hr
  have hts : ∀ w ∈ lw_g, w.before args s = true := fun w hw => C.word hw
  have hap := va_apart (D := (G.1, G.2.1)) (cl := classesX) (tys := []) (own := M.1.cls) hts (in_cls _ _ f1) (tyOf c) (cls_ty _ _ f1) (cls_nm _ _ f1) ⟨C.kk.1, fun k q h => by simp at h⟩ f1
  obtain ⟨hS, hfc, kC, hkC, hkind⟩ := C.kk.1 _ _ f1
  obtain ⟨cf, kf, fi, f, hi, hsl⟩ := hS j f2
  have hlay := hts _ (in_cls _ _ f1 _ (u_in_lay f2))
  unfold u_lay at hlay
  rw [if_pos f4] at hlay
  have hst := (u_facts hfc hkC (u_lays hts (in_cls _ _ f1) f2) hi).1
  have hcf : m.cls = cf := by
    obtain ⟨_, _, c2, _, _, _, -, -, hf', -, -, -, hown2, -⟩ := Cond.laysFinal_spec hlay
    have e1 : c2 = cf := by have := hi.symm.trans hf'; simp at this; exact this.1.symm
    rw [f5] at hown2
    rw [← e1]; exact Option.some.inj (C.own.symm.trans hown2)
  have hpd := cls_ty _ _ f1 j f2
  rw [f6] at hpd
  have h6 := u_fits hfc hkC hkind (Or.inr hlay) hi hpd hv.1 hv.2
  refine W.putFinK C.1 C.2.1 C.own (C.word f3) hi hst hcf (C.2.2.2.2.2.2.1.trans hin) (by rw [q2]; exact h6) q1 q3 (by rw [hsl]; exact k2_hasslot (q4 j f2)) rfl rfl hd fun H' e1 e2 e3 => ?_
  rw [hsl] at e1 ⊢
  refine k p l e R s m args below meth c' H' _ cells slots lsR C h1 h2 (h3.set ha ⟨r, f1, t_OB.to (V := updV (fun x => cv G (fs x)) j (cv G v)) ⟨_, e1, q2, q3, t_set q4 hap f2 _⟩ (fun i _ => ?_)⟩ e2 e3) (lo_add h4 (ad_ge ha h3.2.1)) h5
  by_cases hij : i = j
  · subst hij
    simp [updV, up]
  · simp [updV, up, hij]
/-! returns -/
theorem x_iret {x : Int} (hd : decode M.2.1 pc = .ok (.ireturn, 1)) (hr : M.2.2.2 = some .int) (hq : Q (some (vi x)) hp sz) : Ex G d rc rs M pc ls [vi x] hp sz Q := by
  intro p l e R s m args below meth c H locs cells slots lsR C h1 h2 h3 h4 h5
  refine W.widen (k := cells + rc) (n := slots + rs) (by omega) (by omega) ?_
  exact W.iret C.1 C.2.1 (C.2.2.1.trans hr) (fun t ht _ => ⟨some (vi x), hp, sz, rfl, by rw [ht]; exact h3, hq⟩) h4 hd C.2.2.2.1
theorem x_zret {x : Int} (hd : decode M.2.1 pc = .ok (.ireturn, 1)) (hr : M.2.2.2 = some .boolean) (hx : x = 0 ∨ x = 1) (hq : Q (some (vi x)) hp sz) : Ex G d rc rs M pc ls [vi x] hp sz Q := by
  intro p l e R s m args below meth c H locs cells slots lsR C h1 h2 h3 h4 h5
  refine W.widen (k := cells + rc) (n := slots + rs) (by omega) (by omega) ?_
  exact W.zret C.1 C.2.1 (C.2.2.1.trans hr) (by rcases hx with rfl | rfl <;> decide +kernel) (fun t ht _ => ⟨some (vi x), hp, sz, rfl, by rw [ht]; exact h3, hq⟩) h4 hd C.2.2.2.1
theorem x_lret {x : Int} (hd : decode M.2.1 pc = .ok (.lreturn, 1)) (hr : M.2.2.2 = some .long) (hq : Q (some (vl x)) hp sz) : Ex G d rc rs M pc ls [vl x] hp sz Q := by
  intro p l e R s m args below meth c H locs cells slots lsR C h1 h2 h3 h4 h5
  refine W.widen (k := cells + rc) (n := slots + rs) (by omega) (by omega) ?_
  exact W.lret C.1 C.2.1 (C.2.2.1.trans hr) (fun t ht _ => ⟨some (vl x), hp, sz, rfl, by rw [ht]; exact h3, hq⟩) h4 hd C.2.2.2.1
theorem x_aret {x : Nat} {rt : FieldType} (hd : decode M.2.1 pc = .ok (.areturn, 1)) (hr : M.2.2.2 = some rt) (hrt : (∃ n, rt = .object n) ∨ ∃ t, rt = .array t) (hq : Q (some (vr x)) hp sz) : Ex G d rc rs M pc ls [vr x] hp sz Q := by
  intro p l e R s m args below meth c H locs cells slots lsR C h1 h2 h3 h4 h5
  refine W.widen (k := cells + rc) (n := slots + rs) (by omega) (by omega) ?_
  exact W.aret C.1 C.2.1 (C.2.2.1.trans hr) hrt (Or.inr ⟨_, rfl⟩) (fun t ht _ => ⟨some (vr x), hp, sz, rfl, by rw [ht]; exact h3, hq⟩) h4 hd C.2.2.2.1
theorem x_vret (hd : decode M.2.1 pc = .ok (.return_, 1)) (hr : M.2.2.2 = none) (hq : Q none hp sz) : Ex G d rc rs M pc ls [] hp sz Q := by
  intro p l e R s m args below meth c H locs cells slots lsR C h1 h2 h3 h4 h5
  refine W.widen (k := cells + rc) (n := slots + rs) (by omega) (by omega) ?_
  exact W.vret C.1 C.2.1 (C.2.2.1.trans hr) (fun t ht _ => ⟨none, hp, sz, rfl, by rw [ht]; exact h3, hq⟩) h4 hd C.2.2.2.1
end XO
