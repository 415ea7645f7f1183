/-! the contract of a method, and calls -/
theorem Met_ofWF {l : Launch} {y : MethodName} {ws ws' : List Cond} {rm : Room} {Pc : Array Value → State → Prop} {Qc : Array Value → State → Outcome → State → Prop} {mc ms : Nat} {free : Addr → Prop} {cc : ByteArray} {maxL : Nat} {ret : Option FieldType}
    (hy : plainFor y = true) (hw : ws = Cond.code y cc maxL ret :: ws')
    (body : ∀ p e s m args below meth c s₁, BodyLoose p l y (headSpec ws rm) cc maxL ret e s m args below meth c s₁ → c.maxLocals = maxL → Pc args s →
      W p l e (headSpec ws rm).room s m args below meth c s.heap [] 0 0 (MQ below Qc args s mc ms free) (entryFrame m args maxL)) : Met l y ws rm Pc Qc mc ms free := by
  refine MetFree.of_bodySF (code := cc) (maxLocals := maxL) (ret := ret) hy ?_ ?_
  · intro args s m h hn
    obtain ⟨meth, c, h1, h2, h3, h4, h5, h6, -, -⟩ := Cond.code_spec hn (atoms_spec (ws := ws) h _ (by rw [hw]; exact List.mem_cons_self))
    exact ⟨meth, c, h1, h2, h3, h4, h5, h6⟩
  · intro p e s m args below meth c s₁ B hml hP _
    have hh0 : s₁.heap = s.heap := by rw [B.state]; rfl
    obtain ⟨t, a1, o, b1, b2, b3⟩ := body p e s m args below meth c s₁ B hml hP s₁ hh0 (Stand.of_body B)
    exact ⟨t, o, a1, b1, b2, ⟨b3.1, b3.2⟩⟩
def MW (M : MD) (n : Nat) : Prop := Cond.code M.1 M.2.1 M.2.2.1 M.2.2.2 ∈ lw_g ∧ Cond.initialized M.1.cls ∈ lw_g ∧ plainFor M.1 = true ∧ (M.1.cls ≠ "java/lang/invoke/MethodHandle" ∧ M.1.cls ≠ "java/lang/invoke/VarHandle" ∧ (parseMethodDescriptor M.1.desc).map (fun d => d.parameters.length) = some n) ∧ M.2.2.1 ≤ 40
def MI (M : MD) (c : Nat) : Prop := Cond.instanceMethod M.1 ∈ lw_g ∧ Cond.selects M.1.cls M.1 M.1 ∈ lw_g ∧ ∃ q : vw_C, classesX[c]? = some q ∧ q.1 = M.1.cls
def wsM (M : MD) : List Cond := Cond.code M.1 M.2.1 M.2.2.1 M.2.2.2 :: lw_g
abbrev rmM (d rc rs : Nat) : Room := { frames := d, cells := rc, slots := rs, locals := 60 * d }
def Pcx (G : GL) (as : List AV) (hp : HP) (sz : Nat) : Array Value → State → Prop := fun a U => a = (as.map (cv G)).toArray ∧ Rl G hp sz U.heap ∧ KK G U
theorem Pcx.blind {G : GL} {as : List AV} {hp : HP} {sz : Nat} : FrameBlind (Pcx G as hp sz) := fun a U g mk h => ⟨h.1, h.2.1, KK.same (s := U) (U := U.calling g mk a) rfl h.2.2⟩
theorem goodM {M : MD} {n : Nat} (h : MW M n) : GoodIn lw_g (wsM M) := by
  intro w hw
  rcases List.mem_cons.mp hw with e | e
  · rw [e]
    exact ⟨h.1, good_of_word (good_g _ h.1)⟩
  · exact ⟨e, good_of_word (good_g _ e)⟩
theorem args_lv {G : GL} : ∀ (as : List AV) (i : Nat), (∀ v ∈ as, (cv G v).category = 1) → lv_args i (as.map (cv G)) = (List.range as.length).map (fun j => (i + j, (as.map (cv G)).getD j .null))
  | [], i, h => rfl
  | a :: as, i, h => by
    rw [List.map_cons, lv_args, if_neg (by rw [h a List.mem_cons_self]; decide), args_lv as (i + 1) (fun v hv => h v (List.mem_cons_of_mem _ hv)), List.length_cons, List.range_succ_eq_map, List.map_cons, List.map_map]
    refine congr (congrArg List.cons ?_) (List.map_congr_left fun j _ => ?_)
    · simp
    · simp
      omega
theorem Ct.met {G : GL} {d rc rs n : Nat} {M : MD} {as : List AV} {hp : HP} {sz : Nat} {Q : Option AV → HP → Nat → Prop} {l : Launch} (hM : MW M n) (hlen : as.length ≤ M.2.2.1) (hcat : ∀ v ∈ as, (cv G v).category = 1) (k : Ct G d rc rs M as hp sz Q) :
    Met l M.1 (wsM M) (rmM d rc rs) (Pcx G as hp sz) (Qx G Q) rc rs (fun q => (gH G).size ≤ q) := by
  refine Met_ofWF (cc := M.2.1) (maxL := M.2.2.1) (ret := M.2.2.2) hM.2.2.1 rfl ?_
  intro p e s m args below meth c s₁ B hml hP
  obtain ⟨rfl, hRl, hKK⟩ := hP
  have hts := atoms_spec (ws := wsM M) B.pre
  have hown : s.vm.findClass M.1.cls = some m.cls := findClass_of_methodNamed B.named
  have hsl : (lg_sl (as.map (cv G))).length = as.length := by
    have : ∀ bs : List AV, (∀ v ∈ bs, (cv G v).category = 1) → (lg_sl (bs.map (cv G))).length = bs.length := by
      intro bs
      induction bs with
      | nil => intro _; rfl
      | cons b bs ih =>
        intro h
        have h1 := ih (fun v hv => h v (List.mem_cons_of_mem _ hv))
        have h2 := h b List.mem_cons_self
        rw [List.map_cons]
        simp only [lg_sl, h2, List.length_cons] at h1 ⊢
        first | omega | simp_all
    exact this as hcat
  have hl := lv_entry (as.map (cv G)) (n := M.2.2.1) (by rw [hsl]; exact hlen)
  rw [lg_entry_eq]
  generalize (lg_sl (as.map (cv G)) ++ List.replicate (M.2.2.1 - (lg_sl (as.map (cv G))).length) Slot.unset).toArray = lsR at hl ⊢
  have hlh : lh G lsR M.2.2.1 (as ++ List.replicate (M.2.2.1 - as.length) vu) := by
    refine ⟨hl.1, hl.2.1, fun q hq => ?_⟩
    obtain ⟨v, -, h2, h3, h4⟩ := (prs_mem _ 0 q).mp hq
    rw [Nat.sub_zero] at h2
    by_cases hlt : q.1 < as.length
    · rw [List.getElem?_append_left hlt] at h2
      refine hl.2.2 q ?_
      rw [args_lv as 0 hcat]
      refine List.mem_map.mpr ⟨q.1, List.mem_range.mpr hlt, ?_⟩
      refine Prod.ext (by simp) ?_
      simp [h2, h4]
    · rw [List.getElem?_append_right (by omega), List.getElem?_replicate] at h2
      split at h2
      · cases h2
        simp [jk] at h3
      · cases h2
  have hk := k p l e (headSpec (wsM M) (rmM d rc rs)).room s m (as.map (cv G)).toArray below meth c s.heap [] 0 0 lsR ⟨B.exec, B.bytes, B.returns, B.notSynchronized, hml, hown, (name_of_methodNamed B.named B.method).1, fun w hw => hts w (List.mem_cons_of_mem _ hw), hKK, Nat.le_refl _, Nat.le_refl _⟩ (by rw [Nat.zero_add]; exact Nat.le_refl _) (by rw [Nat.zero_add]; exact Nat.le_refl _) hRl (fun q h => by cases h) hlh
  rw [Nat.zero_add, Nat.zero_add] at hk
  exact hk
section XC
variable {G : GL} {d rc rs : Nat} {M : MD} {pc : Nat} {ls st : List AV} {hp : HP} {sz : Nat} {Q : Option AV → HP → Nat → Prop}
/-- behind a call -/
theorem x_back {p : Program} {l : Launch} {e : Env} {R : Room} {s : State} {m : MethodId} {args : Array Value} {below : List Frame} {meth : Method} {c : Code} {H : Heap} {locs : List Loc} {cells slots mc ms : Nat} {lsR : Array Slot} {st0 : List Value} {a : Array Value} {Q' : Option AV → HP → Nat → Prop}
    (hr : va_Run p l e R s m args below meth c H locs cells slots mc ms (F0 m pc lsR st0) (st.map (cv G)) (Qx G Q' a) (fun q => (gH G).size ≤ q)) (C : Cx G d M p s m args meth c R) (h1 : cells + (mc + rc) ≤ R.cells) (h2 : slots + (ms + rs) ≤ R.slots) (h4 : ∀ q ∈ locs, (gH G).size ≤ q.base) (h5 : lh G lsR M.2.2.1 ls)
    (k : ∀ (r : Option AV) (hp' : HP) (sz' : Nat), Q' r hp' sz' → Ex G d rc rs M (pc + 3) ls (r.toList ++ st) hp' sz' Q) : W p l e R s m args below meth c H locs cells slots (MQ below (Qx G Q) args s (cells + (mc + rc)) (slots + (ms + rs)) (fun q => (gH G).size ≤ q)) (F0 m pc lsR st0) := by
  intro T hT X
  obtain ⟨v, st₀, t, T', L, h0, X', hL, e1, e2, ⟨r, hp', sz', hv, hR, hq⟩, stp⟩ := hr T hT X
  have hv : v = r.map (cv G) := Outcome.returned.inj hv
  subst hv
  obtain ⟨t2, a1, b1⟩ := k r hp' sz' hq p l e R s m args below meth c T'.heap (locs ++ L) (cells + mc) (slots + ms) lsR C (by omega) (by omega) (by rw [e1]; exact hR) (lo_app h4 hL) h5 T' rfl X'
  refine ⟨t2, stp t2 ?_, by rw [← Nat.add_assoc, ← Nat.add_assoc]; exact b1⟩
  have : (r.toList ++ st).map (cv G) = (r.map (cv G)).toList ++ st.map (cv G) := by
    cases r <;> simp
  rw [← this]
  exact a1
theorem x_callV {d' mc ms n idx ci a : Nat} {N : MD} {as : List AV} {fs : Nat → AV} {Q' : Option AV → HP → Nat → Prop} (hd : decode M.2.1 pc = .ok (.invokevirtual idx, 3)) (hN : MW N n) (hI : MI N ci) (hlk : Cond.methodLink M.1.cls idx N.1 ∈ lw_g) (hn : as.length = n) (hlen : n + 1 ≤ N.2.2.1) (hcat : as.all (fun v => (cv G v).category == 1) = true) (hst : (st.map fun v => (cv G v).category).sum ≤ 8) (hdd : d' + 1 ≤ d)
    (hc : hp a = ob ci fs) (ha : a < sz) (ct : Ct G d' mc ms N (vr a :: as) hp sz Q') (k : ∀ (r : Option AV) (hp' : HP) (sz' : Nat), Q' r hp' sz' → Ex G d rc rs M (pc + 3) ls (r.toList ++ st) hp' sz' Q) : Ex G d (mc + rc) (ms + rs) M pc ls (as.reverse ++ vr a :: st) hp sz Q := by
  intro p l e R s m args below meth c H locs cells slots lsR C h1 h2 h3 h4 h5
  have hca : ∀ v ∈ as, (cv G v).category = 1 := fun v hv => by simpa using List.all_eq_true.mp hcat v hv
  have hmet := ct.met (l := l) hN (by simp; omega) (by intro v hv; rcases List.mem_cons.mp hv with rfl | hv; exact rfl; exact hca v hv)
  have hts : ∀ w ∈ lw_g, w.before args s = true := fun w hw => C.word hw
  obtain ⟨i1, i2, q, i3, i4⟩ := hI
  obtain ⟨c1, c2, c3, c4, c5, c6, c7, c8, c9, c10, c11⟩ := id C
  have hB : CallB R s args M.1.cls idx N.1 N.2.1 N.2.2.1 N.2.2.2 (wsM N) (rmM d' mc ms) mc ms n := callB_of n hts (goodM hN) rfl rfl rfl (hts _ hN.2.1) (hts _ hlk) hN.2.2.2.1 ⟨by show d' + 1 ≤ _; omega, by show 8 + (N.2.2.1 + 11) + 60 * d' ≤ _; have := hN.2.2.2.2; omega⟩
  obtain ⟨r, r1, cell, q1, q2, q3, -⟩ := ob_at h3 hc ha
  have hr : r = q := Option.some.inj (r1.symm.trans i3)
  subst hr
  refine x_back (a := (Value.ref (ad G a) :: as.map (cv G)).toArray) (va_runV (As := as.map (cv G)) (rest := st.map (cv G)) (b := ad G a) ⟨c1, c2, c5, c6, hts⟩ hmet ⟨hB, hts _ i1, hts _ i2⟩ ⟨Pcx.blind, ⟨cell, q1, by rw [q3]; rfl, by rw [← i4, q2]; exact (C.kk.1 _ _ r1).2.1⟩, fun U hU hW => ⟨rfl, by rw [hU]; exact h3, C.kk.moved hW⟩⟩ rfl (by simpa using hn) h5.1 (by simp [cv]) (lv_room (by rw [List.map_map]; exact hst)) hd ⟨by omega, by omega⟩) C h1 h2 h4 h5 k
theorem x_callS {d' mc ms n idx : Nat} {N : MD} {as : List AV} {Q' : Option AV → HP → Nat → Prop} (hd : decode M.2.1 pc = .ok (.invokestatic idx, 3)) (hN : MW N n) (hI : Cond.static N.1 ∈ lw_g) (hlk : Cond.methodLink M.1.cls idx N.1 ∈ lw_g) (hn : as.length = n) (hlen : n ≤ N.2.2.1) (hcat : as.all (fun v => (cv G v).category == 1) = true) (hst : (st.map fun v => (cv G v).category).sum ≤ 8) (hdd : d' + 1 ≤ d)
    (ct : Ct G d' mc ms N as hp sz Q') (k : ∀ (r : Option AV) (hp' : HP) (sz' : Nat), Q' r hp' sz' → Ex G d rc rs M (pc + 3) ls (r.toList ++ st) hp' sz' Q) : Ex G d (mc + rc) (ms + rs) M pc ls (as.reverse ++ st) hp sz Q := by
  intro p l e R s m args below meth c H locs cells slots lsR C h1 h2 h3 h4 h5
  have hca : ∀ v ∈ as, (cv G v).category = 1 := fun v hv => by simpa using List.all_eq_true.mp hcat v hv
  have hmet := ct.met (l := l) hN (by omega) hca
  have hts : ∀ w ∈ lw_g, w.before args s = true := fun w hw => C.word hw
  obtain ⟨c1, c2, c3, c4, c5, c6, c7, c8, c9, c10, c11⟩ := id C
  have hB : CallB R s args M.1.cls idx N.1 N.2.1 N.2.2.1 N.2.2.2 (wsM N) (rmM d' mc ms) mc ms n := callB_of n hts (goodM hN) rfl rfl rfl (hts _ hN.2.1) (hts _ hlk) hN.2.2.2.1 ⟨by show d' + 1 ≤ _; omega, by show 8 + (N.2.2.1 + 11) + 60 * d' ≤ _; have := hN.2.2.2.2; omega⟩
  exact x_back (a := (as.map (cv G)).toArray) (va_runS (As := as.map (cv G)) (rest := st.map (cv G)) ⟨c1, c2, c5, c6, hts⟩ hmet ⟨hB, hts _ hI⟩ ⟨Pcx.blind, fun U hU hW => ⟨rfl, by rw [hU]; exact h3, C.kk.moved hW⟩⟩ rfl (by simpa using hn) h5.1 (by simp) (lv_room (by rw [List.map_map]; exact hst)) hd ⟨by omega, by omega⟩) C h1 h2 h4 h5 k
theorem x_callI {d' mc ms n idx a : Nat} {N : MD} {as : List AV} {Q' : Option AV → HP → Nat → Prop} (hd : decode M.2.1 pc = .ok (.invokespecial idx, 3)) (hN : MW N n) (hret : N.2.2.2 = none) (hnm : N.1.name = "<init>") (hI : Cond.instanceMethod N.1 ∈ lw_g) (hlk : Cond.methodLink M.1.cls idx N.1 ∈ lw_g) (hn : as.length = n) (hlen : n + 1 ≤ N.2.2.1) (hcat : as.all (fun v => (cv G v).category == 1) = true) (hst : (st.map fun v => (cv G v).category).sum ≤ 8) (hdd : d' + 1 ≤ d)
    (ct : Ct G d' mc ms N (vr a :: as) hp sz Q') (k : ∀ (r : Option AV) (hp' : HP) (sz' : Nat), Q' r hp' sz' → Ex G d rc rs M (pc + 3) ls (r.toList ++ st) hp' sz' Q) : Ex G d (mc + rc) (ms + rs) M pc ls (as.reverse ++ vr a :: st) hp sz Q := by
  intro p l e R s m args below meth c H locs cells slots lsR C h1 h2 h3 h4 h5
  have hca : ∀ v ∈ as, (cv G v).category = 1 := fun v hv => by simpa using List.all_eq_true.mp hcat v hv
  have hmet := ct.met (l := l) hN (by simp; omega) (by intro v hv; rcases List.mem_cons.mp hv with rfl | hv; exact rfl; exact hca v hv)
  have hts : ∀ w ∈ lw_g, w.before args s = true := fun w hw => C.word hw
  obtain ⟨c1, c2, c3, c4, c5, c6, c7, c8, c9, c10, c11⟩ := id C
  have hB : CallB R s args M.1.cls idx N.1 N.2.1 N.2.2.1 none (wsM N) (rmM d' mc ms) mc ms n := callB_of n hts (goodM hN) (by rw [wsM, hret]) rfl rfl (hts _ hN.2.1) (hts _ hlk) hN.2.2.2.1 ⟨by show d' + 1 ≤ _; omega, by show 8 + (N.2.2.1 + 11) + 60 * d' ≤ _; have := hN.2.2.2.2; omega⟩
  exact x_back (a := (Value.ref (ad G a) :: as.map (cv G)).toArray) (va_runI (As := as.map (cv G)) (rest := st.map (cv G)) (b := ad G a) ⟨c1, c2, c5, c6, hts⟩ hmet ⟨hB, hnm, hts _ hI⟩ ⟨Pcx.blind, fun U hU hW => ⟨rfl, by rw [hU]; exact h3, C.kk.moved hW⟩⟩ rfl (by simpa using hn) h5.1 (by simp [cv]) (lv_room (by rw [List.map_map]; exact hst)) hd ⟨by omega, by omega⟩) C h1 h2 h4 h5 k
theorem x_callIN {d' mc ms n idx a : Nat} {N : MD} {host : String} {as : List AV} {Q' : Option AV → HP → Nat → Prop} (hd : decode M.2.1 pc = .ok (.invokespecial idx, 3)) (hN : MW N n) (hret : N.2.2.2 = none) (hnm : N.1.name = "<init>") (hI : Cond.instanceMethod N.1 ∈ lw_g) (hlk : Cond.methodLinkNest M.1.cls idx N.1 host ∈ lw_n) (hn : as.length = n) (hlen : n + 1 ≤ N.2.2.1) (hcat : as.all (fun v => (cv G v).category == 1) = true) (hst : (st.map fun v => (cv G v).category).sum ≤ 8) (hdd : d' + 1 ≤ d)
    (ct : Ct G d' mc ms N (vr a :: as) hp sz Q') (k : ∀ (r : Option AV) (hp' : HP) (sz' : Nat), Q' r hp' sz' → Ex G d rc rs M (pc + 3) ls (r.toList ++ st) hp' sz' Q) : Ex G d (mc + rc) (ms + rs) M pc ls (as.reverse ++ vr a :: st) hp sz Q := by
  intro p l e R s m args below meth c H locs cells slots lsR C h1 h2 h3 h4 h5
  have hca : ∀ v ∈ as, (cv G v).category = 1 := fun v hv => by simpa using List.all_eq_true.mp hcat v hv
  have hmet := ct.met (l := l) hN (by simp; omega) (by intro v hv; rcases List.mem_cons.mp hv with rfl | hv; exact rfl; exact hca v hv)
  have hts : ∀ w ∈ lw_g, w.before args s = true := fun w hw => C.word hw
  obtain ⟨c1, c2, c3, c4, c5, c6, c7, c8, c9, c10, c11⟩ := id C
  have hB : va_CN R s args M.1.cls idx N.1 host N.2.1 N.2.2.1 none (wsM N) (rmM d' mc ms) mc ms n := va_cnB n hts (goodM hN) (by rw [wsM, hret]) rfl rfl (C.kk.2.2.2.2.2.2.1 _ hlk) (hts _ hN.2.1) hN.2.2.2.1 ⟨by show d' + 1 ≤ _; omega, by show 8 + (N.2.2.1 + 11) + 60 * d' ≤ _; have := hN.2.2.2.2; omega⟩
  exact x_back (a := (Value.ref (ad G a) :: as.map (cv G)).toArray) (va_runIN (As := as.map (cv G)) (rest := st.map (cv G)) (b := ad G a) ⟨c1, c2, c5, c6, hts⟩ hmet ⟨hB, hnm, hts _ hI⟩ ⟨Pcx.blind, fun U hU hW => ⟨rfl, by rw [hU]; exact h3, C.kk.moved hW⟩⟩ rfl (by simpa using hn) h5.1 (by simp [cv]) (lv_room (by rw [List.map_map]; exact hst)) hd ⟨by omega, by omega⟩) C h1 h2 h4 h5 k
end XC
