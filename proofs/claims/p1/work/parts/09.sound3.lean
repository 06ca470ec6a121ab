section SND3
variable (G : GT)
-- constants out of the pool, the stack, jumps
theorem sg_iinc {mi pc : Nat} {lv : Lv} {st : List Value} {h : Hp} {nx a b t : Nat} {c : Int} {pc' : Nat} {lv' : Lv} {st' : List Value} {h' : Hp} {k : Nat} {n : Int} (hck : ∀ M, minf[mi]? = some M → chkI M pc (.iinc k n, nx, a, b, c, t) = true) (hs : astep minf (gX G) mi (.iinc k n, nx, a, b, c, t) pc lv st h = some (.inl (pc', lv', st', h'))) : StepOK G mi pc lv st h pc' lv' st' h' := by
  simp only [astep, a_go] at hs
  split at hs
  · next hg =>
    split at hs
    · next hlt =>
      cases hs
      refine ⟨lset1_len _ _ _, Nat.le_refl _, Nat.le_refl _, fun M p l e R s m args below meth c H locs cells slots Q ls C hn hl hR hS h1 h2 h3 h4 hcs kk => ?_⟩
      simp only [Nat.sub_self, Nat.add_zero] at h3 h4 kk
      obtain ⟨hM, hx, hb, -⟩ := C
      obtain ⟨hd, hn⟩ := ck_dec (hck M hM)
      have hn : nx = pc + 3 := hn
      subst hn
      obtain ⟨j, hj⟩ := List.getElem?_of_mem ((las_mem G (q := (k, _))).mpr ⟨_, getD_some.mp hg, rfl⟩)
      exact lv_iinc hx hb hd hl hj rfl hlt rfl (fun ls' hl' => kk H locs ls' (lset1_ok G hl') hR hS)
    · cases hs
  · cases hs
theorem ck_ldc {M : MI} {pc nx a b t idx : Nat} {c : Int} (h : chkI M pc (.ldc idx, nx, a, b, c, t) = true) : if a = 0 then Cond.constant M.1 idx (Int32.ofInt c) ∈ TBLG else ∃ tx, (M.1, idx, a, tx) ∈ strL := by
  unfold chkI at h
  simp only [Bool.and_eq_true] at h
  have h := h.2
  split at h
  · next e => rw [if_pos e]; exact tbg h
  · next e =>
    rw [if_neg e]
    obtain ⟨z, hz, h1⟩ := List.any_eq_true.mp h
    simp only [decide_eq_true_eq] at h1
    obtain ⟨z1, z2, z3, z4⟩ := z
    obtain ⟨rfl, rfl, rfl⟩ := h1
    exact ⟨z4, hz⟩
theorem strL_rng : ∀ z ∈ strL, z.2.2.1 < 14 := by decide +kernel
theorem sg_ldc {mi pc : Nat} {lv : Lv} {st : List Value} {h : Hp} {nx a b t : Nat} {c : Int} {pc' : Nat} {lv' : Lv} {st' : List Value} {h' : Hp} {idx : Nat} (hck : ∀ M, minf[mi]? = some M → chkI M pc (.ldc idx, nx, a, b, c, t) = true) (hs : astep minf (gX G) mi (.ldc idx, nx, a, b, c, t) pc lv st h = some (.inl (pc', lv', st', h'))) : StepOK G mi pc lv st h pc' lv' st' h' := by
  simp only [astep, a_go] at hs
  split at hs
  · next e0 =>
    cases hs
    refine sok0 G fun M p l e R s m args below meth c H locs cells slots Q ls C hl hR hS h1 h2 h3 h4 k => ?_
    obtain ⟨hM, hx, hb, -, hown, hts, -⟩ := C
    have hw := ck_ldc (hck M hM)
    obtain ⟨hd, hn⟩ := ck_dec (hck M hM)
    have hn : nx = pc + 2 := hn
    subst hn
    rw [if_pos e0] at hw
    exact lv_ldc hx hb hown (hts _ hw) hd k
  · next e0 =>
    cases hs
    refine sok0 G fun M p l e R s m args below meth c H locs cells slots Q ls C hl hR hS h1 h2 h3 h4 k => ?_
    obtain ⟨hM, hx, hb, -, hown, hts, hK, hF, -⟩ := C
    have hw := ck_ldc (hck M hM)
    obtain ⟨hd, hn⟩ := ck_dec (hck M hM)
    have hn : nx = pc + 2 := hn
    subst hn
    rw [if_neg e0] at hw
    obtain ⟨tx, hz⟩ := hw
    have ha : a < 14 := strL_rng _ hz
    have h7 := hF.2.2.2.2.2.2.1 _ hz
    refine va_ldcS hx hb hown h7 hd ?_
    rw [List.map_cons, cv_ref G] at k
    unfold adr at k
    rw [if_pos (by omega)] at k
    exact k
theorem sg_ldc_w {mi pc : Nat} {lv : Lv} {st : List Value} {h : Hp} {nx a b t : Nat} {c : Int} {pc' : Nat} {lv' : Lv} {st' : List Value} {h' : Hp} {idx : Nat} (hck : ∀ M, minf[mi]? = some M → chkI M pc (.ldc_w idx, nx, a, b, c, t) = true) (hs : astep minf (gX G) mi (.ldc_w idx, nx, a, b, c, t) pc lv st h = some (.inl (pc', lv', st', h'))) : StepOK G mi pc lv st h pc' lv' st' h' := by
  simp only [astep, a_go] at hs
  cases hs
  refine sok0 G fun M p l e R s m args below meth c H locs cells slots Q ls C hl hR hS h1 h2 h3 h4 k => ?_
  obtain ⟨hM, hx, hb, -, hown, hts, -⟩ := C
  have hw := hck M hM
  obtain ⟨hd, hn⟩ := ck_dec hw
  have hn : nx = pc + 3 := hn
  unfold chkI at hw
  simp only [Bool.and_eq_true] at hw
  subst hn
  exact lv_ldcw hx hb hown (hts _ (tbg hw.2)) hd k
theorem sg_ldc2_w {mi pc : Nat} {lv : Lv} {st : List Value} {h : Hp} {nx a b t : Nat} {c : Int} {pc' : Nat} {lv' : Lv} {st' : List Value} {h' : Hp} {idx : Nat} (hck : ∀ M, minf[mi]? = some M → chkI M pc (.ldc2_w idx, nx, a, b, c, t) = true) (hs : astep minf (gX G) mi (.ldc2_w idx, nx, a, b, c, t) pc lv st h = some (.inl (pc', lv', st', h'))) : StepOK G mi pc lv st h pc' lv' st' h' := by
  simp only [astep, a_go] at hs
  cases hs
  refine sok0 G fun M p l e R s m args below meth c H locs cells slots Q ls C hl hR hS h1 h2 h3 h4 k => ?_
  obtain ⟨hM, hx, hb, -, hown, hts, -⟩ := C
  have hw := hck M hM
  obtain ⟨hd, hn⟩ := ck_dec hw
  have hn : nx = pc + 3 := hn
  unfold chkI at hw
  simp only [Bool.and_eq_true] at hw
  subst hn
  exact lv_ldc2 hx hb hown (hts _ (tbg hw.2)) hd k
theorem sg_dup {mi pc : Nat} {lv : Lv} {st : List Value} {h : Hp} {nx a b t : Nat} {c : Int} {pc' : Nat} {lv' : Lv} {st' : List Value} {h' : Hp} (hck : ∀ M, minf[mi]? = some M → chkI M pc (.dup, nx, a, b, c, t) = true) (hs : astep minf (gX G) mi (.dup, nx, a, b, c, t) pc lv st h = some (.inl (pc', lv', st', h'))) : StepOK G mi pc lv st h pc' lv' st' h' := by
  simp only [astep, a_go] at hs
  split at hs
  · split at hs
    · next hc =>
      cases hs
      refine sok0 G fun M p l e R s m args below meth c H locs cells slots Q ls C hl hR hS h1 h2 h3 h4 k => ?_
      obtain ⟨hM, hx, hb, -⟩ := C
      obtain ⟨hd, hn⟩ := ck_dec (hck M hM)
      have hn : nx = pc + 1 := hn
      subst hn
      exact lv_dup hx hb hd (by rw [cv_cat]; exact hc) k
    · cases hs
  · cases hs
theorem sg_pop {mi pc : Nat} {lv : Lv} {st : List Value} {h : Hp} {nx a b t : Nat} {c : Int} {pc' : Nat} {lv' : Lv} {st' : List Value} {h' : Hp} (hck : ∀ M, minf[mi]? = some M → chkI M pc (.pop, nx, a, b, c, t) = true) (hs : astep minf (gX G) mi (.pop, nx, a, b, c, t) pc lv st h = some (.inl (pc', lv', st', h'))) : StepOK G mi pc lv st h pc' lv' st' h' := by
  simp only [astep, a_go] at hs
  split at hs
  · split at hs
    · next hc =>
      cases hs
      refine sok0 G fun M p l e R s m args below meth c H locs cells slots Q ls C hl hR hS h1 h2 h3 h4 k => ?_
      obtain ⟨hM, hx, hb, -⟩ := C
      obtain ⟨hd, hn⟩ := ck_dec (hck M hM)
      have hn : nx = pc + 1 := hn
      subst hn
      exact lv_pop hx hb hd (by rw [cv_cat]; exact hc) k
    · cases hs
  · cases hs
theorem sg_pop2 {mi pc : Nat} {lv : Lv} {st : List Value} {h : Hp} {nx a b t : Nat} {c : Int} {pc' : Nat} {lv' : Lv} {st' : List Value} {h' : Hp} (hck : ∀ M, minf[mi]? = some M → chkI M pc (.pop2, nx, a, b, c, t) = true) (hs : astep minf (gX G) mi (.pop2, nx, a, b, c, t) pc lv st h = some (.inl (pc', lv', st', h'))) : StepOK G mi pc lv st h pc' lv' st' h' := by
  simp only [astep, a_go] at hs
  split at hs
  · split at hs
    · next hc =>
      cases hs
      refine sok0 G fun M p l e R s m args below meth c H locs cells slots Q ls C hl hR hS h1 h2 h3 h4 k => ?_
      obtain ⟨hM, hx, hb, -⟩ := C
      obtain ⟨hd, hn⟩ := ck_dec (hck M hM)
      have hn : nx = pc + 1 := hn
      subst hn
      exact lv_pop2_2 hx hb hd (by rw [cv_cat]; exact hc) k
    · cases hs
  · cases hs
theorem sg_dup2 {mi pc : Nat} {lv : Lv} {st : List Value} {h : Hp} {nx a b t : Nat} {c : Int} {pc' : Nat} {lv' : Lv} {st' : List Value} {h' : Hp} (hck : ∀ M, minf[mi]? = some M → chkI M pc (.dup2, nx, a, b, c, t) = true) (hs : astep minf (gX G) mi (.dup2, nx, a, b, c, t) pc lv st h = some (.inl (pc', lv', st', h'))) : StepOK G mi pc lv st h pc' lv' st' h' := by
  simp only [astep, a_go] at hs
  split at hs
  · split at hs
    · next hc =>
      cases hs
      refine sok0 G fun M p l e R s m args below meth c H locs cells slots Q ls C hl hR hS h1 h2 h3 h4 k => ?_
      obtain ⟨hM, hx, hb, -⟩ := C
      obtain ⟨hd, hn⟩ := ck_dec (hck M hM)
      have hn : nx = pc + 1 := hn
      subst hn
      exact lv_dup2_11 hx hb hd (by rw [cv_cat]; exact hc.1) (by rw [cv_cat]; exact hc.2) k
    · cases hs
  · cases hs
theorem jmp_eq {pc : Nat} {off : Int} {lv : Lv} {st : List Value} {h : Hp} {r} (hs : a_jmp pc off lv st h = some (.inl r)) : (pc : Int) + off = ((((pc : Int) + off).toNat : Nat) : Int) ∧ r = (((pc : Int) + off).toNat, lv, st, h) := by
  unfold a_jmp at hs
  split at hs
  · next hp =>
    cases hs
    exact ⟨by omega, rfl⟩
  · cases hs
theorem sg_goto {mi pc : Nat} {lv : Lv} {st : List Value} {h : Hp} {nx a b t : Nat} {c : Int} {pc' : Nat} {lv' : Lv} {st' : List Value} {h' : Hp} {off : Int} (hck : ∀ M, minf[mi]? = some M → chkI M pc (.goto off, nx, a, b, c, t) = true) (hs : astep minf (gX G) mi (.goto off, nx, a, b, c, t) pc lv st h = some (.inl (pc', lv', st', h'))) : StepOK G mi pc lv st h pc' lv' st' h' := by
  simp only [astep] at hs
  obtain ⟨ht, e⟩ := jmp_eq hs
  cases e
  refine sok0 G fun M p l e R s m args below meth c H locs cells slots Q ls C hl hR hS h1 h2 h3 h4 k => ?_
  obtain ⟨hM, hx, hb, -⟩ := C
  obtain ⟨hd, hn⟩ := ck_dec (hck M hM)
  exact lv_goto hx hb hd ht k
theorem sg_tableswitch {mi pc : Nat} {lv : Lv} {st : List Value} {h : Hp} {nx a b t : Nat} {c : Int} {pc' : Nat} {lv' : Lv} {st' : List Value} {h' : Hp} {dflt lo hi : Int} {offs : Array Int} (hck : ∀ M, minf[mi]? = some M → chkI M pc (.tableswitch dflt lo hi offs, nx, a, b, c, t) = true) (hs : astep minf (gX G) mi (.tableswitch dflt lo hi offs, nx, a, b, c, t) pc lv st h = some (.inl (pc', lv', st', h'))) : StepOK G mi pc lv st h pc' lv' st' h' := by
  simp only [astep] at hs
  split at hs
  · next x st =>
    obtain ⟨ht, e⟩ := jmp_eq hs
    cases e
    refine sok0 G fun M p l e R s m args below meth c H locs cells slots Q ls C hl hR hS h1 h2 h3 h4 k => ?_
    obtain ⟨hM, hx, hb, -⟩ := C
    have hw := hck M hM
    obtain ⟨hd, hn⟩ := ck_dec hw
    unfold chkI at hw
    simp only [Bool.and_eq_true, decide_eq_true_eq] at hw
    have hsz := hw.2
    unfold swt at ht k
    by_cases ho : x.toInt < lo ∨ hi < x.toInt
    · rw [if_pos ho] at ht k
      exact lv_tableOut hx hb hd ho ht k
    · rw [if_neg ho] at ht k
      have hlt : (x.toInt - lo).toNat < offs.size := by omega
      refine lv_tableIn hx hb hd (fun z => ho (Or.inl z)) (fun z => ho (Or.inr z)) (off := offs.getD (x.toInt - lo).toNat 0) ?_ ht k
      rw [Array.getD_eq_getD_getElem?, Array.getElem?_eq_getElem hlt]
      rfl
  · cases hs
theorem sg_lookupswitch {mi pc : Nat} {lv : Lv} {st : List Value} {h : Hp} {nx a b t : Nat} {c : Int} {pc' : Nat} {lv' : Lv} {st' : List Value} {h' : Hp} {dflt : Int} {ps : Array (Int × Int)} (hck : ∀ M, minf[mi]? = some M → chkI M pc (.lookupswitch dflt ps, nx, a, b, c, t) = true) (hs : astep minf (gX G) mi (.lookupswitch dflt ps, nx, a, b, c, t) pc lv st h = some (.inl (pc', lv', st', h'))) : StepOK G mi pc lv st h pc' lv' st' h' := by
  simp only [astep] at hs
  split at hs
  · next x st =>
    obtain ⟨ht, e⟩ := jmp_eq hs
    cases e
    refine sok0 G fun M p l e R s m args below meth c H locs cells slots Q ls C hl hR hS h1 h2 h3 h4 k => ?_
    obtain ⟨hM, hx, hb, -⟩ := C
    have hw := hck M hM
    obtain ⟨hd, hn⟩ := ck_dec hw
    unfold chkI at hw
    simp only [Bool.and_eq_true] at hw
    exact lv_lookup hx hb hd hw.2 rfl ht k
  · cases hs
theorem ck_jmpC {M : MI} {pc nx a b t : Nat} {c off : Int} {cd : ClassFile.Cond} (h : chkI M pc (.ifCond cd off, nx, a, b, c, t) = true) : 0 ≤ (pc : Int) + off := by
  unfold chkI at h
  simp only [Bool.and_eq_true, decide_eq_true_eq] at h
  exact h.2
theorem ck_jmpI {M : MI} {pc nx a b t : Nat} {c off : Int} {cd : ClassFile.Cond} (h : chkI M pc (.if_icmp cd off, nx, a, b, c, t) = true) : 0 ≤ (pc : Int) + off := by
  unfold chkI at h
  simp only [Bool.and_eq_true, decide_eq_true_eq] at h
  exact h.2
theorem sg_if_eq {mi pc : Nat} {lv : Lv} {st : List Value} {h : Hp} {nx a b t : Nat} {c : Int} {pc' : Nat} {lv' : Lv} {st' : List Value} {h' : Hp} {off : Int} (hck : ∀ M, minf[mi]? = some M → chkI M pc (.ifCond .eq off, nx, a, b, c, t) = true) (hs : astep minf (gX G) mi (.ifCond .eq off, nx, a, b, c, t) pc lv st h = some (.inl (pc', lv', st', h'))) : StepOK G mi pc lv st h pc' lv' st' h' := by
  simp only [astep, a_go, cc_t, decide_eq_true_eq] at hs
  split at hs
  · split at hs
    · next hc =>
      obtain ⟨ht, e⟩ := jmp_eq hs
      cases e
      refine sok0 G fun M p l e R s m args below meth c H locs cells slots Q ls C hl hR hS h1 h2 h3 h4 k => ?_
      obtain ⟨hM, hx, hb, -⟩ := C
      obtain ⟨hd, hn⟩ := ck_dec (hck M hM)
      exact lv_if_eq hx hb hd ht (fun _ => k) (fun z => absurd hc z)
    · next hc =>
      cases hs
      refine sok0 G fun M p l e R s m args below meth c H locs cells slots Q ls C hl hR hS h1 h2 h3 h4 k => ?_
      obtain ⟨hM, hx, hb, -⟩ := C
      have hp := ck_jmpC (hck M hM)
      obtain ⟨hd, hn⟩ := ck_dec (hck M hM)
      have hn : nx = pc + 3 := hn
      subst hn
      exact lv_if_eq hx hb hd (tgt := ((pc : Int) + off).toNat) (by omega) (fun z => absurd z hc) (fun _ => k)
  · cases hs
theorem sg_icmp_eq {mi pc : Nat} {lv : Lv} {st : List Value} {h : Hp} {nx a b t : Nat} {c : Int} {pc' : Nat} {lv' : Lv} {st' : List Value} {h' : Hp} {off : Int} (hck : ∀ M, minf[mi]? = some M → chkI M pc (.if_icmp .eq off, nx, a, b, c, t) = true) (hs : astep minf (gX G) mi (.if_icmp .eq off, nx, a, b, c, t) pc lv st h = some (.inl (pc', lv', st', h'))) : StepOK G mi pc lv st h pc' lv' st' h' := by
  simp only [astep, a_go, cc_t, decide_eq_true_eq] at hs
  split at hs
  · split at hs
    · next hc =>
      obtain ⟨ht, e⟩ := jmp_eq hs
      cases e
      refine sok0 G fun M p l e R s m args below meth c H locs cells slots Q ls C hl hR hS h1 h2 h3 h4 k => ?_
      obtain ⟨hM, hx, hb, -⟩ := C
      obtain ⟨hd, hn⟩ := ck_dec (hck M hM)
      exact lv_icmp_eq hx hb hd ht (fun _ => k) (fun z => absurd hc z)
    · next hc =>
      cases hs
      refine sok0 G fun M p l e R s m args below meth c H locs cells slots Q ls C hl hR hS h1 h2 h3 h4 k => ?_
      obtain ⟨hM, hx, hb, -⟩ := C
      have hp := ck_jmpI (hck M hM)
      obtain ⟨hd, hn⟩ := ck_dec (hck M hM)
      have hn : nx = pc + 3 := hn
      subst hn
      exact lv_icmp_eq hx hb hd (tgt := ((pc : Int) + off).toNat) (by omega) (fun z => absurd z hc) (fun _ => k)
  · cases hs
theorem sg_if_ne {mi pc : Nat} {lv : Lv} {st : List Value} {h : Hp} {nx a b t : Nat} {c : Int} {pc' : Nat} {lv' : Lv} {st' : List Value} {h' : Hp} {off : Int} (hck : ∀ M, minf[mi]? = some M → chkI M pc (.ifCond .ne off, nx, a, b, c, t) = true) (hs : astep minf (gX G) mi (.ifCond .ne off, nx, a, b, c, t) pc lv st h = some (.inl (pc', lv', st', h'))) : StepOK G mi pc lv st h pc' lv' st' h' := by
  simp only [astep, a_go, cc_t, decide_eq_true_eq] at hs
  split at hs
  · split at hs
    · next hc =>
      obtain ⟨ht, e⟩ := jmp_eq hs
      cases e
      refine sok0 G fun M p l e R s m args below meth c H locs cells slots Q ls C hl hR hS h1 h2 h3 h4 k => ?_
      obtain ⟨hM, hx, hb, -⟩ := C
      obtain ⟨hd, hn⟩ := ck_dec (hck M hM)
      exact lv_if_ne hx hb hd ht (fun _ => k) (fun z => absurd z hc)
    · next hc =>
      cases hs
      refine sok0 G fun M p l e R s m args below meth c H locs cells slots Q ls C hl hR hS h1 h2 h3 h4 k => ?_
      obtain ⟨hM, hx, hb, -⟩ := C
      have hp := ck_jmpC (hck M hM)
      obtain ⟨hd, hn⟩ := ck_dec (hck M hM)
      have hn : nx = pc + 3 := hn
      subst hn
      exact lv_if_ne hx hb hd (tgt := ((pc : Int) + off).toNat) (by omega) (fun z => absurd z hc) (fun _ => k)
  · cases hs
theorem sg_icmp_ne {mi pc : Nat} {lv : Lv} {st : List Value} {h : Hp} {nx a b t : Nat} {c : Int} {pc' : Nat} {lv' : Lv} {st' : List Value} {h' : Hp} {off : Int} (hck : ∀ M, minf[mi]? = some M → chkI M pc (.if_icmp .ne off, nx, a, b, c, t) = true) (hs : astep minf (gX G) mi (.if_icmp .ne off, nx, a, b, c, t) pc lv st h = some (.inl (pc', lv', st', h'))) : StepOK G mi pc lv st h pc' lv' st' h' := by
  simp only [astep, a_go, cc_t, decide_eq_true_eq] at hs
  split at hs
  · split at hs
    · next hc =>
      obtain ⟨ht, e⟩ := jmp_eq hs
      cases e
      refine sok0 G fun M p l e R s m args below meth c H locs cells slots Q ls C hl hR hS h1 h2 h3 h4 k => ?_
      obtain ⟨hM, hx, hb, -⟩ := C
      obtain ⟨hd, hn⟩ := ck_dec (hck M hM)
      exact lv_icmp_ne hx hb hd ht (fun _ => k) (fun z => absurd z hc)
    · next hc =>
      cases hs
      refine sok0 G fun M p l e R s m args below meth c H locs cells slots Q ls C hl hR hS h1 h2 h3 h4 k => ?_
      obtain ⟨hM, hx, hb, -⟩ := C
      have hp := ck_jmpI (hck M hM)
      obtain ⟨hd, hn⟩ := ck_dec (hck M hM)
      have hn : nx = pc + 3 := hn
      subst hn
      exact lv_icmp_ne hx hb hd (tgt := ((pc : Int) + off).toNat) (by omega) (fun z => absurd z hc) (fun _ => k)
  · cases hs
theorem sg_if_lt {mi pc : Nat} {lv : Lv} {st : List Value} {h : Hp} {nx a b t : Nat} {c : Int} {pc' : Nat} {lv' : Lv} {st' : List Value} {h' : Hp} {off : Int} (hck : ∀ M, minf[mi]? = some M → chkI M pc (.ifCond .lt off, nx, a, b, c, t) = true) (hs : astep minf (gX G) mi (.ifCond .lt off, nx, a, b, c, t) pc lv st h = some (.inl (pc', lv', st', h'))) : StepOK G mi pc lv st h pc' lv' st' h' := by
  simp only [astep, a_go, cc_t, decide_eq_true_eq] at hs
  split at hs
  · split at hs
    · next hc =>
      obtain ⟨ht, e⟩ := jmp_eq hs
      cases e
      refine sok0 G fun M p l e R s m args below meth c H locs cells slots Q ls C hl hR hS h1 h2 h3 h4 k => ?_
      obtain ⟨hM, hx, hb, -⟩ := C
      obtain ⟨hd, hn⟩ := ck_dec (hck M hM)
      exact lv_if_lt hx hb hd ht (fun _ => k) (fun z => absurd hc z)
    · next hc =>
      cases hs
      refine sok0 G fun M p l e R s m args below meth c H locs cells slots Q ls C hl hR hS h1 h2 h3 h4 k => ?_
      obtain ⟨hM, hx, hb, -⟩ := C
      have hp := ck_jmpC (hck M hM)
      obtain ⟨hd, hn⟩ := ck_dec (hck M hM)
      have hn : nx = pc + 3 := hn
      subst hn
      exact lv_if_lt hx hb hd (tgt := ((pc : Int) + off).toNat) (by omega) (fun z => absurd z hc) (fun _ => k)
  · cases hs
theorem sg_icmp_lt {mi pc : Nat} {lv : Lv} {st : List Value} {h : Hp} {nx a b t : Nat} {c : Int} {pc' : Nat} {lv' : Lv} {st' : List Value} {h' : Hp} {off : Int} (hck : ∀ M, minf[mi]? = some M → chkI M pc (.if_icmp .lt off, nx, a, b, c, t) = true) (hs : astep minf (gX G) mi (.if_icmp .lt off, nx, a, b, c, t) pc lv st h = some (.inl (pc', lv', st', h'))) : StepOK G mi pc lv st h pc' lv' st' h' := by
  simp only [astep, a_go, cc_t, decide_eq_true_eq] at hs
  split at hs
  · split at hs
    · next hc =>
      obtain ⟨ht, e⟩ := jmp_eq hs
      cases e
      refine sok0 G fun M p l e R s m args below meth c H locs cells slots Q ls C hl hR hS h1 h2 h3 h4 k => ?_
      obtain ⟨hM, hx, hb, -⟩ := C
      obtain ⟨hd, hn⟩ := ck_dec (hck M hM)
      exact lv_icmp_lt hx hb hd ht (fun _ => k) (fun z => absurd hc z)
    · next hc =>
      cases hs
      refine sok0 G fun M p l e R s m args below meth c H locs cells slots Q ls C hl hR hS h1 h2 h3 h4 k => ?_
      obtain ⟨hM, hx, hb, -⟩ := C
      have hp := ck_jmpI (hck M hM)
      obtain ⟨hd, hn⟩ := ck_dec (hck M hM)
      have hn : nx = pc + 3 := hn
      subst hn
      exact lv_icmp_lt hx hb hd (tgt := ((pc : Int) + off).toNat) (by omega) (fun z => absurd z hc) (fun _ => k)
  · cases hs
theorem sg_if_ge {mi pc : Nat} {lv : Lv} {st : List Value} {h : Hp} {nx a b t : Nat} {c : Int} {pc' : Nat} {lv' : Lv} {st' : List Value} {h' : Hp} {off : Int} (hck : ∀ M, minf[mi]? = some M → chkI M pc (.ifCond .ge off, nx, a, b, c, t) = true) (hs : astep minf (gX G) mi (.ifCond .ge off, nx, a, b, c, t) pc lv st h = some (.inl (pc', lv', st', h'))) : StepOK G mi pc lv st h pc' lv' st' h' := by
  simp only [astep, a_go, cc_t, decide_eq_true_eq] at hs
  split at hs
  · split at hs
    · next hc =>
      obtain ⟨ht, e⟩ := jmp_eq hs
      cases e
      refine sok0 G fun M p l e R s m args below meth c H locs cells slots Q ls C hl hR hS h1 h2 h3 h4 k => ?_
      obtain ⟨hM, hx, hb, -⟩ := C
      obtain ⟨hd, hn⟩ := ck_dec (hck M hM)
      exact lv_if_ge hx hb hd ht (fun _ => k) (fun z => absurd hc z)
    · next hc =>
      cases hs
      refine sok0 G fun M p l e R s m args below meth c H locs cells slots Q ls C hl hR hS h1 h2 h3 h4 k => ?_
      obtain ⟨hM, hx, hb, -⟩ := C
      have hp := ck_jmpC (hck M hM)
      obtain ⟨hd, hn⟩ := ck_dec (hck M hM)
      have hn : nx = pc + 3 := hn
      subst hn
      exact lv_if_ge hx hb hd (tgt := ((pc : Int) + off).toNat) (by omega) (fun z => absurd z hc) (fun _ => k)
  · cases hs
theorem sg_icmp_ge {mi pc : Nat} {lv : Lv} {st : List Value} {h : Hp} {nx a b t : Nat} {c : Int} {pc' : Nat} {lv' : Lv} {st' : List Value} {h' : Hp} {off : Int} (hck : ∀ M, minf[mi]? = some M → chkI M pc (.if_icmp .ge off, nx, a, b, c, t) = true) (hs : astep minf (gX G) mi (.if_icmp .ge off, nx, a, b, c, t) pc lv st h = some (.inl (pc', lv', st', h'))) : StepOK G mi pc lv st h pc' lv' st' h' := by
  simp only [astep, a_go, cc_t, decide_eq_true_eq] at hs
  split at hs
  · split at hs
    · next hc =>
      obtain ⟨ht, e⟩ := jmp_eq hs
      cases e
      refine sok0 G fun M p l e R s m args below meth c H locs cells slots Q ls C hl hR hS h1 h2 h3 h4 k => ?_
      obtain ⟨hM, hx, hb, -⟩ := C
      obtain ⟨hd, hn⟩ := ck_dec (hck M hM)
      exact lv_icmp_ge hx hb hd ht (fun _ => k) (fun z => absurd hc z)
    · next hc =>
      cases hs
      refine sok0 G fun M p l e R s m args below meth c H locs cells slots Q ls C hl hR hS h1 h2 h3 h4 k => ?_
      obtain ⟨hM, hx, hb, -⟩ := C
      have hp := ck_jmpI (hck M hM)
      obtain ⟨hd, hn⟩ := ck_dec (hck M hM)
      have hn : nx = pc + 3 := hn
      subst hn
      exact lv_icmp_ge hx hb hd (tgt := ((pc : Int) + off).toNat) (by omega) (fun z => absurd z hc) (fun _ => k)
  · cases hs
theorem sg_if_gt {mi pc : Nat} {lv : Lv} {st : List Value} {h : Hp} {nx a b t : Nat} {c : Int} {pc' : Nat} {lv' : Lv} {st' : List Value} {h' : Hp} {off : Int} (hck : ∀ M, minf[mi]? = some M → chkI M pc (.ifCond .gt off, nx, a, b, c, t) = true) (hs : astep minf (gX G) mi (.ifCond .gt off, nx, a, b, c, t) pc lv st h = some (.inl (pc', lv', st', h'))) : StepOK G mi pc lv st h pc' lv' st' h' := by
  simp only [astep, a_go, cc_t, decide_eq_true_eq] at hs
  split at hs
  · split at hs
    · next hc =>
      obtain ⟨ht, e⟩ := jmp_eq hs
      cases e
      refine sok0 G fun M p l e R s m args below meth c H locs cells slots Q ls C hl hR hS h1 h2 h3 h4 k => ?_
      obtain ⟨hM, hx, hb, -⟩ := C
      obtain ⟨hd, hn⟩ := ck_dec (hck M hM)
      exact lv_if_gt hx hb hd ht (fun _ => k) (fun z => absurd hc z)
    · next hc =>
      cases hs
      refine sok0 G fun M p l e R s m args below meth c H locs cells slots Q ls C hl hR hS h1 h2 h3 h4 k => ?_
      obtain ⟨hM, hx, hb, -⟩ := C
      have hp := ck_jmpC (hck M hM)
      obtain ⟨hd, hn⟩ := ck_dec (hck M hM)
      have hn : nx = pc + 3 := hn
      subst hn
      exact lv_if_gt hx hb hd (tgt := ((pc : Int) + off).toNat) (by omega) (fun z => absurd z hc) (fun _ => k)
  · cases hs
theorem sg_icmp_gt {mi pc : Nat} {lv : Lv} {st : List Value} {h : Hp} {nx a b t : Nat} {c : Int} {pc' : Nat} {lv' : Lv} {st' : List Value} {h' : Hp} {off : Int} (hck : ∀ M, minf[mi]? = some M → chkI M pc (.if_icmp .gt off, nx, a, b, c, t) = true) (hs : astep minf (gX G) mi (.if_icmp .gt off, nx, a, b, c, t) pc lv st h = some (.inl (pc', lv', st', h'))) : StepOK G mi pc lv st h pc' lv' st' h' := by
  simp only [astep, a_go, cc_t, decide_eq_true_eq] at hs
  split at hs
  · split at hs
    · next hc =>
      obtain ⟨ht, e⟩ := jmp_eq hs
      cases e
      refine sok0 G fun M p l e R s m args below meth c H locs cells slots Q ls C hl hR hS h1 h2 h3 h4 k => ?_
      obtain ⟨hM, hx, hb, -⟩ := C
      obtain ⟨hd, hn⟩ := ck_dec (hck M hM)
      exact lv_icmp_gt hx hb hd ht (fun _ => k) (fun z => absurd hc z)
    · next hc =>
      cases hs
      refine sok0 G fun M p l e R s m args below meth c H locs cells slots Q ls C hl hR hS h1 h2 h3 h4 k => ?_
      obtain ⟨hM, hx, hb, -⟩ := C
      have hp := ck_jmpI (hck M hM)
      obtain ⟨hd, hn⟩ := ck_dec (hck M hM)
      have hn : nx = pc + 3 := hn
      subst hn
      exact lv_icmp_gt hx hb hd (tgt := ((pc : Int) + off).toNat) (by omega) (fun z => absurd z hc) (fun _ => k)
  · cases hs
theorem sg_if_le {mi pc : Nat} {lv : Lv} {st : List Value} {h : Hp} {nx a b t : Nat} {c : Int} {pc' : Nat} {lv' : Lv} {st' : List Value} {h' : Hp} {off : Int} (hck : ∀ M, minf[mi]? = some M → chkI M pc (.ifCond .le off, nx, a, b, c, t) = true) (hs : astep minf (gX G) mi (.ifCond .le off, nx, a, b, c, t) pc lv st h = some (.inl (pc', lv', st', h'))) : StepOK G mi pc lv st h pc' lv' st' h' := by
  simp only [astep, a_go, cc_t, decide_eq_true_eq] at hs
  split at hs
  · split at hs
    · next hc =>
      obtain ⟨ht, e⟩ := jmp_eq hs
      cases e
      refine sok0 G fun M p l e R s m args below meth c H locs cells slots Q ls C hl hR hS h1 h2 h3 h4 k => ?_
      obtain ⟨hM, hx, hb, -⟩ := C
      obtain ⟨hd, hn⟩ := ck_dec (hck M hM)
      exact lv_if_le hx hb hd ht (fun _ => k) (fun z => absurd hc z)
    · next hc =>
      cases hs
      refine sok0 G fun M p l e R s m args below meth c H locs cells slots Q ls C hl hR hS h1 h2 h3 h4 k => ?_
      obtain ⟨hM, hx, hb, -⟩ := C
      have hp := ck_jmpC (hck M hM)
      obtain ⟨hd, hn⟩ := ck_dec (hck M hM)
      have hn : nx = pc + 3 := hn
      subst hn
      exact lv_if_le hx hb hd (tgt := ((pc : Int) + off).toNat) (by omega) (fun z => absurd z hc) (fun _ => k)
  · cases hs
theorem sg_icmp_le {mi pc : Nat} {lv : Lv} {st : List Value} {h : Hp} {nx a b t : Nat} {c : Int} {pc' : Nat} {lv' : Lv} {st' : List Value} {h' : Hp} {off : Int} (hck : ∀ M, minf[mi]? = some M → chkI M pc (.if_icmp .le off, nx, a, b, c, t) = true) (hs : astep minf (gX G) mi (.if_icmp .le off, nx, a, b, c, t) pc lv st h = some (.inl (pc', lv', st', h'))) : StepOK G mi pc lv st h pc' lv' st' h' := by
  simp only [astep, a_go, cc_t, decide_eq_true_eq] at hs
  split at hs
  · split at hs
    · next hc =>
      obtain ⟨ht, e⟩ := jmp_eq hs
      cases e
      refine sok0 G fun M p l e R s m args below meth c H locs cells slots Q ls C hl hR hS h1 h2 h3 h4 k => ?_
      obtain ⟨hM, hx, hb, -⟩ := C
      obtain ⟨hd, hn⟩ := ck_dec (hck M hM)
      exact lv_icmp_le hx hb hd ht (fun _ => k) (fun z => absurd hc z)
    · next hc =>
      cases hs
      refine sok0 G fun M p l e R s m args below meth c H locs cells slots Q ls C hl hR hS h1 h2 h3 h4 k => ?_
      obtain ⟨hM, hx, hb, -⟩ := C
      have hp := ck_jmpI (hck M hM)
      obtain ⟨hd, hn⟩ := ck_dec (hck M hM)
      have hn : nx = pc + 3 := hn
      subst hn
      exact lv_icmp_le hx hb hd (tgt := ((pc : Int) + off).toNat) (by omega) (fun z => absurd z hc) (fun _ => k)
  · cases hs
end SND3
