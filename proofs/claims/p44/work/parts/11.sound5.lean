section SND5
variable (G : GT)
theorem slt_upd {h h' : Hp} (e : h'.1 = h.1) : slt h' = slt h := by unfold slt; rw [e]
/-- a store into one of the law's own cells -/
theorem sokU {mi pc : Nat} {lv : Lv} {st : List Value} {h : Hp} {pc' : Nat} {st' : List Value} {h' : Hp} (he : h'.1 = h.1)
    (k : ∀ (M : MI) (p : Program) (l : Launch) (e : Env) (R : Room) (s : State) (m : MethodId) (args : Array Value) (below : List Frame) (meth : Method) (c : Code) (H : Heap) (locs : List Loc) (cells slots : Nat) (Q : State → Prop) (ls : Array Slot),
      SCtx G mi M p s m args meth c → c.maxLocals = ls.size → Rl G h H → va_S (AG G) s.heap H locs → 1 ≤ R.frames → 100 ≤ R.locals →
      (∀ (H' : Heap) (locs' : List Loc), va_P (gD G) vwCl (wld G h') H' → va_S (AG G) s.heap H' locs' → W p l e R s m args below meth c H' locs' cells slots Q (F0 m pc' ls (st'.map (cv G)))) → W p l e R s m args below meth c H locs cells slots Q (F0 m pc ls (st.map (cv G))))
    (hr : (∀ a j r : Nat, h.2.2.2 a j = some r → 16 ≤ r) → h.1.take 16 = roK (gL G) → ∀ a j r : Nat, h'.2.2.2 a j = some r → 16 ≤ r) : StepOK G mi pc lv st h pc' lv st' h' := by
  refine ⟨rfl, by rw [he]; exact Nat.le_refl _, by rw [slt_upd he]; exact Nat.le_refl _, fun M p l e R s m args below meth c H locs cells slots Q ls C hn hl hR hS h1 h2 h3 h4 hcs kk => ?_⟩
  rw [he, slt_upd he] at kk
  simp only [Nat.sub_self, Nat.add_zero] at kk
  have hls : c.maxLocals = ls.size := by rw [C.2.2.2.1, ← hn]; exact hl.1.symm
  exact k M p l e R s m args below meth c H locs cells slots Q ls C hls hR hS h1 h2 (fun H' locs' hP' hS' => kk H' locs' ls hl ⟨hP', by rw [he]; exact hR.2.1, hr hR.2.2 hR.2.1⟩ hS')
theorem hk_1 {h h' : Hp} (e : h'.1 = h.1) (b : Nat) : hk h' b = hk h b := by unfold hk; rw [e]
theorem wcell_si {h : Hp} {a j : Nat} {x : Int32} {b : Nat} (hb : b ≠ a) : wcell G (hsi h a j x) b = wcell G h b :=
  wcell_congr G (h' := hsi h a j x) rfl (by funext k; simp [hsi, up2, hb]) rfl rfl
theorem wcell_sl {h : Hp} {a j : Nat} {x : Int64} {b : Nat} (hb : b ≠ a) : wcell G (hsl h a j x) b = wcell G h b :=
  wcell_congr G (h' := hsl h a j x) rfl rfl (by funext k; simp [hsl, up2, hb]) rfl
theorem wcell_sr {h : Hp} {a j : Nat} {x : Option Nat} {b : Nat} (hb : b ≠ a) : wcell G (hsr h a j x) b = wcell G h b :=
  wcell_congr G (h' := hsr h a j x) rfl rfl rfl (by funext k; simp [hsr, up2, hb])
theorem wcell_cp {h : Hp} {x s a d n : Nat} {b : Nat} (hb : b ≠ a) : wcell G (hcp h x s a d n) b = wcell G h b :=
  wcell_congr G (h' := hcp h x s a d n) rfl (by simp [hcp, up1, hb]) rfl rfl
theorem sg_iastore {mi pc : Nat} {lv : Lv} {st : List Value} {h : Hp} {nx a b t : Nat} {c : Int} {pc' : Nat} {lv' : Lv} {st' : List Value} {h' : Hp} (hck : ∀ M, minf[mi]? = some M → chkI M pc (.iastore, nx, a, b, c, t) = true) (hs : astep minf (gX G) mi (.iastore, nx, a, b, c, t) pc lv st h = some (.inl (pc', lv', st', h'))) : StepOK G mi pc lv st h pc' lv' st' h' := by
  simp only [astep, a_go] at hs
  split at hs
  · next x i r st =>
    split at hs
    · next hin =>
      cases hs
      refine sokU G (h := h) (h' := hsi h r i.toNatClampNeg x) rfl (fun M p l e R s m args below meth c H locs cells slots Q ls C hls hR hS h1 h2 k => ?_) (fun z _ => z)
      obtain ⟨hM, hx, hb, -, hown, hts, hK, hF, -⟩ := C
      obtain ⟨hd, hn⟩ := ck_dec (hck M hM)
      have hn : nx = pc + 1 := hn
      subst hn
      obtain ⟨hP, ht, hr16⟩ := hR
      obtain ⟨hi, e9⟩ := hin
      have ho := hk_own ht (a := r) (by omega)
      have hg := wld_get G ho.1 ho.2
      rw [wcell_i G e9] at hg
      rw [List.map_cons, List.map_cons, List.map_cons, cv_ref G]
      refine va_iast hx hb hK hP (wld_D G h) hS (r - 16) 0 hg rfl (inb_in hi) hd fun H1 locs1 hP1 _ hS1 => k H1 locs1 ?_ hS1
      rw [← wld_upd G (h := h) (h' := hsi h r i.toNatClampNeg x) rfl (fun b hb => wcell_si G hb) ho.1 ho.2, wcell_i G (h := hsi h r i.toNatClampNeg x) e9]
      have e : (hsi h r i.toNatClampNeg x).2.1 r = upd (h.2.1 r) i.toNatClampNeg x := by funext j; simp [hsi, up2, upd]
      rw [e]
      exact hP1
    · cases hs
  · cases hs
theorem sg_lastore {mi pc : Nat} {lv : Lv} {st : List Value} {h : Hp} {nx a b t : Nat} {c : Int} {pc' : Nat} {lv' : Lv} {st' : List Value} {h' : Hp} (hck : ∀ M, minf[mi]? = some M → chkI M pc (.lastore, nx, a, b, c, t) = true) (hs : astep minf (gX G) mi (.lastore, nx, a, b, c, t) pc lv st h = some (.inl (pc', lv', st', h'))) : StepOK G mi pc lv st h pc' lv' st' h' := by
  simp only [astep, a_go] at hs
  split at hs
  · next x i r st =>
    split at hs
    · next hin =>
      cases hs
      refine sokU G (h := h) (h' := hsl h r i.toNatClampNeg x) rfl (fun M p l e R s m args below meth c H locs cells slots Q ls C hls hR hS h1 h2 k => ?_) (fun z _ => z)
      obtain ⟨hM, hx, hb, -, hown, hts, hK, hF, -⟩ := C
      obtain ⟨hd, hn⟩ := ck_dec (hck M hM)
      have hn : nx = pc + 1 := hn
      subst hn
      obtain ⟨hP, ht, hr16⟩ := hR
      obtain ⟨hi, e9⟩ := hin
      have ho := hk_own ht (a := r) (by omega)
      have hg := wld_get G ho.1 ho.2
      rw [wcell_l G e9] at hg
      rw [List.map_cons, List.map_cons, List.map_cons, cv_ref G]
      refine va_last hx hb hK hP (wld_D G h) hS (r - 16) 1 hg rfl (inb_in hi) hd fun H1 locs1 hP1 _ hS1 => k H1 locs1 ?_ hS1
      rw [← wld_upd G (h := h) (h' := hsl h r i.toNatClampNeg x) rfl (fun b hb => wcell_sl G hb) ho.1 ho.2, wcell_l G (h := hsl h r i.toNatClampNeg x) e9]
      have e : (hsl h r i.toNatClampNeg x).2.2.1 r = vp_updL (h.2.2.1 r) i.toNatClampNeg x := by funext j; simp [hsl, up2, vp_updL]
      rw [e]
      exact hP1
    · cases hs
  · cases hs
theorem comps_lt (q : Nat) : comps q < 9 := by
  unfold comps
  split <;> omega
theorem sg_aastore {mi pc : Nat} {lv : Lv} {st : List Value} {h : Hp} {nx a b t : Nat} {c : Int} {pc' : Nat} {lv' : Lv} {st' : List Value} {h' : Hp} (hck : ∀ M, minf[mi]? = some M → chkI M pc (.aastore, nx, a, b, c, t) = true) (hs : astep minf (gX G) mi (.aastore, nx, a, b, c, t) pc lv st h = some (.inl (pc', lv', st', h'))) : StepOK G mi pc lv st h pc' lv' st' h' := by
  simp only [astep, a_go] at hs
  split at hs
  · next x i r st =>
    split at hs
    · next hin =>
      cases hs
      obtain ⟨hi, ⟨e1, e2⟩, ex⟩ := hin
      have hx9 : (hk h x).1 < 9 := by rw [ex]; exact comps_lt _
      refine sokU G (h := h) (h' := hsr h r i.toNatClampNeg (some x)) rfl (fun M p l e R s m args below meth c H locs cells slots Q ls C hls hR hS h1 h2 k => ?_) (fun z ht a j q hq => ?_)
      · obtain ⟨hM, hx, hb, -, hown, hts, hK, hF, -⟩ := C
        obtain ⟨hd, hn⟩ := ck_dec (hck M hM)
        have hn : nx = pc + 1 := hn
        subst hn
        obtain ⟨hP, ht, hr16⟩ := hR
        have ho := hk_own ht (a := r) (by omega)
        have hox := hk_own ht (a := x) (by omega)
        have hg := wld_get G ho.1 ho.2
        have hgx := wld_get G hox.1 hox.2
        rw [wcell_r G e1] at hg
        rw [wcell_obj G (comps_lt _) ex] at hgx
        rw [List.map_cons, List.map_cons, List.map_cons, cv_ref G, cv_ref G]
        have fin : ∀ (H1 : Heap) (locs1 : List Loc), va_P (gD G) vwCl ((wld G h).set (r - 16) (adr G r, .inl (gc G (hk h r).1, (hk h r).2, .inr (.inr (.inr (.inr (va_up (fun j => (h.2.2.2 r j).map (adr G)) i.toNatClampNeg (some (adr G x))))))))) H1 → va_S (AG G) s.heap H1 locs1 → W p l e R s m args below meth c H1 locs1 cells slots Q (F0 m (pc + 1) ls (st'.map (cv G))) := by
          intro H1 locs1 hP1 hS1
          refine k H1 locs1 ?_ hS1
          rw [← wld_upd G (h := h) (h' := hsr h r i.toNatClampNeg (some x)) rfl (fun b hb => wcell_sr G hb) ho.1 ho.2, wcell_r G (h := hsr h r i.toNatClampNeg (some x)) e1]
          have e : (fun j => ((hsr h r i.toNatClampNeg (some x)).2.2.2 r j).map (adr G)) = va_up (fun j => (h.2.2.2 r j).map (adr G)) i.toNatClampNeg (some (adr G x)) := by
            funext j
            by_cases z : j = i.toNatClampNeg
            · simp [hsr, up2, va_up, z]
            · simp [hsr, up2, va_up, z]
          rw [e]
          exact hP1
        have ek : (hk h r).1 = 11 ∨ (hk h r).1 = 12 ∨ (hk h r).1 = 13 := by omega
        rcases ek with z | z | z
        · rw [z] at hg hgx fin
          exact va_astq hx hb hK hP (wld_D G h) hS (r - 16) 2 (x - 16) 4 (r := (RX4, TX4, 3)) hg rfl hgx rfl (inb_in hi) hd fun H1 locs1 hP1 _ hS1 => fin H1 locs1 hP1 hS1
        · rw [z] at hg hgx fin
          exact va_astq hx hb hK hP (wld_D G h) hS (r - 16) 3 (x - 16) 5 (r := (RX5, TX5, 3)) hg rfl hgx rfl (inb_in hi) hd fun H1 locs1 hP1 _ hS1 => fin H1 locs1 hP1 hS1
        · rw [z] at hg hgx fin
          exact va_astq hx hb hK hP (wld_D G h) hS (r - 16) 4 (x - 16) 6 (r := (RX6, TX6, 4)) hg rfl hgx rfl (inb_in hi) hd fun H1 locs1 hP1 _ hS1 => fin H1 locs1 hP1 hS1
      · have hq : (if a = r ∧ j = i.toNatClampNeg then some x else h.2.2.2 a j) = some q := hq
        split at hq
        · cases hq
          exact (hk_own ht (a := x) (by omega)).1
        · exact z _ _ _ hq
    · cases hs
  · cases hs
theorem ck_putf {M : MI} {pc nx a b t idx : Nat} {c : Int} (h : chkI M pc (.putfield idx, nx, a, b, c, t) = true) : (a < 9 ∧ b < nFf a) ∧ Cond.fieldLink M.1 idx (TXf a b).1 (TXf a b).2.1 (TXf a b).2.2.1 ∈ TBLG ∧ ((TXf a b).2.2.2 = true → M.2.2.2.2.2.2.1 = 2 ∧ (TXf a b).1 = M.1) := by
  unfold chkI at h
  simp only [Bool.and_eq_true, decide_eq_true_eq, Bool.or_eq_true, Bool.not_eq_true'] at h
  obtain ⟨-, ⟨h1, h2⟩, h3⟩ := h
  refine ⟨h1, tbg h2, fun z => ?_⟩
  rcases h3 with h3 | h3
  · rw [z] at h3; cases h3
  · exact h3
/-- a value goes into a field: by the field's kind -/
theorem putf_go {mi pc : Nat} {st : List Value} {h h' : Hp} {nx a b t : Nat} {c : Int} {idx r : Nat} {v : Value} (ek : hk h r = (a, nFf a)) (he : h'.1 = h.1) (hne : ∀ b', b' ≠ r → wcell G h' b' = wcell G h b')
    (hcv : wfld G h' r a b = cv G v) (hj : ∀ j, j ≠ b → wfld G h' r a j = wfld G h r a j) (hnar : narrow (tyf a b) (cv G v) = cv G v) (hfit : fits (tyf a b) (cv G v) = true) (hck : ∀ M, minf[mi]? = some M → chkI M pc (.putfield idx, nx, a, b, c, t) = true)
    (hr : (∀ a j r : Nat, h.2.2.2 a j = some r → 16 ≤ r) → h.1.take 16 = roK (gL G) → ∀ a j r : Nat, h'.2.2.2 a j = some r → 16 ≤ r) {lv : Lv} : StepOK G mi pc lv (v :: .ref r :: st) h nx lv st h' := by
  refine sokU G (h := h) (h' := h') he (fun M p l e R s m args below meth c H locs cells slots Q ls C hls hR hS h1 h2 k => ?_) hr
  obtain ⟨hM, hx, hb, -, hown, hts, hK, hF, -, hini⟩ := C
  obtain ⟨hd, hn⟩ := ck_dec (hck M hM)
  obtain ⟨⟨ha9, hbn⟩, hw, hfin⟩ := ck_putf (hck M hM)
  have hn : nx = pc + 3 := hn
  subst hn
  obtain ⟨hP, ht, hr16⟩ := hR
  have ho := hk_own ht (a := r) (by rw [ek]; show a < 20; omega)
  have hg := wld_get G ho.1 ho.2
  rw [wcell_obj G ha9 ek] at hg
  rw [List.map_cons, List.map_cons, cv_ref G]
  have ek' : hk h' r = (a, nFf a) := by rw [hk_1 he]; exact ek
  have fin : ∀ (H1 : Heap) (locs1 : List Loc), va_P (gD G) vwCl ((wld G h).set (r - 16) (adr G r, .inr (a, ((List.range (nFf a)).map (fun j => wfld G h r a j)).set b (cv G v)))) H1 → va_S (AG G) s.heap H1 locs1 → W p l e R s m args below meth c H1 locs1 cells slots Q (F0 m (pc + 3) ls (st.map (cv G))) := by
    intro H1 locs1 hP1 hS1
    refine k H1 locs1 ?_ hS1
    rw [← wld_upd G he hne ho.1 ho.2, wcell_obj G ha9 ek', ← range_set (fun j => wfld G h r a j) (fun j => wfld G h' r a j) (cv G v) hcv hj]
    exact hP1
  have hlen : b < ((List.range (nFf a)).map (fun j => wfld G h r a j)).length := by simpa using hbn
  cases hf : (TXf a b).2.2.2 with
  | false => exact va_put (D := gD G) hx hb hts (Tf_in a ha9) (tyf a) (Tf_ty a ha9) (Tf_nm a ha9) hown hK hP (wld_D G h) hS (r - 16) hg (Tf_ok a ha9) b hbn (hts _ hw) (fun _ z => z) hf (Tf_ty a ha9 b hbn) hnar hfit hlen hd fun H1 locs1 hP1 _ hS1 => fin H1 locs1 hP1 hS1
  | true => exact va_putF (D := gD G) hx hb hts (Tf_in a ha9) (tyf a) (Tf_ty a ha9) (Tf_nm a ha9) hown hK hP (wld_D G h) hS (r - 16) hg (Tf_ok a ha9) b hbn (hts _ hw) (fun _ z => z) hf (hini (hfin hf).1) (hfin hf).2 (Tf_ty a ha9 b hbn) hnar hfit hlen hd fun H1 locs1 hP1 _ hS1 => fin H1 locs1 hP1 hS1
theorem fk_0 {t : FieldType} (h : fk t = 0) : t = .int := by cases t <;> simp [fk] at h <;> rfl
theorem fk_1 {t : FieldType} (h : fk t = 1) : t = .long := by cases t <;> simp [fk] at h <;> rfl
theorem fk_3 {t : FieldType} (h : fk t = 3) : t = .boolean := by cases t <;> simp [fk] at h <;> rfl
theorem fk_2 {t : FieldType} (h : fk t = 2) : (∃ n, t = .object n) ∨ ∃ u, t = .array u := by
  cases t <;> simp [fk] at h
  · exact Or.inl ⟨_, rfl⟩
  · exact Or.inr ⟨_, rfl⟩
theorem sg_putfield {mi pc : Nat} {lv : Lv} {st : List Value} {h : Hp} {nx a b t : Nat} {c : Int} {pc' : Nat} {lv' : Lv} {st' : List Value} {h' : Hp} {idx : Nat} (hck : ∀ M, minf[mi]? = some M → chkI M pc (.putfield idx, nx, a, b, c, t) = true) (hs : astep minf (gX G) mi (.putfield idx, nx, a, b, c, t) pc lv st h = some (.inl (pc', lv', st', h'))) : StepOK G mi pc lv st h pc' lv' st' h' := by
  simp only [astep, a_go] at hs
  split at hs
  · next v r st =>
    split at hs
    · next h1 hv =>
      cases hs
      unfold aputf at hv
      split at hv
      · next ek =>
        split at hv
        · next x =>
          have key : (fk (tyf a b) = 0 ∨ (fk (tyf a b) = 3 ∧ (x = 0 ∨ x = 1))) ∧ h' = hsi h r b x := by
            split at hv
            · next e0 => cases hv; exact ⟨Or.inl e0, rfl⟩
            · split at hv
              · next e3 => cases hv; exact ⟨Or.inr e3, rfl⟩
              · cases hv
          obtain ⟨hfk, rfl⟩ := key
          refine putf_go G (v := .int x) (h' := hsi h r b x) ek rfl (fun b' hb' => wcell_si G hb') ?_ (fun j hj => ?_) ?_ ?_ hck (fun z _ => z)
          · unfold wfld
            rcases hfk with e | ⟨e, -⟩
            · rw [e]; simp [hsi, up2, cv]
            · rw [e]; simp [hsi, up2, cv]
          · unfold wfld
            have e1 : (hsi h r b x).2.1 r j = h.2.1 r j := by simp [hsi, up2, hj]
            have e2 : (hsi h r b x).2.2 = h.2.2 := rfl
            rw [e1, e2]
          · rcases hfk with e | ⟨e, hx⟩
            · rw [fk_0 e]; rfl
            · rw [fk_3 e]
              rcases hx with rfl | rfl
              · show narrow FieldType.boolean (.int 0) = .int 0
                decide
              · show narrow FieldType.boolean (.int 1) = .int 1
                decide
          · rcases hfk with e | ⟨e, hx⟩
            · rw [fk_0 e]; rfl
            · rw [fk_3 e]
              rcases hx with rfl | rfl
              · show fits FieldType.boolean (.int 0) = true
                decide
              · show fits FieldType.boolean (.int 1) = true
                decide
        · next x =>
          split at hv
          · next e1 =>
            cases hv
            refine putf_go G (v := .long x) (h' := hsl h r b x) ek rfl (fun b' hb' => wcell_sl G hb') ?_ (fun j hj => ?_) ?_ ?_ hck (fun z _ => z)
            · unfold wfld
              rw [e1]; simp [hsl, up2, cv]
            · unfold wfld
              have e2 : (hsl h r b x).2.2.1 r j = h.2.2.1 r j := by simp [hsl, up2, hj]
              have e3 : (hsl h r b x).2.1 = h.2.1 := rfl
              have e4 : (hsl h r b x).2.2.2 = h.2.2.2 := rfl
              rw [e2, e3, e4]
            · rw [fk_1 e1]; rfl
            · rw [fk_1 e1]; rfl
          · cases hv
        · next x =>
          split at hv
          · next e2 =>
            obtain ⟨e2, hx16⟩ := e2
            cases hv
            have hx16 : (16 : Nat) ≤ x := hx16
            refine putf_go G (v := .ref x) (h' := hsr h r b (some x)) ek rfl (fun b' hb' => wcell_sr G hb') ?_ (fun j hj => ?_) ?_ ?_ hck (fun z _ a' j' q hq => ?_)
            · unfold wfld
              rw [e2, cv_ref G]; simp [hsr, up2, va_rf]
            · unfold wfld
              have e5 : (hsr h r b (some x)).2.2.2 r j = h.2.2.2 r j := by simp [hsr, up2, hj]
              have e3 : (hsr h r b (some x)).2.1 = h.2.1 := rfl
              have e4 : (hsr h r b (some x)).2.2.1 = h.2.2.1 := rfl
              rw [e5, e3, e4]
            · rw [cv_ref G]
              rcases fk_2 e2 with ⟨n, e⟩ | ⟨u, e⟩ <;> rw [e] <;> rfl
            · rw [cv_ref G]
              rcases fk_2 e2 with ⟨n, e⟩ | ⟨u, e⟩ <;> rw [e] <;> rfl
            · have hq : (if a' = r ∧ j' = b then some x else h.2.2.2 a' j') = some q := hq
              split at hq
              · cases hq; exact hx16
              · exact z _ _ _ hq
          · cases hv
        · cases hv
      · cases hv
    · cases hs
  · cases hs
end SND5
