section SND4
variable (G : GT)
-- heap
theorem inb_in {i : Int32} {n : Nat} (h : inb i n = true) : vp_in i n := by
  simp only [inb, Bool.and_eq_true, decide_eq_true_eq] at h
  exact vp_in_iff.mpr h
theorem Tf_ok (a : Nat) (h : a < 9) : vwCl[a]? = some (Rf a, TXf a, nFf a) := by
  have : a = 0 ∨ a = 1 ∨ a = 2 ∨ a = 3 ∨ a = 4 ∨ a = 5 ∨ a = 6 ∨ a = 7 ∨ a = 8 := by omega
  rcases this with rfl | rfl | rfl | rfl | rfl | rfl | rfl | rfl | rfl <;> rfl
theorem Tf_ty (a : Nat) (h : a < 9) : ∀ k, k < nFf a → parseFieldDescriptor (TXf a k).2.2.1 = some (tyf a k) := by
  have : a = 0 ∨ a = 1 ∨ a = 2 ∨ a = 3 ∨ a = 4 ∨ a = 5 ∨ a = 6 ∨ a = 7 ∨ a = 8 := by omega
  rcases this with rfl | rfl | rfl | rfl | rfl | rfl | rfl | rfl | rfl
  · exact tyX0_ok
  · exact tyX1_ok
  · exact tyX2_ok
  · exact tyX3_ok
  · exact tyX4_ok
  · exact tyX5_ok
  · exact tyX6_ok
  · exact tyX7_ok
  · exact tyX8_ok
theorem Tf_nm (a : Nat) (h : a < 9) : ∀ x, x < nFf a → ∀ y, y < nFf a → x ≠ y → (TXf a x).2.1 ≠ (TXf a y).2.1 := by
  have : a = 0 ∨ a = 1 ∨ a = 2 ∨ a = 3 ∨ a = 4 ∨ a = 5 ∨ a = 6 ∨ a = 7 ∨ a = 8 := by omega
  rcases this with rfl | rfl | rfl | rfl | rfl | rfl | rfl | rfl | rfl
  · exact nmX0
  · exact nmX1
  · exact nmX2
  · exact nmX3
  · exact nmX4
  · exact nmX5
  · exact nmX6
  · exact nmX7
  · exact nmX8
theorem lay_good (C : String) (T : u_T) (N : Nat) : ∀ w ∈ u_ws C T N, goodWord w = true := by
  intro w hw
  unfold u_ws at hw
  obtain ⟨k, -, rfl⟩ := List.mem_map.mp hw
  unfold u_lay
  split <;> rfl
theorem Tf_in (a : Nat) (h : a < 9) : ∀ w ∈ u_ws (Rf a) (TXf a) (nFf a), w ∈ TBLG := by
  intro w hw
  refine tbgl ?_ (lay_good _ _ _ w hw)
  have : a = 0 ∨ a = 1 ∨ a = 2 ∨ a = 3 ∨ a = 4 ∨ a = 5 ∨ a = 6 ∨ a = 7 ∨ a = 8 := by omega
  rcases this with rfl | rfl | rfl | rfl | rfl | rfl | rfl | rfl | rfl
  · exact inX0 w hw
  · exact inX1 w hw
  · exact inX2 w hw
  · exact inX3 w hw
  · exact inX4 w hw
  · exact inX5 w hw
  · exact inX6 w hw
  · exact inX7 w hw
  · exact inX8 w hw
theorem wcell_obj {h : Hp} {a ci : Nat} (hc : ci < 9) (e : hk h a = (ci, nFf ci)) : wcell G h a = .inr (ci, (List.range (nFf ci)).map (fun j => wfld G h a ci j)) := by
  unfold wcell
  rw [e]
  dsimp only
  rw [if_pos hc]
theorem wcell_i {h : Hp} {a : Nat} (e : (hk h a).1 = 9) : wcell G h a = .inl (gc G 9, ((hk h a).2, .inl (h.2.1 a))) := by
  unfold wcell
  rw [if_neg (by omega), if_pos e]
theorem wcell_l {h : Hp} {a : Nat} (e : (hk h a).1 = 10) : wcell G h a = .inl (gc G 10, ((hk h a).2, .inr (.inl (h.2.2.1 a)))) := by
  unfold wcell
  rw [if_neg (by omega), if_neg (by omega), if_pos e]
theorem wcell_r {h : Hp} {a : Nat} (e : 11 ≤ (hk h a).1) : wcell G h a = .inl (gc G (hk h a).1, ((hk h a).2, .inr (.inr (.inr (.inr (fun j => (h.2.2.2 a j).map (adr G))))))) := by
  unfold wcell
  rw [if_neg (by omega), if_neg (by omega), if_neg (by omega)]
theorem range_get {n k : Nat} (f : Nat → Value) (h : k < n) : ((List.range n).map f)[k]? = some (f k) := by
  rw [List.getElem?_map, List.getElem?_range h]
  rfl
theorem range_set {n k : Nat} (f g : Nat → Value) (v : Value) (hg : g k = v) (hne : ∀ j, j ≠ k → g j = f j) : ((List.range n).map f).set k v = (List.range n).map g := by
  refine List.ext_getElem? fun j => ?_
  rw [List.getElem?_set]
  by_cases e : k = j
  · subst e
    rw [if_pos rfl]
    by_cases hl : k < n
    · rw [if_pos (by simpa using hl), List.getElem?_map, List.getElem?_range hl, Option.map_some, hg]
    · rw [if_neg (by simpa using hl), List.getElem?_eq_none (by simpa using hl)]
  · rw [if_neg e, List.getElem?_map, List.getElem?_map]
    cases hr : (List.range n)[j]? with
    | none => rfl
    | some i =>
      have := (List.getElem?_eq_some_iff.mp hr).2
      simp at this
      subst this
      simp only [Option.map_some]
      rw [hne j (fun z => e z.symm)]
theorem ck_getf {M : MI} {pc nx a b t idx : Nat} {c : Int} (h : chkI M pc (.getfield idx, nx, a, b, c, t) = true) : if a = 20 then (if b = 0 then Cond.fieldLink M.1 idx "java/lang/String" "value" "[B" ∈ TBLG else Cond.fieldLink M.1 idx "java/lang/String" "coder" "B" ∈ TBLG) else (a < 9 ∧ b < nFf a) ∧ Cond.fieldLink M.1 idx (TXf a b).1 (TXf a b).2.1 (TXf a b).2.2.1 ∈ TBLG := by
  unfold chkI at h
  simp only [Bool.and_eq_true] at h
  have h := h.2
  split at h
  · next e =>
    rw [if_pos e]
    split at h
    · next e1 => rw [if_pos e1]; exact tbg h
    · next e1 =>
      rw [if_neg e1]
      simp only [Bool.and_eq_true] at h
      exact tbg h.2
  · next e =>
    rw [if_neg e]
    simp only [Bool.and_eq_true, decide_eq_true_eq] at h
    exact ⟨h.1, tbg h.2⟩
theorem roK_20 {L a : Nat} (ha : a < 16) (h : (roK L).getD a (99, 0) = (20, 2)) : a = 1 ∨ a = 2 ∨ a = 3 := by
  have : a = 0 ∨ a = 1 ∨ a = 2 ∨ a = 3 ∨ a = 4 ∨ a = 5 ∨ a = 6 ∨ a = 7 ∨ a = 8 ∨ a = 9 ∨ a = 10 ∨ a = 11 ∨ a = 12 ∨ a = 13 ∨ a = 14 ∨ a = 15 := by omega
  rcases this with rfl | rfl | rfl | rfl | rfl | rfl | rfl | rfl | rfl | rfl | rfl | rfl | rfl | rfl | rfl | rfl <;> simp [roK] at h ⊢
/-- a cell of a kind above 19 is one of the first sixteen, or none; the law's own cells are of kinds below -/
noncomputable def KOK (h : Hp) : Prop := ∀ a : Nat, 16 ≤ a → a < h.1.length → (hk h a).1 < 14
theorem KOK_lt {h : Hp} {r : Nat} (hok : KOK h) (h1 : 20 ≤ (hk h r).1) (h2 : (hk h r).1 < 99) : r < 16 := by
  rcases Nat.lt_or_ge r 16 with z | z
  · exact z
  · rcases Nat.lt_or_ge r h.1.length with z2 | z2
    · have := hok r z z2
      omega
    · unfold hk at h2
      rw [List.getD_eq_getElem?_getD, List.getElem?_eq_none z2] at h2
      simp at h2
theorem roK_22 {L a : Nat} (ha : a < 16) (h : ((roK L).getD a (99, 0)).1 = 22) : a = 0 ∨ a = 14 := by
  have : a = 0 ∨ a = 1 ∨ a = 2 ∨ a = 3 ∨ a = 4 ∨ a = 5 ∨ a = 6 ∨ a = 7 ∨ a = 8 ∨ a = 9 ∨ a = 10 ∨ a = 11 ∨ a = 12 ∨ a = 13 ∨ a = 14 ∨ a = 15 := by omega
  rcases this with rfl | rfl | rfl | rfl | rfl | rfl | rfl | rfl | rfl | rfl | rfl | rfl | rfl | rfl | rfl | rfl <;> simp [roK] at h ⊢
theorem roK_21 {L a : Nat} (ha : a < 16) (h : ((roK L).getD a (99, 0)).1 = 21) : a = 4 ∨ a = 5 ∨ a = 6 := by
  have : a = 0 ∨ a = 1 ∨ a = 2 ∨ a = 3 ∨ a = 4 ∨ a = 5 ∨ a = 6 ∨ a = 7 ∨ a = 8 ∨ a = 9 ∨ a = 10 ∨ a = 11 ∨ a = 12 ∨ a = 13 ∨ a = 14 ∨ a = 15 := by omega
  rcases this with rfl | rfl | rfl | rfl | rfl | rfl | rfl | rfl | rfl | rfl | rfl | rfl | rfl | rfl | rfl | rfl <;> simp [roK] at h ⊢
theorem sg_getfield {mi pc : Nat} {lv : Lv} {st : List Value} {h : Hp} {nx a b t : Nat} {c : Int} {pc' : Nat} {lv' : Lv} {st' : List Value} {h' : Hp} {idx : Nat} (hok : KOK h) (hck : ∀ M, minf[mi]? = some M → chkI M pc (.getfield idx, nx, a, b, c, t) = true) (hs : astep minf (gX G) mi (.getfield idx, nx, a, b, c, t) pc lv st h = some (.inl (pc', lv', st', h'))) : StepOK G mi pc lv st h pc' lv' st' h' := by
  simp only [astep, a_go] at hs
  split at hs
  · next r st =>
    split at hs
    · next v hv =>
      cases hs
      refine sok0 G fun M p l e R s m args below meth c H locs cells slots Q ls C hl hR hS h1 h2 h3 h4 k => ?_
      obtain ⟨hM, hx, hb, -, hown, hts, hK, hF, -⟩ := C
      have hw := ck_getf (hck M hM)
      obtain ⟨hd, hn⟩ := ck_dec (hck M hM)
      have hn : nx = pc + 3 := hn
      subst hn
      obtain ⟨hP, ht, hr16⟩ := hR
      unfold agetf at hv
      by_cases e20 : a = 20
      · rw [if_pos e20] at hv hw
        split at hv
        · next ek =>
          have hr : r < 16 := by
            rcases Nat.lt_or_ge r 16 with z | z
            · exact z
            · rcases Nat.lt_or_ge r h.1.length with z2 | z2
              · have := hok r z z2
                rw [ek] at this
                omega
              · unfold hk at ek
                rw [List.getD_eq_getElem?_getD, List.getElem?_eq_none z2] at ek
                simp at ek
          rw [hk_ro ht hr] at ek
          have h123 := roK_20 hr ek
          have key : ∀ i : Nat, i < 3 → r = 1 + i → W p l e R s m args below meth c H locs cells slots Q (F0 m pc ls (List.map (cv G) (Value.ref r :: st))) := by
            intro i hi hri
            obtain ⟨-, f2, f3, -⟩ := hF.2.1 i hi
            have ea : adr G r = gr G (1 + i) := by unfold adr; rw [if_pos hr, hri]
            rw [List.map_cons, cv_ref G, ea]
            by_cases eb : b = 0
            · rw [if_pos eb] at hv hw
              cases hv
              have e2 : adr G (r + 3) = gr G (4 + i) := by
                have h7 : 1 + i + 3 < 16 := by omega
                have h8 : 1 + i + 3 = 4 + i := by omega
                unfold adr
                rw [hri, if_pos h7, h8]
              rw [List.map_cons, cv_ref G, e2] at k
              exact vk_getf hx hb f3 hS hown (hts _ hw) (fun _ z => z) hd k
            · rw [if_neg eb] at hv hw
              cases hv
              exact vk_getf hx hb f2 hS hown (hts _ hw) (fun _ z => z) hd k
          rcases h123 with z | z | z
          · exact key 0 (by omega) z
          · exact key 1 (by omega) z
          · exact key 2 (by omega) z
        · cases hv
      · rw [if_neg e20] at hv hw
        split at hv
        · next ek =>
          obtain ⟨⟨ha9, hbn⟩, hw⟩ := hw
          have hown2 := hk_own ht (a := r) (by rw [ek]; show a < 20; omega)
          have hg := wld_get G hown2.1 hown2.2
          rw [wcell_obj G ha9 ek] at hg
          rw [List.map_cons, cv_ref G]
          refine va_get (D := gD G) hx hb hts (Tf_in a ha9) hown hK hP (r - 16) hg (Tf_ok a ha9) b hbn (hts _ hw) (fun _ z => z) (range_get _ hbn) hd ?_
          rw [List.map_cons] at k
          have hcv : cv G v = wfld G h r a b := by
            unfold wfld
            split at hv
            · next e1 =>
              rw [e1]
              cases hv
              rfl
            · next e1 =>
              rw [e1]
              cases er : h.2.2.2 r b with
              | none => rw [er] at hv; cases hv; rfl
              | some x =>
                rw [er] at hv
                cases hv
                have := hr16 _ _ _ er
                exact cv_ref G
            · next e1 e2 =>
              cases hv
              split
              · next z => exact absurd z e1
              · next z => exact absurd z e2
              · rfl
          rw [hcv] at k
          exact k
        · cases hv
    · cases hs
  · cases hs
theorem sg_getstatic {mi pc : Nat} {lv : Lv} {st : List Value} {h : Hp} {nx a b t : Nat} {c : Int} {pc' : Nat} {lv' : Lv} {st' : List Value} {h' : Hp} {idx : Nat} (hck : ∀ M, minf[mi]? = some M → chkI M pc (.getstatic idx, nx, a, b, c, t) = true) (hs : astep minf (gX G) mi (.getstatic idx, nx, a, b, c, t) pc lv st h = some (.inl (pc', lv', st', h'))) : StepOK G mi pc lv st h pc' lv' st' h' := by
  simp only [astep, a_go] at hs
  cases hs
  refine sok0 G fun M p l e R s m args below meth c H locs cells slots Q ls C hl hR hS h1 h2 h3 h4 k => ?_
  obtain ⟨hM, hx, hb, -, hown, hts, hK, hF, -⟩ := C
  have hw := hck M hM
  obtain ⟨hd, hn⟩ := ck_dec hw
  have hn : nx = pc + 3 := hn
  subst hn
  unfold chkI at hw
  simp only [Bool.and_eq_true] at hw
  have hw2 := hw.2
  clear hw
  obtain ⟨-, -, -, f4, f5, f6, -, -, f9, -⟩ := hF
  split at hw2
  · next e0 =>
    subst e0
    simp only [decide_eq_true_eq] at hw2
    rw [← hw2] at f9
    rw [List.map_cons] at k
    exact va_getsN hx hb f4 hS hown (va_Nw.use rfl f9) (fun _ z => z) hd k
  · next e0 =>
    split at hw2
    · next e1 =>
      subst e1
      exact va_gets hx hb f5 hS hown (hts _ (tbg hw2)) (fun _ z => z) hd k
    · next e1 =>
      have ea : astat a = .retAddr 0 := by
        unfold astat
        split
        · exact absurd rfl e0
        · exact absurd rfl e1
        · rfl
      rw [List.map_cons, ea] at k
      exact va_gets hx hb f6 hS hown (hts _ (tbg hw2)) (fun _ z => z) hd k
theorem sg_iaload {mi pc : Nat} {lv : Lv} {st : List Value} {h : Hp} {nx a b t : Nat} {c : Int} {pc' : Nat} {lv' : Lv} {st' : List Value} {h' : Hp} (hok : KOK h) (hck : ∀ M, minf[mi]? = some M → chkI M pc (.iaload, nx, a, b, c, t) = true) (hs : astep minf (gX G) mi (.iaload, nx, a, b, c, t) pc lv st h = some (.inl (pc', lv', st', h'))) : StepOK G mi pc lv st h pc' lv' st' h' := by
  simp only [astep, a_go] at hs
  split at hs
  · next i r st =>
    split at hs
    · next hin =>
      have hin := inb_in hin
      split at hs
      · next e9 =>
        cases hs
        refine sok0 G fun M p l e R s m args below meth c H locs cells slots Q ls C hl hR hS h1 h2 h3 h4 k => ?_
        obtain ⟨hM, hx, hb, -, hown, hts, hK, hF, -⟩ := C
        obtain ⟨hd, hn⟩ := ck_dec (hck M hM)
        have hn : nx = pc + 1 := hn
        subst hn
        obtain ⟨hP, ht, hr16⟩ := hR
        have ho := hk_own ht (a := r) (by omega)
        have hg := wld_get G ho.1 ho.2
        rw [wcell_i G e9] at hg
        rw [List.map_cons, List.map_cons, cv_ref G]
        exact va_iald hx hb hK hP (r - 16) 0 hg rfl hin hd k
      · split at hs
        · next e22 =>
          cases hs
          refine sok0 G fun M p l e R s m args below meth c H locs cells slots Q ls C hl hR hS h1 h2 h3 h4 k => ?_
          obtain ⟨hM, hx, hb, -, hown, hts, hK, hF, -⟩ := C
          obtain ⟨hd, hn⟩ := ck_dec (hck M hM)
          have hn : nx = pc + 1 := hn
          subst hn
          obtain ⟨hP, ht, hr16⟩ := hR
          have hr : r < 16 := KOK_lt hok (by rw [e22]; omega) (by rw [e22]; omega)
          have hkr := hk_ro ht hr
          rw [hkr] at e22 hin
          have h014 := roK_22 hr e22
          have ea : adr G r = gr G r := by unfold adr; rw [if_pos hr]
          rw [List.map_cons, List.map_cons, cv_ref G, ea]
          rcases h014 with rfl | rfl
          · exact va_ti hx hb hF.1 hS hin rfl hd k
          · exact va_ti hx hb hF.2.2.1 hS hin rfl hd k
        · cases hs
    · cases hs
  · cases hs
theorem sg_baload {mi pc : Nat} {lv : Lv} {st : List Value} {h : Hp} {nx a b t : Nat} {c : Int} {pc' : Nat} {lv' : Lv} {st' : List Value} {h' : Hp} (hok : KOK h) (hck : ∀ M, minf[mi]? = some M → chkI M pc (.baload, nx, a, b, c, t) = true) (hs : astep minf (gX G) mi (.baload, nx, a, b, c, t) pc lv st h = some (.inl (pc', lv', st', h'))) : StepOK G mi pc lv st h pc' lv' st' h' := by
  simp only [astep, a_go] at hs
  split at hs
  · next i r st =>
    split at hs
    · next hin =>
      cases hs
      refine sok0 G fun M p l e R s m args below meth c H locs cells slots Q ls C hl hR hS h1 h2 h3 h4 k => ?_
      obtain ⟨hM, hx, hb, -, hown, hts, hK, hF, -⟩ := C
      obtain ⟨hd, hn⟩ := ck_dec (hck M hM)
      have hn : nx = pc + 1 := hn
      subst hn
      obtain ⟨hP, ht, hr16⟩ := hR
      obtain ⟨hin, e21⟩ := hin
      have hin := inb_in hin
      have hr : r < 16 := KOK_lt hok (by rw [e21]; omega) (by rw [e21]; omega)
      have hkr := hk_ro ht hr
      rw [hkr] at e21 hin
      have h456 := roK_21 hr e21
      have ea : adr G r = gr G r := by unfold adr; rw [if_pos hr]
      rw [List.map_cons, List.map_cons, cv_ref G, ea]
      rcases h456 with rfl | rfl | rfl
      · exact va_tb hx hb (hF.2.1 0 (by omega)).2.2.2 hS hin rfl hd k
      · exact va_tb hx hb (hF.2.1 1 (by omega)).2.2.2 hS hin rfl hd k
      · exact va_tb hx hb (hF.2.1 2 (by omega)).2.2.2 hS hin rfl hd k
    · cases hs
  · cases hs
theorem sg_arraylength {mi pc : Nat} {lv : Lv} {st : List Value} {h : Hp} {nx a b t : Nat} {c : Int} {pc' : Nat} {lv' : Lv} {st' : List Value} {h' : Hp} (hok : KOK h) (hck : ∀ M, minf[mi]? = some M → chkI M pc (.arraylength, nx, a, b, c, t) = true) (hs : astep minf (gX G) mi (.arraylength, nx, a, b, c, t) pc lv st h = some (.inl (pc', lv', st', h'))) : StepOK G mi pc lv st h pc' lv' st' h' := by
  simp only [astep, a_go] at hs
  split at hs
  · next r st =>
    split at hs
    · next e9 =>
      cases hs
      refine sok0 G fun M p l e R s m args below meth c H locs cells slots Q ls C hl hR hS h1 h2 h3 h4 k => ?_
      obtain ⟨hM, hx, hb, -, hown, hts, hK, hF, -⟩ := C
      obtain ⟨hd, hn⟩ := ck_dec (hck M hM)
      have hn : nx = pc + 1 := hn
      subst hn
      obtain ⟨hP, ht, hr16⟩ := hR
      have ho := hk_own ht (a := r) (by omega)
      have hg := wld_get G ho.1 ho.2
      rw [wcell_i G e9] at hg
      rw [List.map_cons, cv_ref G]
      exact va_alen hx hb hK hP (r - 16) 0 hg rfl rfl hd k
    · next e21 =>
      cases hs
      refine sok0 G fun M p l e R s m args below meth c H locs cells slots Q ls C hl hR hS h1 h2 h3 h4 k => ?_
      obtain ⟨hM, hx, hb, -, hown, hts, hK, hF, -⟩ := C
      obtain ⟨hd, hn⟩ := ck_dec (hck M hM)
      have hn : nx = pc + 1 := hn
      subst hn
      obtain ⟨hP, ht, hr16⟩ := hR
      have hr : r < 16 := KOK_lt hok (by rw [e21]; omega) (by rw [e21]; omega)
      have hkr := hk_ro ht hr
      rw [hkr] at e21
      have h456 := roK_21 hr e21
      have ea : adr G r = gr G r := by unfold adr; rw [if_pos hr]
      rw [List.map_cons, cv_ref G, ea]
      rw [hkr] at k
      rcases h456 with rfl | rfl | rfl
      · exact va_tlen hx hb (hF.2.1 0 (by omega)).2.2.2 hS rfl hd k
      · exact va_tlen hx hb (hF.2.1 1 (by omega)).2.2.2 hS rfl hd k
      · exact va_tlen hx hb (hF.2.1 2 (by omega)).2.2.2 hS rfl hd k
    · next e22 =>
      cases hs
      refine sok0 G fun M p l e R s m args below meth c H locs cells slots Q ls C hl hR hS h1 h2 h3 h4 k => ?_
      obtain ⟨hM, hx, hb, -, hown, hts, hK, hF, -⟩ := C
      obtain ⟨hd, hn⟩ := ck_dec (hck M hM)
      have hn : nx = pc + 1 := hn
      subst hn
      obtain ⟨hP, ht, hr16⟩ := hR
      have hr : r < 16 := KOK_lt hok (by rw [e22]; omega) (by rw [e22]; omega)
      have hkr := hk_ro ht hr
      rw [hkr] at e22
      have h014 := roK_22 hr e22
      have ea : adr G r = gr G r := by unfold adr; rw [if_pos hr]
      rw [List.map_cons, cv_ref G, ea]
      rw [hkr] at k
      rcases h014 with rfl | rfl
      · exact va_tlen hx hb hF.1 hS rfl hd k
      · exact va_tlen hx hb hF.2.2.1 hS rfl hd k
    · cases hs
  · cases hs
theorem sg_laload {mi pc : Nat} {lv : Lv} {st : List Value} {h : Hp} {nx a b t : Nat} {c : Int} {pc' : Nat} {lv' : Lv} {st' : List Value} {h' : Hp} (hck : ∀ M, minf[mi]? = some M → chkI M pc (.laload, nx, a, b, c, t) = true) (hs : astep minf (gX G) mi (.laload, nx, a, b, c, t) pc lv st h = some (.inl (pc', lv', st', h'))) : StepOK G mi pc lv st h pc' lv' st' h' := by
  simp only [astep, a_go] at hs
  split at hs
  · next i r st =>
    split at hs
    · next hin =>
      cases hs
      refine sok0 G fun M p l e R s m args below meth c H locs cells slots Q ls C hl hR hS h1 h2 h3 h4 k => ?_
      obtain ⟨hM, hx, hb, -, hown, hts, hK, hF, -⟩ := C
      obtain ⟨hd, hn⟩ := ck_dec (hck M hM)
      have hn : nx = pc + 1 := hn
      subst hn
      obtain ⟨hP, ht, hr16⟩ := hR
      have ho := hk_own ht (a := r) (by omega)
      have hg := wld_get G ho.1 ho.2
      rw [wcell_l G hin.2] at hg
      rw [List.map_cons, List.map_cons, cv_ref G]
      exact va_lald hx hb hK hP (r - 16) 1 hg rfl (inb_in hin.1) hd k
    · cases hs
  · cases hs
theorem sg_aaload {mi pc : Nat} {lv : Lv} {st : List Value} {h : Hp} {nx a b t : Nat} {c : Int} {pc' : Nat} {lv' : Lv} {st' : List Value} {h' : Hp} (hck : ∀ M, minf[mi]? = some M → chkI M pc (.aaload, nx, a, b, c, t) = true) (hs : astep minf (gX G) mi (.aaload, nx, a, b, c, t) pc lv st h = some (.inl (pc', lv', st', h'))) : StepOK G mi pc lv st h pc' lv' st' h' := by
  simp only [astep, a_go] at hs
  split at hs
  · next i r st =>
    split at hs
    · next hin =>
      have hgo : pc' = nx ∧ lv' = lv ∧ h' = h ∧ st' = ((match h.2.2.2 r i.toNatClampNeg with | some x => Value.ref x | none => .null) :: st) := by
        cases er : h.2.2.2 r i.toNatClampNeg with
        | none => rw [er] at hs; cases hs; exact ⟨rfl, rfl, rfl, rfl⟩
        | some x => rw [er] at hs; cases hs; exact ⟨rfl, rfl, rfl, rfl⟩
      obtain ⟨rfl, rfl, rfl, rfl⟩ := hgo
      refine sok0 G fun M p l e R s m args below meth c H locs cells slots Q ls C hl hR hS h1 h2 h3 h4 k => ?_
      obtain ⟨hM, hx, hb, -, hown, hts, hK, hF, -⟩ := C
      obtain ⟨hd, hn⟩ := ck_dec (hck M hM)
      have hn : pc' = pc + 1 := hn
      subst hn
      obtain ⟨hP, ht, hr16⟩ := hR
      obtain ⟨hi, e1, e2⟩ := hin
      have ho := hk_own ht (a := r) (by omega)
      have hg := wld_get G ho.1 ho.2
      rw [wcell_r G e1] at hg
      rw [List.map_cons, List.map_cons, cv_ref G]
      have ek : (hk h' r).1 = 11 ∨ (hk h' r).1 = 12 ∨ (hk h' r).1 = 13 := by omega
      have kk : W p l e R s m args below meth c H locs cells slots Q (F0 m (pc + 1) ls (va_rf ((fun j => (h'.2.2.2 r j).map (adr G)) i.toNatClampNeg) :: st.map (cv G))) := by
        cases er : h'.2.2.2 r i.toNatClampNeg with
        | none =>
          rw [er] at k
          simp only [er, Option.map_none]
          exact k
        | some x =>
          rw [er, List.map_cons] at k
          have := hr16 _ _ _ er
          dsimp only at k
          rw [cv_ref G] at k
          simp only [er, Option.map_some]
          exact k
      rcases ek with z | z | z
      · rw [z] at hg
        exact va_aldq hx hb hK hP (r - 16) 2 hg rfl (inb_in hi) hd kk
      · rw [z] at hg
        exact va_aldq hx hb hK hP (r - 16) 3 hg rfl (inb_in hi) hd kk
      · rw [z] at hg
        exact va_aldq hx hb hK hP (r - 16) 4 hg rfl (inb_in hi) hd kk
    · cases hs
  · cases hs
end SND4
