theorem wd_oi : Cond.instanceMethod objectInit ∈ TBLG := tbgl (tb_1 (i := 23) rfl) rfl
theorem wd_oc : Cond.code objectInit ⟨#[0xb1]⟩ 1 none ∈ TBLG := tbgl (tb_1 (i := 24) rfl) rfl
theorem wd_an : Cond.native arraycopyName ∈ TBLG := tbgl (tb_3 (i := 62) rfl) rfl
theorem wd_as : Cond.static arraycopyName ∈ TBLG := tbgl (tb_3 (i := 61) rfl) rfl
theorem wd_ai : Cond.initialized "java/lang/System" ∈ TBLG := tbgl (tb_1 (i := 16) rfl) rfl
theorem wd_mi : Cond.initialized "java/lang/Math" ∈ TBLG := tbgl (tb_1 (i := 13) rfl) rfl
theorem wd_m1002 : Cond.static Lib.Math.abs.name ∈ TBLG := tbgl (tb_4 (i := 63) rfl) rfl
theorem wd_m1003 : Cond.static Lib.Math.max.name ∈ TBLG := tbgl (tb_2 (i := 96) rfl) rfl
theorem wd_m1004 : Cond.static Lib.MathLoose.max_long.x ∈ TBLG := tbgl (tb_3 (i := 111) rfl) rfl
theorem wd_m1005 : Cond.static Lib.Math.min.name ∈ TBLG := tbgl (tb_2 (i := 99) rfl) rfl
theorem wd_m1006 : Cond.static Lib.MathLoose.min_long.x ∈ TBLG := tbgl (tb_3 (i := 108) rfl) rfl
theorem wd_cai : Cond.arrayClass .int ∈ TBLG := tbgl (tb_1 (i := 51) rfl) rfl
theorem wd_cal : Cond.arrayClass .long ∈ TBLG := tbgl (tb_1 (i := 225) rfl) rfl
theorem wd_o11 : Cond.arrayOver (.object "PulledToAHair$Sheet") ∈ lw_tbl := tb_1 (i := 83) rfl
theorem wd_o12 : Cond.arrayOver (.object "PulledToAHair$Step") ∈ lw_tbl := tb_1 (i := 53) rfl
theorem wd_o13 : Cond.arrayOver (.object "PulledToAHair$Text") ∈ lw_tbl := tb_1 (i := 55) rfl
theorem wd_n0 : Cond.instantiable RX0 4 ∈ TBLG := tbgl (tb_1 (i := 26) rfl) rfl
theorem wd_i0 : Cond.initialized RX0 ∈ TBLG := tbgl (tb_1 (i := 2) rfl) rfl
theorem wd_n1 : Cond.instantiable RX1 6 ∈ TBLG := tbgl (tb_1 (i := 143) rfl) rfl
theorem wd_i1 : Cond.initialized RX1 ∈ TBLG := tbgl (tb_1 (i := 7) rfl) rfl
theorem wd_n2 : Cond.instantiable RX2 6 ∈ TBLG := tbgl (tb_1 (i := 57) rfl) rfl
theorem wd_i2 : Cond.initialized RX2 ∈ TBLG := tbgl (tb_1 (i := 3) rfl) rfl
theorem wd_n3 : Cond.instantiable RX3 12 ∈ TBLG := tbgl (tb_1 (i := 172) rfl) rfl
theorem wd_i3 : Cond.initialized RX3 ∈ TBLG := tbgl (tb_1 (i := 8) rfl) rfl
theorem wd_n4 : Cond.instantiable RX4 3 ∈ TBLG := tbgl (tb_1 (i := 123) rfl) rfl
theorem wd_i4 : Cond.initialized RX4 ∈ TBLG := tbgl (tb_1 (i := 6) rfl) rfl
theorem wd_n5 : Cond.instantiable RX5 3 ∈ TBLG := tbgl (tb_1 (i := 84) rfl) rfl
theorem wd_i5 : Cond.initialized RX5 ∈ TBLG := tbgl (tb_1 (i := 4) rfl) rfl
theorem wd_n6 : Cond.instantiable RX6 4 ∈ TBLG := tbgl (tb_1 (i := 105) rfl) rfl
theorem wd_i6 : Cond.initialized RX6 ∈ TBLG := tbgl (tb_1 (i := 5) rfl) rfl
theorem wd_n7 : Cond.instantiable RX7 15 ∈ TBLG := tbgl (tb_1 (i := 18) rfl) rfl
theorem wd_i7 : Cond.initialized RX7 ∈ TBLG := tbgl (tb_1 (i := 1) rfl) rfl
theorem wd_n8 : Cond.instantiable RX8 54 ∈ TBLG := tbgl (tb_4 (i := 176) rfl) rfl
theorem wd_i8 : Cond.initialized RX8 ∈ TBLG := tbgl (tb_1 (i := 15) rfl) rfl
section SND6
variable (G : GT)
theorem sok2 {mi pc : Nat} {lv : Lv} {st : List Value} {h : Hp} {pc' : Nat} {st' : List Value}
    (k : ∀ (M : MI) (p : Program) (l : Launch) (e : Env) (R : Room) (s : State) (m : MethodId) (args : Array Value) (below : List Frame) (meth : Method) (c : Code) (H : Heap) (locs : List Loc) (cells slots : Nat) (Q : State → Prop) (ls : Array Slot),
      SCtx G mi M p s m args meth c → c.maxLocals = ls.size → Rl G h H → va_S (AG G) s.heap H locs → 1 ≤ R.frames → 100 ≤ R.locals → cells ≤ R.cells → slots ≤ R.slots →
      W p l e R s m args below meth c H locs cells slots Q (F0 m pc' ls (st'.map (cv G))) → W p l e R s m args below meth c H locs cells slots Q (F0 m pc ls (st.map (cv G)))) : StepOK G mi pc lv st h pc' lv st' h := by
  refine ⟨rfl, Nat.le_refl _, Nat.le_refl _, fun M p l e R s m args below meth c H locs cells slots Q ls C hn hl hR hS h1 h2 h3 h4 hcs kk => ?_⟩
  simp only [Nat.sub_self, Nat.add_zero] at h3 h4 kk
  have hls : c.maxLocals = ls.size := by rw [C.2.2.2.1, ← hn]; exact hl.1.symm
  exact k M p l e R s m args below meth c H locs cells slots Q ls C hls hR hS h1 h2 h3 h4 (kk H locs ls hl hR hS)
theorem nneg {x : Int32} (h : 0 ≤ x.toInt) : ¬ x < 0 := by
  rw [Int32.lt_iff_toInt_lt, Int32.toInt_zero]
  omega
theorem sg_objInit {mi pc : Nat} {lv : Lv} {st : List Value} {h : Hp} {nx b t : Nat} {c : Int} {pc' : Nat} {lv' : Lv} {st' : List Value} {h' : Hp} {idx : Nat} (hck : ∀ M, minf[mi]? = some M → chkI M pc (.invokespecial idx, nx, 1000, b, c, t) = true) (hs : astep minf (gX G) mi (.invokespecial idx, nx, 1000, b, c, t) pc lv st h = some (.inl (pc', lv', st', h'))) : StepOK G mi pc lv st h pc' lv' st' h' := by
  simp only [astep, a_go, if_pos] at hs
  split at hs
  · next r st =>
    split at hs
    · next hne =>
      cases hs
      refine sok2 G fun M p l e R s m args below meth c H locs cells slots Q ls C hls hR hS h1 h2 h3 h4 k => ?_
      obtain ⟨hM, hx, hb, -, hown, hts, -⟩ := C
      have hw := hck M hM
      obtain ⟨hd, hn⟩ := ck_dec hw
      have hn : nx = pc + 3 := hn
      subst hn
      unfold chkI at hw
      simp only [Bool.and_eq_true, if_pos] at hw
      rw [List.map_cons, cv_ref G]
      refine W.objInit hx hb hown (hts _ (tbg hw.2)) (hts _ wd_oi) (hts _ wd_oc) rfl hls.symm rfl hd h1 ?_ k
      rw [cv_sum]
      have := hne
      show 2 * 0 + _ + 12 ≤ _
      omega
    · cases hs
  · cases hs
theorem sg_arraycopy {mi pc : Nat} {lv : Lv} {st : List Value} {h : Hp} {nx b t : Nat} {c : Int} {pc' : Nat} {lv' : Lv} {st' : List Value} {h' : Hp} {idx : Nat} (hck : ∀ M, minf[mi]? = some M → chkI M pc (.invokestatic idx, nx, 1001, b, c, t) = true) (hs : astep minf (gX G) mi (.invokestatic idx, nx, 1001, b, c, t) pc lv st h = some (.inl (pc', lv', st', h'))) : StepOK G mi pc lv st h pc' lv' st' h' := by
  simp only [astep, a_go, if_pos] at hs
  split at hs
  · next n d y s0 x st =>
    split at hs
    · next hc =>
      cases hs
      obtain ⟨hn0, hd0, hs0, hx2, hy2, kx, ky, hsum⟩ := hc
      refine sokU G (h := h) (h' := hcp h x s0.toNatClampNeg y d.toNatClampNeg n.toNatClampNeg) rfl (fun M p l e R s m args below meth c H locs cells slots Q ls C hls hR hS h1 h2 k => ?_) (fun z _ => z)
      obtain ⟨hM, hx, hb, -, hown, hts, hK, -⟩ := C
      have hw := hck M hM
      obtain ⟨hdg, hn⟩ := ck_dec hw
      have hn : nx = pc + 3 := hn
      subst hn
      unfold chkI at hw
      simp only [Bool.and_eq_true, if_pos] at hw
      obtain ⟨hP, ht, hr16⟩ := hR
      have hox := hk_own ht (a := x) (by omega)
      have hoy := hk_own ht (a := y) (by omega)
      have hgx := wld_get G hox.1 hox.2
      have hgy := wld_get G hoy.1 hoy.2
      rw [wcell_i G kx] at hgx
      rw [wcell_i G ky] at hgy
      rw [List.map_cons, List.map_cons, List.map_cons, List.map_cons, List.map_cons, cv_ref G, cv_ref G]
      refine va_copyi (ty := .int) hx hb hls hown (hts _ (tbg hw.2)) (hts _ wd_an) (hts _ wd_as) (hts _ wd_ai) hK hP (wld_D G h) hS (x - 16) (y - 16) 0 0 hgx hgy rfl rfl rfl (nneg hs0) (nneg hd0) (nneg hn0) hx2 hy2 (fun _ _ => rfl) h1 ?_ hdg fun H1 locs1 hP1 _ hS1 => k H1 locs1 ?_ hS1
      · rw [cv_sum]
        have : nativeFrameWords "java/lang/System" "arraycopy" 5 = 7 := by decide +kernel
        omega
      · rw [← wld_upd G (h := h) (h' := hcp h x s0.toNatClampNeg y d.toNatClampNeg n.toNatClampNeg) rfl (fun b hb => wcell_cp G hb) hoy.1 hoy.2, wcell_i G (h := hcp h x s0.toNatClampNeg y d.toNatClampNeg n.toNatClampNeg) ky]
        have e : (hcp h x s0.toNatClampNeg y d.toNatClampNeg n.toNatClampNeg).2.1 y = va_cpy (h.2.1 x) (h.2.1 y) s0.toNatClampNeg d.toNatClampNeg n.toNatClampNeg := by
          funext j
          simp [hcp, up1, va_cpy]
        rw [e]
        exact hP1
    · cases hs
  · cases hs
theorem sg_math {mi pc : Nat} {lv : Lv} {st : List Value} {h : Hp} {nx a b t : Nat} {c : Int} {pc' : Nat} {lv' : Lv} {st' : List Value} {h' : Hp} {idx : Nat} (ha : 1002 ≤ a ∧ a ≤ 1006) (hck : ∀ M, minf[mi]? = some M → chkI M pc (.invokestatic idx, nx, a, b, c, t) = true) (hs : astep minf (gX G) mi (.invokestatic idx, nx, a, b, c, t) pc lv st h = some (.inl (pc', lv', st', h'))) : StepOK G mi pc lv st h pc' lv' st' h' := by
  have hckw : ∀ M, minf[mi]? = some M → Cond.methodLink M.1 idx (mathN a) ∈ TBLG := by
    intro M hM
    have hw := hck M hM
    unfold chkI at hw
    simp only [Bool.and_eq_true] at hw
    have hw2 := hw.2
    rw [if_neg (by omega), if_pos ha] at hw2
    exact tbg hw2
  have hs : a_math a nx lv st h = some (.inl (pc', lv', st', h')) := by
    simp only [astep] at hs
    rwa [if_neg (by omega), if_pos ha] at hs
  have h5 : a = 1002 ∨ a = 1003 ∨ a = 1004 ∨ a = 1005 ∨ a = 1006 := by omega
  rcases h5 with rfl | rfl | rfl | rfl | rfl
  · simp only [a_math, a_go] at hs
    split at hs
    · split at hs
      · next hsum =>
        cases hs
        refine sok2 G fun M p l e R s m args below meth c H locs cells slots Q ls C hls hR hS h1 h2 h3 h4 k => ?_
        obtain ⟨hM, hx, hb, -, hown, hts, -⟩ := C
        obtain ⟨hd, hn⟩ := ck_dec (hck M hM)
        have hn : nx = pc + 3 := hn
        subst hn
        exact va_mabs hx hb hls hown (hts _ (hckw M hM)) (hts _ wd_m1002) (hts _ wd_mi) (hts _ (tbgl cm_abs rfl)) h1 (by rw [cv_sum]; omega) h3 h4 hd k
      · cases hs
    · cases hs
  · simp only [a_math, a_go] at hs
    split at hs
    · split at hs
      · next hsum =>
        cases hs
        refine sok2 G fun M p l e R s m args below meth c H locs cells slots Q ls C hls hR hS h1 h2 h3 h4 k => ?_
        obtain ⟨hM, hx, hb, -, hown, hts, -⟩ := C
        obtain ⟨hd, hn⟩ := ck_dec (hck M hM)
        have hn : nx = pc + 3 := hn
        subst hn
        exact va_mmax hx hb hls hown (hts _ (hckw M hM)) (hts _ wd_m1003) (hts _ wd_mi) (hts _ (tbgl cm_max rfl)) h1 (by rw [cv_sum]; omega) h3 h4 hd k
      · cases hs
    · cases hs
  · simp only [a_math, a_go] at hs
    split at hs
    · split at hs
      · next hsum =>
        cases hs
        refine sok2 G fun M p l e R s m args below meth c H locs cells slots Q ls C hls hR hS h1 h2 h3 h4 k => ?_
        obtain ⟨hM, hx, hb, -, hown, hts, -⟩ := C
        obtain ⟨hd, hn⟩ := ck_dec (hck M hM)
        have hn : nx = pc + 3 := hn
        subst hn
        exact va_mmax_long hx hb hls hown (hts _ (hckw M hM)) (hts _ wd_m1004) (hts _ wd_mi) (hts _ (tbgl cm_maxl rfl)) h1 (by rw [cv_sum]; omega) h3 h4 hd k
      · cases hs
    · cases hs
  · simp only [a_math, a_go] at hs
    split at hs
    · split at hs
      · next hsum =>
        cases hs
        refine sok2 G fun M p l e R s m args below meth c H locs cells slots Q ls C hls hR hS h1 h2 h3 h4 k => ?_
        obtain ⟨hM, hx, hb, -, hown, hts, -⟩ := C
        obtain ⟨hd, hn⟩ := ck_dec (hck M hM)
        have hn : nx = pc + 3 := hn
        subst hn
        exact va_mmin hx hb hls hown (hts _ (hckw M hM)) (hts _ wd_m1005) (hts _ wd_mi) (hts _ (tbgl cm_min rfl)) h1 (by rw [cv_sum]; omega) h3 h4 hd k
      · cases hs
    · cases hs
  · simp only [a_math, a_go] at hs
    split at hs
    · split at hs
      · next hsum =>
        cases hs
        refine sok2 G fun M p l e R s m args below meth c H locs cells slots Q ls C hls hR hS h1 h2 h3 h4 k => ?_
        obtain ⟨hM, hx, hb, -, hown, hts, -⟩ := C
        obtain ⟨hd, hn⟩ := ck_dec (hck M hM)
        have hn : nx = pc + 3 := hn
        subst hn
        exact va_mmin_long hx hb hls hown (hts _ (hckw M hM)) (hts _ wd_m1006) (hts _ wd_mi) (hts _ (tbgl cm_minl rfl)) h1 (by rw [cv_sum]; omega) h3 h4 hd k
      · cases hs
    · cases hs
-- what is made
theorem slt_new (h : Hp) (q : Nat × Nat) : slt (hnew h q) = slt h + q.2 := by
  unfold slt hnew
  simp
theorem len_new (h : Hp) (q : Nat × Nat) : (hnew h q).1.length = h.1.length + 1 := by
  unfold hnew
  simp
theorem q_at {h : Hp} {H1 : Heap} {q : Nat} {e : va_E} {s : State} {cells : Nat} (hl : 16 ≤ h.1.length) (hcs : s.heap.size + cells = gz G + (h.1.length - 16)) (hP1 : va_P (gD G) vwCl (wld G h ++ [(q, e)]) H1) (hD1 : va_D (AG G) (wld G h ++ [(q, e)])) (hb : H1.size ≤ s.heap.size + (cells + 1)) : q = gz G + (h.1.length - 16) := by
  have hlen : (wld G h).length = h.1.length - 16 := by simp [wld]
  have hq : (wld G h ++ [(q, e)])[h.1.length - 16]? = some (q, e) := by
    rw [List.getElem?_append_right (by omega), hlen]
    simp
  have h1 : q < H1.size := (hP1 _ _ hq).lt
  have h2 : gz G ≤ q := hD1.2 _ _ hq
  rcases Nat.lt_or_ge q (gz G + (h.1.length - 16)) with z | z
  · have hg := wld_get G (h := h) (a := 16 + (q - gz G)) (by omega) (by omega)
    have hi : 16 + (q - gz G) - 16 = q - gz G := by omega
    rw [hi] at hg
    have hg2 : (wld G h ++ [(q, e)])[q - gz G]? = some (adr G (16 + (q - gz G)), wcell G h (16 + (q - gz G))) := by
      rw [List.getElem?_append_left (by omega)]
      exact hg
    have := hD1.1 _ _ _ _ hg2 hq (by rw [adr_own G (by omega)]; show gz G + (16 + (q - gz G) - 16) = q; omega)
    omega
  · omega
theorem Rl_new {h : Hp} {H1 : Heap} {q : Nat × Nat} (hl : 16 ≤ h.1.length) (hR : h.1.take 16 = roK (gL G) ∧ ∀ a j r : Nat, h.2.2.2 a j = some r → 16 ≤ r) (hP1 : va_P (gD G) vwCl (wld G h ++ [(gz G + (h.1.length - 16), wcell G (hnew h q) h.1.length)]) H1) : Rl G (hnew h q) H1 := by
  refine ⟨by rw [← wld_new G hl]; exact hP1, ?_, fun a j r hr => ?_⟩
  · show (h.1 ++ [q]).take 16 = _
    rw [List.take_append_of_le_length hl]
    exact hR.1
  · have hr : up1 h.2.2.2 h.1.length (fun _ => none) a j = some r := hr
    unfold up1 at hr
    split at hr
    · cases hr
    · exact hR.2 a j r hr
theorem adr_new {h : Hp} (hl : 16 ≤ h.1.length) : cv G (.ref h.1.length) = .ref (gz G + (h.1.length - 16)) := by
  rw [cv_ref G, adr_own G hl]
theorem new_row (h : Hp) (q : Nat × Nat) : (hnew h q).2.1 h.1.length = (fun _ => 0) ∧ (hnew h q).2.2.1 h.1.length = (fun _ => 0) ∧ (hnew h q).2.2.2 h.1.length = (fun _ => none) := by
  refine ⟨?_, ?_, ?_⟩ <;> funext j <;> simp [hnew, up1]
theorem sok_new {mi pc : Nat} {lv : Lv} {st st0 : List Value} {h : Hp} {pc' : Nat} {q : Nat × Nat}
    (k : ∀ (M : MI) (p : Program) (l : Launch) (e : Env) (R : Room) (s : State) (m : MethodId) (args : Array Value) (below : List Frame) (meth : Method) (c : Code) (H : Heap) (locs : List Loc) (cells slots : Nat) (Q : State → Prop) (ls : Array Slot),
      SCtx G mi M p s m args meth c → Rl G h H → va_S (AG G) s.heap H locs → cells + 1 ≤ R.cells → slots + q.2 ≤ R.slots → (∀ z, s.heap.size ≤ z → AG G z) →
      (∀ (y : Nat) (H1 : Heap), va_P (gD G) vwCl (wld G h ++ [(y, wcell G (hnew h q) h.1.length)]) H1 → va_D (AG G) (wld G h ++ [(y, wcell G (hnew h q) h.1.length)]) → va_S (AG G) s.heap H1 locs → W p l e R s m args below meth c H1 locs (cells + 1) (slots + q.2) Q (F0 m pc' ls (.ref y :: st.map (cv G)))) → W p l e R s m args below meth c H locs cells slots Q (F0 m pc ls (st0.map (cv G)))) : StepOK G mi pc lv st0 h pc' lv (.ref h.1.length :: st) (hnew h q) := by
  refine ⟨rfl, by rw [len_new]; omega, by rw [slt_new]; omega, fun M p l e R s m args below meth c H locs cells slots Q ls C hn hl hR hS h1 h2 h3 h4 hcs kk => ?_⟩
  have e1 : (hnew h q).1.length - h.1.length = 1 := by rw [len_new]; omega
  have e2 : slt (hnew h q) - slt h = q.2 := by rw [slt_new]; omega
  rw [e1, e2] at kk
  rw [e1] at h3
  rw [e2] at h4
  have hlen := take_len hR.2.1
  refine k M p l e R s m args below meth c H locs cells slots Q ls C hR hS h3 h4 (fun z hz => Nat.le_trans C.2.2.2.2.2.2.2.2.1 hz) fun y H1 hP1 hD1 hS1 => ?_
  refine W_bnd fun hb => ?_
  have ey := q_at G hlen hcs hP1 hD1 hb
  subst ey
  have := kk H1 locs ls hl (Rl_new G hlen hR.2 hP1) hS1
  rw [List.map_cons, adr_new G hlen] at this
  exact this
theorem sg_newarray {mi pc : Nat} {lv : Lv} {st : List Value} {h : Hp} {nx a b t : Nat} {c : Int} {pc' : Nat} {lv' : Lv} {st' : List Value} {h' : Hp} {at_ : ArrayType} (hck : ∀ M, minf[mi]? = some M → chkI M pc (.newarray at_, nx, a, b, c, t) = true) (hs : astep minf (gX G) mi (.newarray at_, nx, a, b, c, t) pc lv st h = some (.inl (pc', lv', st', h'))) : StepOK G mi pc lv st h pc' lv' st' h' := by
  simp only [astep, a_go] at hs
  split at hs
  · next n st =>
    split at hs
    · next hn =>
      cases hs
      obtain ⟨hn0, hn1, -⟩ := hn
      refine sok_new G (q := (a, n.toNatClampNeg)) fun M p l e R s m args below meth c H locs cells slots Q ls C hR hS h3 h4 hA k => ?_
      obtain ⟨hM, hx, hb, -, hown, hts, hK, hF, -⟩ := C
      have hw := hck M hM
      obtain ⟨hd, hnx⟩ := ck_dec hw
      have hnx : nx = pc + 2 := hnx
      subst hnx
      unfold chkI at hw
      simp only [Bool.and_eq_true, decide_eq_true_eq] at hw
      obtain ⟨hP, ht, hr16⟩ := hR
      have hcl : n.toNatClampNeg ≤ 100000 := by
        show n.toInt.toNat ≤ 100000
        omega
      obtain ⟨r1, r2, r3⟩ := new_row h (a, n.toNatClampNeg)
      rcases hw.2 with ⟨ea, et⟩ | ⟨ea, et⟩
      · subst et
        refine va_newa (atype := .int) (ty := .int) (a0 := (n.toNatClampNeg, .inl (fun _ => 0))) hx hb (hts _ wd_cai) rfl hK hP (wld_D G h) hS hA (fun cA => rfl) (nneg hn0) rfl (by show n.toNatClampNeg * 4 ≤ 536870912; omega) h3 h4 hd fun q cA H1 hK1 hP1 hD1 hS1 => ?_
        have e9 : cA = gc G 9 := by
          have q1 := (hK1.2 5 (cA, .int) rfl).2
          have q2 := (hK.2 0 (gc G 9, .int) rfl).2
          exact Option.some.inj (q1.symm.trans q2)
        have ew : wcell G (hnew h (a, n.toNatClampNeg)) h.1.length = .inl (gc G 9, (n.toNatClampNeg, .inl (fun _ => 0))) := by
          rw [wcell_i G (by rw [hk_newest]; exact ea), hk_newest, r1]
        rw [← e9] at ew
        exact k q H1 (by rw [ew]; exact hP1) (by rw [ew]; exact hD1) hS1
      · subst et
        refine va_newa (atype := .long) (ty := .long) (a0 := (n.toNatClampNeg, .inr (.inl (fun _ => 0)))) hx hb (hts _ wd_cal) rfl hK hP (wld_D G h) hS hA (fun cA => rfl) (nneg hn0) rfl (by show n.toNatClampNeg * 8 ≤ 536870912; omega) h3 h4 hd fun q cA H1 hK1 hP1 hD1 hS1 => ?_
        have e9 : cA = gc G 10 := by
          have q1 := (hK1.2 5 (cA, .long) rfl).2
          have q2 := (hK.2 1 (gc G 10, .long) rfl).2
          exact Option.some.inj (q1.symm.trans q2)
        have ew : wcell G (hnew h (a, n.toNatClampNeg)) h.1.length = .inl (gc G 10, (n.toNatClampNeg, .inr (.inl (fun _ => 0)))) := by
          rw [wcell_l G (by rw [hk_newest]; exact ea), hk_newest, r2]
        rw [← e9] at ew
        exact k q H1 (by rw [ew]; exact hP1) (by rw [ew]; exact hD1) hS1
    · cases hs
  · cases hs
theorem sg_anewarray {mi pc : Nat} {lv : Lv} {st : List Value} {h : Hp} {nx a b t : Nat} {c : Int} {pc' : Nat} {lv' : Lv} {st' : List Value} {h' : Hp} {idx : Nat} (hck : ∀ M, minf[mi]? = some M → chkI M pc (.anewarray idx, nx, a, b, c, t) = true) (hs : astep minf (gX G) mi (.anewarray idx, nx, a, b, c, t) pc lv st h = some (.inl (pc', lv', st', h'))) : StepOK G mi pc lv st h pc' lv' st' h' := by
  simp only [astep, a_go] at hs
  split at hs
  · next n st =>
    split at hs
    · next hn =>
      cases hs
      obtain ⟨hn0, hn1, -⟩ := hn
      refine sok_new G (q := (a, n.toNatClampNeg)) fun M p l e R s m args below meth c H locs cells slots Q ls C hR hS h3 h4 hA k => ?_
      obtain ⟨hM, hx, hb, -, hown, hts, hK, hF, -⟩ := C
      have hw := hck M hM
      obtain ⟨hd, hnx⟩ := ck_dec hw
      have hnx : nx = pc + 3 := hnx
      subst hnx
      unfold chkI at hw
      simp only [Bool.and_eq_true, decide_eq_true_eq] at hw
      obtain ⟨-, ha, hw⟩ := hw
      have hw := tbg hw
      obtain ⟨hP, ht, hr16⟩ := hR
      have hcl : n.toNatClampNeg ≤ 100000 := by
        show n.toInt.toNat ≤ 100000
        omega
      obtain ⟨r1, r2, r3⟩ := new_row h (a, n.toNatClampNeg)
      have ew : wcell G (hnew h (a, n.toNatClampNeg)) h.1.length = .inl (gc G a, (n.toNatClampNeg, .inr (.inr (.inr (.inr (fun _ => none)))))) := by
        rw [wcell_r G (by rw [hk_newest]; exact ha.1), hk_newest, r3]
        rfl
      have h3' : a = 11 ∨ a = 12 ∨ a = 13 := by omega
      rcases h3' with rfl | rfl | rfl
      · refine va_newq (C := RX4) hx hb hown (hts _ hw) (hF.2.2.2.2.2.2.2.2.2 RX4 (by simp)) hK hP (wld_D G h) hS hA (nneg hn0) rfl (by omega) h3 h4 hd fun q cA H1 hK1 hP1 hD1 hS1 => ?_
        have e9 : cA = gc G 11 := by
          obtain ⟨_, _, -, -, -, q1⟩ := (hK1.2 5 (cA, .object RX4) rfl).2
          obtain ⟨_, _, -, -, -, q2⟩ := (hK.2 2 (gc G 11, .object RX4) rfl).2
          exact Option.some.inj (q1.symm.trans q2)
        rw [← e9] at ew
        exact k q H1 (by rw [ew]; exact hP1) (by rw [ew]; exact hD1) hS1
      · refine va_newq (C := RX5) hx hb hown (hts _ hw) (hF.2.2.2.2.2.2.2.2.2 RX5 (by simp)) hK hP (wld_D G h) hS hA (nneg hn0) rfl (by omega) h3 h4 hd fun q cA H1 hK1 hP1 hD1 hS1 => ?_
        have e9 : cA = gc G 12 := by
          obtain ⟨_, _, -, -, -, q1⟩ := (hK1.2 5 (cA, .object RX5) rfl).2
          obtain ⟨_, _, -, -, -, q2⟩ := (hK.2 3 (gc G 12, .object RX5) rfl).2
          exact Option.some.inj (q1.symm.trans q2)
        rw [← e9] at ew
        exact k q H1 (by rw [ew]; exact hP1) (by rw [ew]; exact hD1) hS1
      · refine va_newq (C := RX6) hx hb hown (hts _ hw) (hF.2.2.2.2.2.2.2.2.2 RX6 (by simp)) hK hP (wld_D G h) hS hA (nneg hn0) rfl (by omega) h3 h4 hd fun q cA H1 hK1 hP1 hD1 hS1 => ?_
        have e9 : cA = gc G 13 := by
          obtain ⟨_, _, -, -, -, q1⟩ := (hK1.2 5 (cA, .object RX6) rfl).2
          obtain ⟨_, _, -, -, -, q2⟩ := (hK.2 4 (gc G 13, .object RX6) rfl).2
          exact Option.some.inj (q1.symm.trans q2)
        rw [← e9] at ew
        exact k q H1 (by rw [ew]; exact hP1) (by rw [ew]; exact hD1) hS1
    · cases hs
  · cases hs
theorem fk_all : ∀ ci, ci < 9 → ∀ j, j < nFf ci → fk (tyf ci j) < 9 := by decide +kernel
theorem wd_new (a : Nat) (h : a < 9) : Cond.instantiable (Rf a) (nFf a) ∈ TBLG ∧ Cond.initialized (Rf a) ∈ TBLG := by
  have : a = 0 ∨ a = 1 ∨ a = 2 ∨ a = 3 ∨ a = 4 ∨ a = 5 ∨ a = 6 ∨ a = 7 ∨ a = 8 := by omega
  rcases this with rfl | rfl | rfl | rfl | rfl | rfl | rfl | rfl | rfl
  · exact ⟨wd_n0, wd_i0⟩
  · exact ⟨wd_n1, wd_i1⟩
  · exact ⟨wd_n2, wd_i2⟩
  · exact ⟨wd_n3, wd_i3⟩
  · exact ⟨wd_n4, wd_i4⟩
  · exact ⟨wd_n5, wd_i5⟩
  · exact ⟨wd_n6, wd_i6⟩
  · exact ⟨wd_n7, wd_i7⟩
  · exact ⟨wd_n8, wd_i8⟩
theorem sg_new {mi pc : Nat} {lv : Lv} {st : List Value} {h : Hp} {nx a b t : Nat} {c : Int} {pc' : Nat} {lv' : Lv} {st' : List Value} {h' : Hp} {idx : Nat} (hck : ∀ M, minf[mi]? = some M → chkI M pc (.new idx, nx, a, b, c, t) = true) (hs : astep minf (gX G) mi (.new idx, nx, a, b, c, t) pc lv st h = some (.inl (pc', lv', st', h'))) : StepOK G mi pc lv st h pc' lv' st' h' := by
  simp only [astep, a_go] at hs
  split at hs
  · cases hs
    refine sok_new G (q := (a, nFf a)) fun M p l e R s m args below meth c H locs cells slots Q ls C hR hS h3 h4 hA k => ?_
    obtain ⟨hM, hx, hb, -, hown, hts, hK, hF, -⟩ := C
    have hw := hck M hM
    obtain ⟨hd, hnx⟩ := ck_dec hw
    have hnx : nx = pc + 3 := hnx
    subst hnx
    unfold chkI at hw
    simp only [Bool.and_eq_true, decide_eq_true_eq] at hw
    obtain ⟨-, ha, hw⟩ := hw
    have hw := tbg hw
    obtain ⟨hP, ht, hr16⟩ := hR
    obtain ⟨r1, r2, r3⟩ := new_row h (a, nFf a)
    have ew := wcell_obj G (h := hnew h (a, nFf a)) (a := h.1.length) ha hk_newest
    refine va_new (ci := a) (fs := (List.range (nFf a)).map (fun j => wfld G (hnew h (a, nFf a)) h.1.length a j)) hx hb hts (Tf_in a ha) (tyf a) (Tf_ty a ha) hown (hts _ hw) (hts _ (wd_new a ha).1) (hts _ (wd_new a ha).2) hK hP (wld_D G h) hS hA (Tf_ok a ha) (fun j hj => ?_) h3 h4 hd fun q H1 hP1 hD1 hS1 => k q H1 (by rw [ew]; exact hP1) (by rw [ew]; exact hD1) hS1
    have e1 : vp_V ((List.range (nFf a)).map (fun j => wfld G (hnew h (a, nFf a)) h.1.length a j)) j = wfld G (hnew h (a, nFf a)) h.1.length a j := by
      unfold vp_V
      rw [List.getD_eq_getElem?_getD, range_get _ hj]
      rfl
    rw [e1]
    unfold wfld
    rw [r1, r2, r3]
    have hf := fk_all a ha j hj
    cases et : tyf a j <;> rw [et] at hf <;> first | rfl | (exact absurd hf (by decide))
  · cases hs
end SND6
