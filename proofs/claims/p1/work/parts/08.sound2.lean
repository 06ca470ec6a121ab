section SND2
variable (G : GT)
noncomputable def lenS (i : Nat) : Nat := match i with
  | 0 => 84
  | 1 => 72
  | _ => 8
/-- what was there ahead of the law and is read -/
noncomputable def ROF (U : State) : Prop :=
  va_T .int (gr G 0) 6 (fun j => .int (isA.getD j 0)) (AG G) U U.heap ∧
  (∀ i : Nat, i < 3 → va_O "java/lang/String" (gr G (1 + i)) (AG G) U U.heap ∧ va_OF "java/lang/String" "coder" "B" (.int 0) (gr G (1 + i)) (AG G) U U.heap ∧ va_OF "java/lang/String" "value" "[B" (.ref (gr G (4 + i))) (gr G (1 + i)) (AG G) U U.heap ∧ va_T .byte (gr G (4 + i)) (lenS i) (fun j => .int (roI (gX G) (4 + i) j)) (AG G) U U.heap) ∧
  va_T .int (gr G 14) (gL G) (fun j => .int (gX G j)) (AG G) U U.heap ∧
  va_Z "PulledToAHair" "IS_A" "[I" (.ref (gr G 0)) (AG G) U U.heap ∧ va_Z "java/lang/String" "COMPACT_STRINGS" "Z" (.int 1) (AG G) U U.heap ∧ va_Z "jdk/internal/util/Preconditions" "SIOOBE_FORMATTER" "Ljava/util/function/BiFunction;" (va_rf (gf G)) (AG G) U U.heap ∧
  (∀ z ∈ strL, vk_R z.1 z.2.1 z.2.2.2 (gr G z.2.2.1) U) ∧ (∀ own idx y, nestM own idx y ∈ nestW → va_Nw (nestM own idx y) U) ∧ va_Nw nestF U ∧ ∀ C, C = RX4 ∨ C = RX5 ∨ C = RX6 → va_AO C U
theorem ROF.goes {s U : State} (h : ROF G s) (hW : s.WarmedH U.vm) (hq : ∀ q : Nat, q < s.heap.size → ¬ AG G q → U.heap[q]? = s.heap[q]?) : ROF G U := by
  obtain ⟨h1, h2, h3, h4, h5, h6, h7, h8, h9, h10⟩ := h
  have hA : s.vm.Alike U.vm := hW.alike
  refine ⟨(va_T.moved hA h1).kept hq, fun i hi => ?_, (va_T.moved hA h3).kept hq, (va_Z.moved hA h4).kept hq, (va_Z.moved hA h5).kept hq, (va_Z.moved hA h6).kept hq, fun z hz => vk_R.warm hW (h7 z hz), fun own idx y hy => va_Nw.warmM hW (h8 own idx y hy), va_Nw.warmF hW h9, fun C hC => va_AO.moved hA (h10 C hC)⟩
  obtain ⟨a1, a2, a3, a4⟩ := h2 i hi
  exact ⟨(va_O.moved hA a1).kept hq, (va_OF.moved hA a2).kept hq, (va_OF.moved hA a3).kept hq, (va_T.moved hA a4).kept hq⟩
theorem ROF.same {u U : State} (h : ROF G u) (hv : U.vm = u.vm) (hh : U.heap = u.heap) : ROF G U := by
  obtain ⟨h1, h2, h3, h4, h5, h6, h7, h8, h9, h10⟩ := h
  have hA : u.vm.Alike U.vm := by rw [hv]; exact Vm.Alike.refl _
  rw [← hh] at h1 h3 h4 h5 h6
  refine ⟨va_T.moved hA h1, fun i hi => ?_, va_T.moved hA h3, va_Z.moved hA h4, va_Z.moved hA h5, va_Z.moved hA h6, fun z hz => vk_R.same hv (h7 z hz), fun own idx y hy => va_Nw.same rfl hv.symm (h8 own idx y hy), va_Nw.same rfl hv.symm h9, fun C hC => va_AO.moved hA (h10 C hC)⟩
  obtain ⟨a1, a2, a3, a4⟩ := h2 i hi
  rw [← hh] at a1 a2 a3 a4
  exact ⟨va_O.moved hA a1, va_OF.moved hA a2, va_OF.moved hA a3, va_T.moved hA a4⟩
/-- where a method's frame stands -/
noncomputable def SCtx (mi : Nat) (M : MI) (p : Program) (s : State) (m : MethodId) (args : Array Value) (meth : Method) (c : Code) : Prop :=
  minf[mi]? = some M ∧ p.tables.exec = Jvm.exec ∧ c.code = M.2.2.2.1 ∧ c.maxLocals = M.2.2.2.2.1 ∧ s.vm.findClass M.1 = some m.cls ∧ (∀ w ∈ TBLG, w.before args s = true) ∧ va_K (gD G) vwCl (tysG G) s ∧ ROF G s ∧ gz G ≤ s.heap.size ∧ (M.2.2.2.2.2.2.1 = 2 → meth.name = "<init>")
/-- one step of it is one of the machine's -/
noncomputable def StepOK (mi pc : Nat) (lv : Lv) (st : List Value) (h : Hp) (pc' : Nat) (lv' : Lv) (st' : List Value) (h' : Hp) : Prop :=
  lv'.length = lv.length ∧ h.1.length ≤ h'.1.length ∧ slt h ≤ slt h' ∧
  ∀ (M : MI) (p : Program) (l : Launch) (e : Env) (R : Room) (s : State) (m : MethodId) (args : Array Value) (below : List Frame) (meth : Method) (c : Code) (H : Heap) (locs : List Loc) (cells slots : Nat) (Q : State → Prop) (ls : Array Slot),
    SCtx G mi M p s m args meth c → lv.length = M.2.2.2.2.1 → LRl G lv ls → Rl G h H → va_S (AG G) s.heap H locs → 1 ≤ R.frames → 100 ≤ R.locals → cells + (h'.1.length - h.1.length) ≤ R.cells → slots + (slt h' - slt h) ≤ R.slots → s.heap.size + cells = gz G + (h.1.length - 16) →
    (∀ (H' : Heap) (locs' : List Loc) (ls' : Array Slot), LRl G lv' ls' → Rl G h' H' → va_S (AG G) s.heap H' locs' → W p l e R s m args below meth c H' locs' (cells + (h'.1.length - h.1.length)) (slots + (slt h' - slt h)) Q (F0 m pc' ls' (st'.map (cv G)))) →
    W p l e R s m args below meth c H locs cells slots Q (F0 m pc ls (st.map (cv G)))
theorem sok0 {mi pc : Nat} {lv : Lv} {st : List Value} {h : Hp} {pc' : Nat} {st' : List Value}
    (k : ∀ (M : MI) (p : Program) (l : Launch) (e : Env) (R : Room) (s : State) (m : MethodId) (args : Array Value) (below : List Frame) (meth : Method) (c : Code) (H : Heap) (locs : List Loc) (cells slots : Nat) (Q : State → Prop) (ls : Array Slot),
      SCtx G mi M p s m args meth c → LRl G lv ls → Rl G h H → va_S (AG G) s.heap H locs → 1 ≤ R.frames → 100 ≤ R.locals → cells ≤ R.cells → slots ≤ R.slots →
      W p l e R s m args below meth c H locs cells slots Q (F0 m pc' ls (st'.map (cv G))) → W p l e R s m args below meth c H locs cells slots Q (F0 m pc ls (st.map (cv G)))) : StepOK G mi pc lv st h pc' lv st' h := by
  refine ⟨rfl, Nat.le_refl _, Nat.le_refl _, fun M p l e R s m args below meth c H locs cells slots Q ls C hn hl hR hS h1 h2 h3 h4 hcs kk => ?_⟩
  simp only [Nat.sub_self, Nat.add_zero] at h3 h4 kk
  exact k M p l e R s m args below meth c H locs cells slots Q ls C hl hR hS h1 h2 h3 h4 (kk H locs ls hl hR hS)
theorem ck_dec {M : MI} {pc nx a b t : Nat} {c : Int} {i : Ins} (h : chkI M pc (i, nx, a, b, c, t) = true) : decode M.2.2.2.1 pc = .ok (i, ilen i (nx - pc)) ∧ nx = pc + ilen i (nx - pc) := by
  unfold chkI at h
  simp only [Bool.and_eq_true, decide_eq_true_eq] at h
  exact h.1
section WB
variable {p : Program} {l : Launch} {e : Env} {R : Room} {s : State} {m : MethodId} {args : Array Value} {below : List Frame} {meth : Method} {c : Code} {H : Heap} {locs : List Loc} {cells slots : Nat} {Q : State → Prop} {g : JFrame}
/-- the heap has grown by no more than the cells that are counted -/
theorem W_bnd (k : H.size ≤ s.heap.size + cells → W p l e R s m args below meth c H locs cells slots Q g) : W p l e R s m args below meth c H locs cells slots Q g :=
  fun T hT X => k (by rw [← hT]; exact X.heapSize) T hT X
end WB
theorem Rl.size {h : Hp} {H : Heap} {s : State} {locs : List Loc} {cells : Nat} (hR : Rl G h H) (hS : va_S (AG G) s.heap H locs) (hz : gz G ≤ s.heap.size) (hcs : s.heap.size + cells = gz G + (h.1.length - 16)) (hb : H.size ≤ s.heap.size + cells) : H.size = gz G + (h.1.length - 16) := by
  obtain ⟨hP, ht, -⟩ := hR
  have hl := take_len ht
  have h1 := hS.1
  by_cases e : h.1.length = 16
  · omega
  · have h2 := (hP _ _ (wld_get G (h := h) (a := h.1.length - 1) (by omega) (by omega))).lt
    dsimp only at h2
    rw [adr_own G (by omega)] at h2
    omega
theorem sg_iadd {mi pc : Nat} {lv : Lv} {st : List Value} {h : Hp} {nx a b t : Nat} {c : Int} {pc' : Nat} {lv' : Lv} {st' : List Value} {h' : Hp} (hck : ∀ M, minf[mi]? = some M → chkI M pc (.iadd, nx, a, b, c, t) = true) (hs : astep minf (gX G) mi (.iadd, nx, a, b, c, t) pc lv st h = some (.inl (pc', lv', st', h'))) : StepOK G mi pc lv st h pc' lv' st' h' := by
  simp only [astep, a_go] at hs
  split at hs
  · cases hs
    refine sok0 G fun M p l e R s m args below meth c H locs cells slots Q ls C hl hR hS h1 h2 h3 h4 k => ?_
    obtain ⟨hM, hx, hb, -⟩ := C
    obtain ⟨hd, hn⟩ := ck_dec (hck M hM)
    have hn : nx = pc + 1 := hn
    subst hn
    exact lv_iadd hx hb hd k
  · cases hs
theorem sg_isub {mi pc : Nat} {lv : Lv} {st : List Value} {h : Hp} {nx a b t : Nat} {c : Int} {pc' : Nat} {lv' : Lv} {st' : List Value} {h' : Hp} (hck : ∀ M, minf[mi]? = some M → chkI M pc (.isub, nx, a, b, c, t) = true) (hs : astep minf (gX G) mi (.isub, nx, a, b, c, t) pc lv st h = some (.inl (pc', lv', st', h'))) : StepOK G mi pc lv st h pc' lv' st' h' := by
  simp only [astep, a_go] at hs
  split at hs
  · cases hs
    refine sok0 G fun M p l e R s m args below meth c H locs cells slots Q ls C hl hR hS h1 h2 h3 h4 k => ?_
    obtain ⟨hM, hx, hb, -⟩ := C
    obtain ⟨hd, hn⟩ := ck_dec (hck M hM)
    have hn : nx = pc + 1 := hn
    subst hn
    exact lv_isub hx hb hd k
  · cases hs
theorem sg_imul {mi pc : Nat} {lv : Lv} {st : List Value} {h : Hp} {nx a b t : Nat} {c : Int} {pc' : Nat} {lv' : Lv} {st' : List Value} {h' : Hp} (hck : ∀ M, minf[mi]? = some M → chkI M pc (.imul, nx, a, b, c, t) = true) (hs : astep minf (gX G) mi (.imul, nx, a, b, c, t) pc lv st h = some (.inl (pc', lv', st', h'))) : StepOK G mi pc lv st h pc' lv' st' h' := by
  simp only [astep, a_go] at hs
  split at hs
  · cases hs
    refine sok0 G fun M p l e R s m args below meth c H locs cells slots Q ls C hl hR hS h1 h2 h3 h4 k => ?_
    obtain ⟨hM, hx, hb, -⟩ := C
    obtain ⟨hd, hn⟩ := ck_dec (hck M hM)
    have hn : nx = pc + 1 := hn
    subst hn
    exact lv_imul hx hb hd k
  · cases hs
theorem sg_iand {mi pc : Nat} {lv : Lv} {st : List Value} {h : Hp} {nx a b t : Nat} {c : Int} {pc' : Nat} {lv' : Lv} {st' : List Value} {h' : Hp} (hck : ∀ M, minf[mi]? = some M → chkI M pc (.iand, nx, a, b, c, t) = true) (hs : astep minf (gX G) mi (.iand, nx, a, b, c, t) pc lv st h = some (.inl (pc', lv', st', h'))) : StepOK G mi pc lv st h pc' lv' st' h' := by
  simp only [astep, a_go] at hs
  split at hs
  · cases hs
    refine sok0 G fun M p l e R s m args below meth c H locs cells slots Q ls C hl hR hS h1 h2 h3 h4 k => ?_
    obtain ⟨hM, hx, hb, -⟩ := C
    obtain ⟨hd, hn⟩ := ck_dec (hck M hM)
    have hn : nx = pc + 1 := hn
    subst hn
    exact lv_iand hx hb hd k
  · cases hs
theorem sg_ior {mi pc : Nat} {lv : Lv} {st : List Value} {h : Hp} {nx a b t : Nat} {c : Int} {pc' : Nat} {lv' : Lv} {st' : List Value} {h' : Hp} (hck : ∀ M, minf[mi]? = some M → chkI M pc (.ior, nx, a, b, c, t) = true) (hs : astep minf (gX G) mi (.ior, nx, a, b, c, t) pc lv st h = some (.inl (pc', lv', st', h'))) : StepOK G mi pc lv st h pc' lv' st' h' := by
  simp only [astep, a_go] at hs
  split at hs
  · cases hs
    refine sok0 G fun M p l e R s m args below meth c H locs cells slots Q ls C hl hR hS h1 h2 h3 h4 k => ?_
    obtain ⟨hM, hx, hb, -⟩ := C
    obtain ⟨hd, hn⟩ := ck_dec (hck M hM)
    have hn : nx = pc + 1 := hn
    subst hn
    exact lv_ior hx hb hd k
  · cases hs
theorem sg_ineg {mi pc : Nat} {lv : Lv} {st : List Value} {h : Hp} {nx a b t : Nat} {c : Int} {pc' : Nat} {lv' : Lv} {st' : List Value} {h' : Hp} (hck : ∀ M, minf[mi]? = some M → chkI M pc (.ineg, nx, a, b, c, t) = true) (hs : astep minf (gX G) mi (.ineg, nx, a, b, c, t) pc lv st h = some (.inl (pc', lv', st', h'))) : StepOK G mi pc lv st h pc' lv' st' h' := by
  simp only [astep, a_go] at hs
  split at hs
  · cases hs
    refine sok0 G fun M p l e R s m args below meth c H locs cells slots Q ls C hl hR hS h1 h2 h3 h4 k => ?_
    obtain ⟨hM, hx, hb, -⟩ := C
    obtain ⟨hd, hn⟩ := ck_dec (hck M hM)
    have hn : nx = pc + 1 := hn
    subst hn
    exact lv_ineg hx hb hd k
  · cases hs
theorem sg_ishl {mi pc : Nat} {lv : Lv} {st : List Value} {h : Hp} {nx a b t : Nat} {c : Int} {pc' : Nat} {lv' : Lv} {st' : List Value} {h' : Hp} (hck : ∀ M, minf[mi]? = some M → chkI M pc (.ishl, nx, a, b, c, t) = true) (hs : astep minf (gX G) mi (.ishl, nx, a, b, c, t) pc lv st h = some (.inl (pc', lv', st', h'))) : StepOK G mi pc lv st h pc' lv' st' h' := by
  simp only [astep, a_go] at hs
  split at hs
  · cases hs
    refine sok0 G fun M p l e R s m args below meth c H locs cells slots Q ls C hl hR hS h1 h2 h3 h4 k => ?_
    obtain ⟨hM, hx, hb, -⟩ := C
    obtain ⟨hd, hn⟩ := ck_dec (hck M hM)
    have hn : nx = pc + 1 := hn
    subst hn
    exact lv_ishl hx hb hd k
  · cases hs
theorem sg_ishr {mi pc : Nat} {lv : Lv} {st : List Value} {h : Hp} {nx a b t : Nat} {c : Int} {pc' : Nat} {lv' : Lv} {st' : List Value} {h' : Hp} (hck : ∀ M, minf[mi]? = some M → chkI M pc (.ishr, nx, a, b, c, t) = true) (hs : astep minf (gX G) mi (.ishr, nx, a, b, c, t) pc lv st h = some (.inl (pc', lv', st', h'))) : StepOK G mi pc lv st h pc' lv' st' h' := by
  simp only [astep, a_go] at hs
  split at hs
  · cases hs
    refine sok0 G fun M p l e R s m args below meth c H locs cells slots Q ls C hl hR hS h1 h2 h3 h4 k => ?_
    obtain ⟨hM, hx, hb, -⟩ := C
    obtain ⟨hd, hn⟩ := ck_dec (hck M hM)
    have hn : nx = pc + 1 := hn
    subst hn
    exact lv_ishr hx hb hd k
  · cases hs
theorem sg_ladd {mi pc : Nat} {lv : Lv} {st : List Value} {h : Hp} {nx a b t : Nat} {c : Int} {pc' : Nat} {lv' : Lv} {st' : List Value} {h' : Hp} (hck : ∀ M, minf[mi]? = some M → chkI M pc (.ladd, nx, a, b, c, t) = true) (hs : astep minf (gX G) mi (.ladd, nx, a, b, c, t) pc lv st h = some (.inl (pc', lv', st', h'))) : StepOK G mi pc lv st h pc' lv' st' h' := by
  simp only [astep, a_go] at hs
  split at hs
  · cases hs
    refine sok0 G fun M p l e R s m args below meth c H locs cells slots Q ls C hl hR hS h1 h2 h3 h4 k => ?_
    obtain ⟨hM, hx, hb, -⟩ := C
    obtain ⟨hd, hn⟩ := ck_dec (hck M hM)
    have hn : nx = pc + 1 := hn
    subst hn
    exact lv_ladd hx hb hd k
  · cases hs
theorem sg_lsub {mi pc : Nat} {lv : Lv} {st : List Value} {h : Hp} {nx a b t : Nat} {c : Int} {pc' : Nat} {lv' : Lv} {st' : List Value} {h' : Hp} (hck : ∀ M, minf[mi]? = some M → chkI M pc (.lsub, nx, a, b, c, t) = true) (hs : astep minf (gX G) mi (.lsub, nx, a, b, c, t) pc lv st h = some (.inl (pc', lv', st', h'))) : StepOK G mi pc lv st h pc' lv' st' h' := by
  simp only [astep, a_go] at hs
  split at hs
  · cases hs
    refine sok0 G fun M p l e R s m args below meth c H locs cells slots Q ls C hl hR hS h1 h2 h3 h4 k => ?_
    obtain ⟨hM, hx, hb, -⟩ := C
    obtain ⟨hd, hn⟩ := ck_dec (hck M hM)
    have hn : nx = pc + 1 := hn
    subst hn
    exact lv_lsub hx hb hd k
  · cases hs
theorem sg_lmul {mi pc : Nat} {lv : Lv} {st : List Value} {h : Hp} {nx a b t : Nat} {c : Int} {pc' : Nat} {lv' : Lv} {st' : List Value} {h' : Hp} (hck : ∀ M, minf[mi]? = some M → chkI M pc (.lmul, nx, a, b, c, t) = true) (hs : astep minf (gX G) mi (.lmul, nx, a, b, c, t) pc lv st h = some (.inl (pc', lv', st', h'))) : StepOK G mi pc lv st h pc' lv' st' h' := by
  simp only [astep, a_go] at hs
  split at hs
  · cases hs
    refine sok0 G fun M p l e R s m args below meth c H locs cells slots Q ls C hl hR hS h1 h2 h3 h4 k => ?_
    obtain ⟨hM, hx, hb, -⟩ := C
    obtain ⟨hd, hn⟩ := ck_dec (hck M hM)
    have hn : nx = pc + 1 := hn
    subst hn
    exact lv_lmul hx hb hd k
  · cases hs
theorem sg_land {mi pc : Nat} {lv : Lv} {st : List Value} {h : Hp} {nx a b t : Nat} {c : Int} {pc' : Nat} {lv' : Lv} {st' : List Value} {h' : Hp} (hck : ∀ M, minf[mi]? = some M → chkI M pc (.land, nx, a, b, c, t) = true) (hs : astep minf (gX G) mi (.land, nx, a, b, c, t) pc lv st h = some (.inl (pc', lv', st', h'))) : StepOK G mi pc lv st h pc' lv' st' h' := by
  simp only [astep, a_go] at hs
  split at hs
  · cases hs
    refine sok0 G fun M p l e R s m args below meth c H locs cells slots Q ls C hl hR hS h1 h2 h3 h4 k => ?_
    obtain ⟨hM, hx, hb, -⟩ := C
    obtain ⟨hd, hn⟩ := ck_dec (hck M hM)
    have hn : nx = pc + 1 := hn
    subst hn
    exact lv_land hx hb hd k
  · cases hs
theorem sg_lor {mi pc : Nat} {lv : Lv} {st : List Value} {h : Hp} {nx a b t : Nat} {c : Int} {pc' : Nat} {lv' : Lv} {st' : List Value} {h' : Hp} (hck : ∀ M, minf[mi]? = some M → chkI M pc (.lor, nx, a, b, c, t) = true) (hs : astep minf (gX G) mi (.lor, nx, a, b, c, t) pc lv st h = some (.inl (pc', lv', st', h'))) : StepOK G mi pc lv st h pc' lv' st' h' := by
  simp only [astep, a_go] at hs
  split at hs
  · cases hs
    refine sok0 G fun M p l e R s m args below meth c H locs cells slots Q ls C hl hR hS h1 h2 h3 h4 k => ?_
    obtain ⟨hM, hx, hb, -⟩ := C
    obtain ⟨hd, hn⟩ := ck_dec (hck M hM)
    have hn : nx = pc + 1 := hn
    subst hn
    exact lv_lor hx hb hd k
  · cases hs
theorem sg_lneg {mi pc : Nat} {lv : Lv} {st : List Value} {h : Hp} {nx a b t : Nat} {c : Int} {pc' : Nat} {lv' : Lv} {st' : List Value} {h' : Hp} (hck : ∀ M, minf[mi]? = some M → chkI M pc (.lneg, nx, a, b, c, t) = true) (hs : astep minf (gX G) mi (.lneg, nx, a, b, c, t) pc lv st h = some (.inl (pc', lv', st', h'))) : StepOK G mi pc lv st h pc' lv' st' h' := by
  simp only [astep, a_go] at hs
  split at hs
  · cases hs
    refine sok0 G fun M p l e R s m args below meth c H locs cells slots Q ls C hl hR hS h1 h2 h3 h4 k => ?_
    obtain ⟨hM, hx, hb, -⟩ := C
    obtain ⟨hd, hn⟩ := ck_dec (hck M hM)
    have hn : nx = pc + 1 := hn
    subst hn
    exact lv_lneg hx hb hd k
  · cases hs
theorem sg_lcmp {mi pc : Nat} {lv : Lv} {st : List Value} {h : Hp} {nx a b t : Nat} {c : Int} {pc' : Nat} {lv' : Lv} {st' : List Value} {h' : Hp} (hck : ∀ M, minf[mi]? = some M → chkI M pc (.lcmp, nx, a, b, c, t) = true) (hs : astep minf (gX G) mi (.lcmp, nx, a, b, c, t) pc lv st h = some (.inl (pc', lv', st', h'))) : StepOK G mi pc lv st h pc' lv' st' h' := by
  simp only [astep, a_go] at hs
  split at hs
  · cases hs
    refine sok0 G fun M p l e R s m args below meth c H locs cells slots Q ls C hl hR hS h1 h2 h3 h4 k => ?_
    obtain ⟨hM, hx, hb, -⟩ := C
    obtain ⟨hd, hn⟩ := ck_dec (hck M hM)
    have hn : nx = pc + 1 := hn
    subst hn
    exact W.lcmp hx hb hd k
  · cases hs
theorem sg_lshl {mi pc : Nat} {lv : Lv} {st : List Value} {h : Hp} {nx a b t : Nat} {c : Int} {pc' : Nat} {lv' : Lv} {st' : List Value} {h' : Hp} (hck : ∀ M, minf[mi]? = some M → chkI M pc (.lshl, nx, a, b, c, t) = true) (hs : astep minf (gX G) mi (.lshl, nx, a, b, c, t) pc lv st h = some (.inl (pc', lv', st', h'))) : StepOK G mi pc lv st h pc' lv' st' h' := by
  simp only [astep, a_go] at hs
  split at hs
  · cases hs
    refine sok0 G fun M p l e R s m args below meth c H locs cells slots Q ls C hl hR hS h1 h2 h3 h4 k => ?_
    obtain ⟨hM, hx, hb, -⟩ := C
    obtain ⟨hd, hn⟩ := ck_dec (hck M hM)
    have hn : nx = pc + 1 := hn
    subst hn
    exact lv_lshl hx hb hd rfl k
  · cases hs
theorem sg_lshr {mi pc : Nat} {lv : Lv} {st : List Value} {h : Hp} {nx a b t : Nat} {c : Int} {pc' : Nat} {lv' : Lv} {st' : List Value} {h' : Hp} (hck : ∀ M, minf[mi]? = some M → chkI M pc (.lshr, nx, a, b, c, t) = true) (hs : astep minf (gX G) mi (.lshr, nx, a, b, c, t) pc lv st h = some (.inl (pc', lv', st', h'))) : StepOK G mi pc lv st h pc' lv' st' h' := by
  simp only [astep, a_go] at hs
  split at hs
  · cases hs
    refine sok0 G fun M p l e R s m args below meth c H locs cells slots Q ls C hl hR hS h1 h2 h3 h4 k => ?_
    obtain ⟨hM, hx, hb, -⟩ := C
    obtain ⟨hd, hn⟩ := ck_dec (hck M hM)
    have hn : nx = pc + 1 := hn
    subst hn
    exact lv_lshr hx hb hd rfl k
  · cases hs
theorem sg_lushr {mi pc : Nat} {lv : Lv} {st : List Value} {h : Hp} {nx a b t : Nat} {c : Int} {pc' : Nat} {lv' : Lv} {st' : List Value} {h' : Hp} (hck : ∀ M, minf[mi]? = some M → chkI M pc (.lushr, nx, a, b, c, t) = true) (hs : astep minf (gX G) mi (.lushr, nx, a, b, c, t) pc lv st h = some (.inl (pc', lv', st', h'))) : StepOK G mi pc lv st h pc' lv' st' h' := by
  simp only [astep, a_go] at hs
  split at hs
  · cases hs
    refine sok0 G fun M p l e R s m args below meth c H locs cells slots Q ls C hl hR hS h1 h2 h3 h4 k => ?_
    obtain ⟨hM, hx, hb, -⟩ := C
    obtain ⟨hd, hn⟩ := ck_dec (hck M hM)
    have hn : nx = pc + 1 := hn
    subst hn
    exact lv_lushr hx hb hd rfl k
  · cases hs
theorem sg_i2l {mi pc : Nat} {lv : Lv} {st : List Value} {h : Hp} {nx a b t : Nat} {c : Int} {pc' : Nat} {lv' : Lv} {st' : List Value} {h' : Hp} (hck : ∀ M, minf[mi]? = some M → chkI M pc (.i2l, nx, a, b, c, t) = true) (hs : astep minf (gX G) mi (.i2l, nx, a, b, c, t) pc lv st h = some (.inl (pc', lv', st', h'))) : StepOK G mi pc lv st h pc' lv' st' h' := by
  simp only [astep, a_go] at hs
  split at hs
  · cases hs
    refine sok0 G fun M p l e R s m args below meth c H locs cells slots Q ls C hl hR hS h1 h2 h3 h4 k => ?_
    obtain ⟨hM, hx, hb, -⟩ := C
    obtain ⟨hd, hn⟩ := ck_dec (hck M hM)
    have hn : nx = pc + 1 := hn
    subst hn
    exact lv_i2l hx hb hd rfl k
  · cases hs
theorem sg_l2i {mi pc : Nat} {lv : Lv} {st : List Value} {h : Hp} {nx a b t : Nat} {c : Int} {pc' : Nat} {lv' : Lv} {st' : List Value} {h' : Hp} (hck : ∀ M, minf[mi]? = some M → chkI M pc (.l2i, nx, a, b, c, t) = true) (hs : astep minf (gX G) mi (.l2i, nx, a, b, c, t) pc lv st h = some (.inl (pc', lv', st', h'))) : StepOK G mi pc lv st h pc' lv' st' h' := by
  simp only [astep, a_go] at hs
  split at hs
  · cases hs
    refine sok0 G fun M p l e R s m args below meth c H locs cells slots Q ls C hl hR hS h1 h2 h3 h4 k => ?_
    obtain ⟨hM, hx, hb, -⟩ := C
    obtain ⟨hd, hn⟩ := ck_dec (hck M hM)
    have hn : nx = pc + 1 := hn
    subst hn
    exact lv_l2i hx hb hd rfl k
  · cases hs
theorem sg_i2b {mi pc : Nat} {lv : Lv} {st : List Value} {h : Hp} {nx a b t : Nat} {c : Int} {pc' : Nat} {lv' : Lv} {st' : List Value} {h' : Hp} (hck : ∀ M, minf[mi]? = some M → chkI M pc (.i2b, nx, a, b, c, t) = true) (hs : astep minf (gX G) mi (.i2b, nx, a, b, c, t) pc lv st h = some (.inl (pc', lv', st', h'))) : StepOK G mi pc lv st h pc' lv' st' h' := by
  simp only [astep, a_go] at hs
  split at hs
  · cases hs
    refine sok0 G fun M p l e R s m args below meth c H locs cells slots Q ls C hl hR hS h1 h2 h3 h4 k => ?_
    obtain ⟨hM, hx, hb, -⟩ := C
    obtain ⟨hd, hn⟩ := ck_dec (hck M hM)
    have hn : nx = pc + 1 := hn
    subst hn
    exact lv_i2b hx hb hd rfl k
  · cases hs
theorem sg_i2s {mi pc : Nat} {lv : Lv} {st : List Value} {h : Hp} {nx a b t : Nat} {c : Int} {pc' : Nat} {lv' : Lv} {st' : List Value} {h' : Hp} (hck : ∀ M, minf[mi]? = some M → chkI M pc (.i2s, nx, a, b, c, t) = true) (hs : astep minf (gX G) mi (.i2s, nx, a, b, c, t) pc lv st h = some (.inl (pc', lv', st', h'))) : StepOK G mi pc lv st h pc' lv' st' h' := by
  simp only [astep, a_go] at hs
  split at hs
  · cases hs
    refine sok0 G fun M p l e R s m args below meth c H locs cells slots Q ls C hl hR hS h1 h2 h3 h4 k => ?_
    obtain ⟨hM, hx, hb, -⟩ := C
    obtain ⟨hd, hn⟩ := ck_dec (hck M hM)
    have hn : nx = pc + 1 := hn
    subst hn
    exact lv_i2s hx hb hd rfl k
  · cases hs
theorem sg_i2c {mi pc : Nat} {lv : Lv} {st : List Value} {h : Hp} {nx a b t : Nat} {c : Int} {pc' : Nat} {lv' : Lv} {st' : List Value} {h' : Hp} (hck : ∀ M, minf[mi]? = some M → chkI M pc (.i2c, nx, a, b, c, t) = true) (hs : astep minf (gX G) mi (.i2c, nx, a, b, c, t) pc lv st h = some (.inl (pc', lv', st', h'))) : StepOK G mi pc lv st h pc' lv' st' h' := by
  simp only [astep, a_go] at hs
  split at hs
  · cases hs
    refine sok0 G fun M p l e R s m args below meth c H locs cells slots Q ls C hl hR hS h1 h2 h3 h4 k => ?_
    obtain ⟨hM, hx, hb, -⟩ := C
    obtain ⟨hd, hn⟩ := ck_dec (hck M hM)
    have hn : nx = pc + 1 := hn
    subst hn
    exact lv_i2c hx hb hd rfl k
  · cases hs
theorem sg_idiv {mi pc : Nat} {lv : Lv} {st : List Value} {h : Hp} {nx a b t : Nat} {c : Int} {pc' : Nat} {lv' : Lv} {st' : List Value} {h' : Hp} (hck : ∀ M, minf[mi]? = some M → chkI M pc (.idiv, nx, a, b, c, t) = true) (hs : astep minf (gX G) mi (.idiv, nx, a, b, c, t) pc lv st h = some (.inl (pc', lv', st', h'))) : StepOK G mi pc lv st h pc' lv' st' h' := by
  simp only [astep, a_go] at hs
  split at hs
  · split at hs
    · cases hs
    · next hne =>
      cases hs
      refine sok0 G fun M p l e R s m args below meth c H locs cells slots Q ls C hl hR hS h1 h2 h3 h4 k => ?_
      obtain ⟨hM, hx, hb, -⟩ := C
      obtain ⟨hd, hn⟩ := ck_dec (hck M hM)
      have hn : nx = pc + 1 := hn
      subst hn
      exact lv_idiv hx hb hd hne k
  · cases hs
theorem sg_irem {mi pc : Nat} {lv : Lv} {st : List Value} {h : Hp} {nx a b t : Nat} {c : Int} {pc' : Nat} {lv' : Lv} {st' : List Value} {h' : Hp} (hck : ∀ M, minf[mi]? = some M → chkI M pc (.irem, nx, a, b, c, t) = true) (hs : astep minf (gX G) mi (.irem, nx, a, b, c, t) pc lv st h = some (.inl (pc', lv', st', h'))) : StepOK G mi pc lv st h pc' lv' st' h' := by
  simp only [astep, a_go] at hs
  split at hs
  · split at hs
    · cases hs
    · next hne =>
      cases hs
      refine sok0 G fun M p l e R s m args below meth c H locs cells slots Q ls C hl hR hS h1 h2 h3 h4 k => ?_
      obtain ⟨hM, hx, hb, -⟩ := C
      obtain ⟨hd, hn⟩ := ck_dec (hck M hM)
      have hn : nx = pc + 1 := hn
      subst hn
      exact lv_irem hx hb hd hne k
  · cases hs
theorem sg_ldiv {mi pc : Nat} {lv : Lv} {st : List Value} {h : Hp} {nx a b t : Nat} {c : Int} {pc' : Nat} {lv' : Lv} {st' : List Value} {h' : Hp} (hck : ∀ M, minf[mi]? = some M → chkI M pc (.ldiv, nx, a, b, c, t) = true) (hs : astep minf (gX G) mi (.ldiv, nx, a, b, c, t) pc lv st h = some (.inl (pc', lv', st', h'))) : StepOK G mi pc lv st h pc' lv' st' h' := by
  simp only [astep, a_go] at hs
  split at hs
  · split at hs
    · cases hs
    · next hne =>
      cases hs
      refine sok0 G fun M p l e R s m args below meth c H locs cells slots Q ls C hl hR hS h1 h2 h3 h4 k => ?_
      obtain ⟨hM, hx, hb, -⟩ := C
      obtain ⟨hd, hn⟩ := ck_dec (hck M hM)
      have hn : nx = pc + 1 := hn
      subst hn
      exact lv_ldiv hx hb hd hne k
  · cases hs
theorem sg_lrem {mi pc : Nat} {lv : Lv} {st : List Value} {h : Hp} {nx a b t : Nat} {c : Int} {pc' : Nat} {lv' : Lv} {st' : List Value} {h' : Hp} (hck : ∀ M, minf[mi]? = some M → chkI M pc (.lrem, nx, a, b, c, t) = true) (hs : astep minf (gX G) mi (.lrem, nx, a, b, c, t) pc lv st h = some (.inl (pc', lv', st', h'))) : StepOK G mi pc lv st h pc' lv' st' h' := by
  simp only [astep, a_go] at hs
  split at hs
  · split at hs
    · cases hs
    · next hne =>
      cases hs
      refine sok0 G fun M p l e R s m args below meth c H locs cells slots Q ls C hl hR hS h1 h2 h3 h4 k => ?_
      obtain ⟨hM, hx, hb, -⟩ := C
      obtain ⟨hd, hn⟩ := ck_dec (hck M hM)
      have hn : nx = pc + 1 := hn
      subst hn
      exact lv_lrem hx hb hd hne k
  · cases hs
theorem sg_iconst {mi pc : Nat} {lv : Lv} {st : List Value} {h : Hp} {nx a b t : Nat} {c : Int} {pc' : Nat} {lv' : Lv} {st' : List Value} {h' : Hp} {n : Int} (hck : ∀ M, minf[mi]? = some M → chkI M pc (.iconst n, nx, a, b, c, t) = true) (hs : astep minf (gX G) mi (.iconst n, nx, a, b, c, t) pc lv st h = some (.inl (pc', lv', st', h'))) : StepOK G mi pc lv st h pc' lv' st' h' := by
  simp only [astep, a_go] at hs
  cases hs
  refine sok0 G fun M p l e R s m args below meth c H locs cells slots Q ls C hl hR hS h1 h2 h3 h4 k => ?_
  obtain ⟨hM, hx, hb, -⟩ := C
  obtain ⟨hd, hn⟩ := ck_dec (hck M hM)
  have hn : nx = pc + 1 := hn
  subst hn
  exact lv_iconst hx hb hd rfl k
theorem sg_bipush {mi pc : Nat} {lv : Lv} {st : List Value} {h : Hp} {nx a b t : Nat} {c : Int} {pc' : Nat} {lv' : Lv} {st' : List Value} {h' : Hp} {n : Int} (hck : ∀ M, minf[mi]? = some M → chkI M pc (.bipush n, nx, a, b, c, t) = true) (hs : astep minf (gX G) mi (.bipush n, nx, a, b, c, t) pc lv st h = some (.inl (pc', lv', st', h'))) : StepOK G mi pc lv st h pc' lv' st' h' := by
  simp only [astep, a_go] at hs
  cases hs
  refine sok0 G fun M p l e R s m args below meth c H locs cells slots Q ls C hl hR hS h1 h2 h3 h4 k => ?_
  obtain ⟨hM, hx, hb, -⟩ := C
  obtain ⟨hd, hn⟩ := ck_dec (hck M hM)
  have hn : nx = pc + 2 := hn
  subst hn
  exact lv_bipush hx hb hd rfl k
theorem sg_sipush {mi pc : Nat} {lv : Lv} {st : List Value} {h : Hp} {nx a b t : Nat} {c : Int} {pc' : Nat} {lv' : Lv} {st' : List Value} {h' : Hp} {n : Int} (hck : ∀ M, minf[mi]? = some M → chkI M pc (.sipush n, nx, a, b, c, t) = true) (hs : astep minf (gX G) mi (.sipush n, nx, a, b, c, t) pc lv st h = some (.inl (pc', lv', st', h'))) : StepOK G mi pc lv st h pc' lv' st' h' := by
  simp only [astep, a_go] at hs
  cases hs
  refine sok0 G fun M p l e R s m args below meth c H locs cells slots Q ls C hl hR hS h1 h2 h3 h4 k => ?_
  obtain ⟨hM, hx, hb, -⟩ := C
  obtain ⟨hd, hn⟩ := ck_dec (hck M hM)
  have hn : nx = pc + 3 := hn
  subst hn
  exact lv_sipush hx hb hd rfl k
theorem sg_lconst {mi pc : Nat} {lv : Lv} {st : List Value} {h : Hp} {nx a b t : Nat} {c : Int} {pc' : Nat} {lv' : Lv} {st' : List Value} {h' : Hp} {n : Fin 2} (hck : ∀ M, minf[mi]? = some M → chkI M pc (.lconst n, nx, a, b, c, t) = true) (hs : astep minf (gX G) mi (.lconst n, nx, a, b, c, t) pc lv st h = some (.inl (pc', lv', st', h'))) : StepOK G mi pc lv st h pc' lv' st' h' := by
  simp only [astep, a_go] at hs
  cases hs
  refine sok0 G fun M p l e R s m args below meth c H locs cells slots Q ls C hl hR hS h1 h2 h3 h4 k => ?_
  obtain ⟨hM, hx, hb, -⟩ := C
  obtain ⟨hd, hn⟩ := ck_dec (hck M hM)
  have hn : nx = pc + 1 := hn
  subst hn
  exact lv_lconst hx hb hd rfl k
theorem sg_iload_n {mi pc : Nat} {lv : Lv} {st : List Value} {h : Hp} {nx a b t : Nat} {c : Int} {pc' : Nat} {lv' : Lv} {st' : List Value} {h' : Hp} {k : Fin 4} (hck : ∀ M, minf[mi]? = some M → chkI M pc (.iload_n k, nx, a, b, c, t) = true) (hs : astep minf (gX G) mi (.iload_n k, nx, a, b, c, t) pc lv st h = some (.inl (pc', lv', st', h'))) : StepOK G mi pc lv st h pc' lv' st' h' := by
  simp only [astep, a_go] at hs
  split at hs
  · next hg =>
    cases hs
    refine sok0 G fun M p l e R s m args below meth c H locs cells slots Q ls C hl hR hS h1 h2 h3 h4 k => ?_
    obtain ⟨hM, hx, hb, -⟩ := C
    obtain ⟨hd, hn⟩ := ck_dec (hck M hM)
    have hn : nx = pc + 1 := hn
    subst hn
    exact lv_iload_n hx hb hd rfl (hl.get G hg) k
  · cases hs
theorem sg_iload {mi pc : Nat} {lv : Lv} {st : List Value} {h : Hp} {nx a b t : Nat} {c : Int} {pc' : Nat} {lv' : Lv} {st' : List Value} {h' : Hp} {k : Nat} (hck : ∀ M, minf[mi]? = some M → chkI M pc (.iload k, nx, a, b, c, t) = true) (hs : astep minf (gX G) mi (.iload k, nx, a, b, c, t) pc lv st h = some (.inl (pc', lv', st', h'))) : StepOK G mi pc lv st h pc' lv' st' h' := by
  simp only [astep, a_go] at hs
  split at hs
  · next hg =>
    cases hs
    refine sok0 G fun M p l e R s m args below meth c H locs cells slots Q ls C hl hR hS h1 h2 h3 h4 k => ?_
    obtain ⟨hM, hx, hb, -⟩ := C
    obtain ⟨hd, hn⟩ := ck_dec (hck M hM)
    have hn : nx = pc + 2 := hn
    subst hn
    exact lv_iload hx hb hd (hl.get G hg) k
  · cases hs
theorem sg_lload_n {mi pc : Nat} {lv : Lv} {st : List Value} {h : Hp} {nx a b t : Nat} {c : Int} {pc' : Nat} {lv' : Lv} {st' : List Value} {h' : Hp} {k : Fin 4} (hck : ∀ M, minf[mi]? = some M → chkI M pc (.lload_n k, nx, a, b, c, t) = true) (hs : astep minf (gX G) mi (.lload_n k, nx, a, b, c, t) pc lv st h = some (.inl (pc', lv', st', h'))) : StepOK G mi pc lv st h pc' lv' st' h' := by
  simp only [astep, a_go] at hs
  split at hs
  · next hg =>
    cases hs
    refine sok0 G fun M p l e R s m args below meth c H locs cells slots Q ls C hl hR hS h1 h2 h3 h4 k => ?_
    obtain ⟨hM, hx, hb, -⟩ := C
    obtain ⟨hd, hn⟩ := ck_dec (hck M hM)
    have hn : nx = pc + 1 := hn
    subst hn
    exact lv_lload_n hx hb hd rfl (hl.get G hg) k
  · cases hs
theorem sg_lload {mi pc : Nat} {lv : Lv} {st : List Value} {h : Hp} {nx a b t : Nat} {c : Int} {pc' : Nat} {lv' : Lv} {st' : List Value} {h' : Hp} {k : Nat} (hck : ∀ M, minf[mi]? = some M → chkI M pc (.lload k, nx, a, b, c, t) = true) (hs : astep minf (gX G) mi (.lload k, nx, a, b, c, t) pc lv st h = some (.inl (pc', lv', st', h'))) : StepOK G mi pc lv st h pc' lv' st' h' := by
  simp only [astep, a_go] at hs
  split at hs
  · next hg =>
    cases hs
    refine sok0 G fun M p l e R s m args below meth c H locs cells slots Q ls C hl hR hS h1 h2 h3 h4 k => ?_
    obtain ⟨hM, hx, hb, -⟩ := C
    obtain ⟨hd, hn⟩ := ck_dec (hck M hM)
    have hn : nx = pc + 2 := hn
    subst hn
    exact lv_lload hx hb hd (hl.get G hg) k
  · cases hs
theorem sg_aload_n {mi pc : Nat} {lv : Lv} {st : List Value} {h : Hp} {nx a b t : Nat} {c : Int} {pc' : Nat} {lv' : Lv} {st' : List Value} {h' : Hp} {k : Fin 4} (hck : ∀ M, minf[mi]? = some M → chkI M pc (.aload_n k, nx, a, b, c, t) = true) (hs : astep minf (gX G) mi (.aload_n k, nx, a, b, c, t) pc lv st h = some (.inl (pc', lv', st', h'))) : StepOK G mi pc lv st h pc' lv' st' h' := by
  simp only [astep, a_go] at hs
  split at hs
  · next hg =>
    cases hs
    refine sok0 G fun M p l e R s m args below meth c H locs cells slots Q ls C hl hR hS h1 h2 h3 h4 k => ?_
    obtain ⟨hM, hx, hb, -⟩ := C
    obtain ⟨hd, hn⟩ := ck_dec (hck M hM)
    have hn : nx = pc + 1 := hn
    subst hn
    have hg := hl.get G hg
    rw [cv_ref G] at hg
    rw [List.map_cons, cv_ref G] at k
    exact lv_aload_n hx hb hd rfl hg k
  · cases hs
theorem sg_aload {mi pc : Nat} {lv : Lv} {st : List Value} {h : Hp} {nx a b t : Nat} {c : Int} {pc' : Nat} {lv' : Lv} {st' : List Value} {h' : Hp} {k : Nat} (hck : ∀ M, minf[mi]? = some M → chkI M pc (.aload k, nx, a, b, c, t) = true) (hs : astep minf (gX G) mi (.aload k, nx, a, b, c, t) pc lv st h = some (.inl (pc', lv', st', h'))) : StepOK G mi pc lv st h pc' lv' st' h' := by
  simp only [astep, a_go] at hs
  split at hs
  · next hg =>
    cases hs
    refine sok0 G fun M p l e R s m args below meth c H locs cells slots Q ls C hl hR hS h1 h2 h3 h4 k => ?_
    obtain ⟨hM, hx, hb, -⟩ := C
    obtain ⟨hd, hn⟩ := ck_dec (hck M hM)
    have hn : nx = pc + 2 := hn
    subst hn
    have hg := hl.get G hg
    rw [cv_ref G] at hg
    rw [List.map_cons, cv_ref G] at k
    exact lv_aload hx hb hd hg k
  · cases hs
theorem sg_istore_n {mi pc : Nat} {lv : Lv} {st : List Value} {h : Hp} {nx a b t : Nat} {c : Int} {pc' : Nat} {lv' : Lv} {st' : List Value} {h' : Hp} {k : Fin 4} (hck : ∀ M, minf[mi]? = some M → chkI M pc (.istore_n k, nx, a, b, c, t) = true) (hs : astep minf (gX G) mi (.istore_n k, nx, a, b, c, t) pc lv st h = some (.inl (pc', lv', st', h'))) : StepOK G mi pc lv st h pc' lv' st' h' := by
  simp only [astep, a_go] at hs
  split at hs
  · split at hs
    · next hlt =>
      cases hs
      refine ⟨lset1_len _ _ _, Nat.le_refl _, Nat.le_refl _, fun M p l e R s m args below meth c H locs cells slots Q ls C hn hl hR hS h1 h2 h3 h4 hcs kk => ?_⟩
      simp only [Nat.sub_self, Nat.add_zero] at h3 h4 kk
      obtain ⟨hM, hx, hb, -⟩ := C
      obtain ⟨hd, hn⟩ := ck_dec (hck M hM)
      have hn : nx = pc + 1 := hn
      subst hn
      exact lv_istore_n hx hb hd rfl hl hlt rfl (fun ls' hl' => kk H locs ls' (lset1_ok G hl') hR hS)
    · cases hs
  · cases hs
theorem sg_istore {mi pc : Nat} {lv : Lv} {st : List Value} {h : Hp} {nx a b t : Nat} {c : Int} {pc' : Nat} {lv' : Lv} {st' : List Value} {h' : Hp} {k : Nat} (hck : ∀ M, minf[mi]? = some M → chkI M pc (.istore k, nx, a, b, c, t) = true) (hs : astep minf (gX G) mi (.istore k, nx, a, b, c, t) pc lv st h = some (.inl (pc', lv', st', h'))) : StepOK G mi pc lv st h pc' lv' st' h' := by
  simp only [astep, a_go] at hs
  split at hs
  · split at hs
    · next hlt =>
      cases hs
      refine ⟨lset1_len _ _ _, Nat.le_refl _, Nat.le_refl _, fun M p l e R s m args below meth c H locs cells slots Q ls C hn hl hR hS h1 h2 h3 h4 hcs kk => ?_⟩
      simp only [Nat.sub_self, Nat.add_zero] at h3 h4 kk
      obtain ⟨hM, hx, hb, -⟩ := C
      obtain ⟨hd, hn⟩ := ck_dec (hck M hM)
      have hn : nx = pc + 2 := hn
      subst hn
      exact lv_istore hx hb hd hl hlt rfl (fun ls' hl' => kk H locs ls' (lset1_ok G hl') hR hS)
    · cases hs
  · cases hs
theorem sg_lstore_n {mi pc : Nat} {lv : Lv} {st : List Value} {h : Hp} {nx a b t : Nat} {c : Int} {pc' : Nat} {lv' : Lv} {st' : List Value} {h' : Hp} {k : Fin 4} (hck : ∀ M, minf[mi]? = some M → chkI M pc (.lstore_n k, nx, a, b, c, t) = true) (hs : astep minf (gX G) mi (.lstore_n k, nx, a, b, c, t) pc lv st h = some (.inl (pc', lv', st', h'))) : StepOK G mi pc lv st h pc' lv' st' h' := by
  simp only [astep, a_go] at hs
  split at hs
  · split at hs
    · next hlt =>
      cases hs
      refine ⟨lset2_len _ _ _, Nat.le_refl _, Nat.le_refl _, fun M p l e R s m args below meth c H locs cells slots Q ls C hn hl hR hS h1 h2 h3 h4 hcs kk => ?_⟩
      simp only [Nat.sub_self, Nat.add_zero] at h3 h4 kk
      obtain ⟨hM, hx, hb, -⟩ := C
      obtain ⟨hd, hn⟩ := ck_dec (hck M hM)
      have hn : nx = pc + 1 := hn
      subst hn
      exact lv_lstore_n hx hb hd rfl hl hlt rfl (fun ls' hl' => kk H locs ls' (lset2_ok G hl') hR hS)
    · cases hs
  · cases hs
theorem sg_lstore {mi pc : Nat} {lv : Lv} {st : List Value} {h : Hp} {nx a b t : Nat} {c : Int} {pc' : Nat} {lv' : Lv} {st' : List Value} {h' : Hp} {k : Nat} (hck : ∀ M, minf[mi]? = some M → chkI M pc (.lstore k, nx, a, b, c, t) = true) (hs : astep minf (gX G) mi (.lstore k, nx, a, b, c, t) pc lv st h = some (.inl (pc', lv', st', h'))) : StepOK G mi pc lv st h pc' lv' st' h' := by
  simp only [astep, a_go] at hs
  split at hs
  · split at hs
    · next hlt =>
      cases hs
      refine ⟨lset2_len _ _ _, Nat.le_refl _, Nat.le_refl _, fun M p l e R s m args below meth c H locs cells slots Q ls C hn hl hR hS h1 h2 h3 h4 hcs kk => ?_⟩
      simp only [Nat.sub_self, Nat.add_zero] at h3 h4 kk
      obtain ⟨hM, hx, hb, -⟩ := C
      obtain ⟨hd, hn⟩ := ck_dec (hck M hM)
      have hn : nx = pc + 2 := hn
      subst hn
      exact lv_lstore hx hb hd hl hlt rfl (fun ls' hl' => kk H locs ls' (lset2_ok G hl') hR hS)
    · cases hs
  · cases hs
theorem sg_astore_n {mi pc : Nat} {lv : Lv} {st : List Value} {h : Hp} {nx a b t : Nat} {c : Int} {pc' : Nat} {lv' : Lv} {st' : List Value} {h' : Hp} {k : Fin 4} (hck : ∀ M, minf[mi]? = some M → chkI M pc (.astore_n k, nx, a, b, c, t) = true) (hs : astep minf (gX G) mi (.astore_n k, nx, a, b, c, t) pc lv st h = some (.inl (pc', lv', st', h'))) : StepOK G mi pc lv st h pc' lv' st' h' := by
  simp only [astep, a_go] at hs
  split at hs
  · split at hs
    · next hlt =>
      cases hs
      refine ⟨lset1_len _ _ _, Nat.le_refl _, Nat.le_refl _, fun M p l e R s m args below meth c H locs cells slots Q ls C hn hl hR hS h1 h2 h3 h4 hcs kk => ?_⟩
      simp only [Nat.sub_self, Nat.add_zero] at h3 h4 kk
      obtain ⟨hM, hx, hb, -⟩ := C
      obtain ⟨hd, hn⟩ := ck_dec (hck M hM)
      have hn : nx = pc + 1 := hn
      subst hn
      rw [List.map_cons, cv_ref G]
      exact lv_astore_n hx hb hd rfl hl hlt rfl (fun ls' hl' => kk H locs ls' (lset1_ok G (by rw [cv_ref G]; exact hl')) hR hS)
    · cases hs
  · cases hs
theorem sg_astore {mi pc : Nat} {lv : Lv} {st : List Value} {h : Hp} {nx a b t : Nat} {c : Int} {pc' : Nat} {lv' : Lv} {st' : List Value} {h' : Hp} {k : Nat} (hck : ∀ M, minf[mi]? = some M → chkI M pc (.astore k, nx, a, b, c, t) = true) (hs : astep minf (gX G) mi (.astore k, nx, a, b, c, t) pc lv st h = some (.inl (pc', lv', st', h'))) : StepOK G mi pc lv st h pc' lv' st' h' := by
  simp only [astep, a_go] at hs
  split at hs
  · split at hs
    · next hlt =>
      cases hs
      refine ⟨lset1_len _ _ _, Nat.le_refl _, Nat.le_refl _, fun M p l e R s m args below meth c H locs cells slots Q ls C hn hl hR hS h1 h2 h3 h4 hcs kk => ?_⟩
      simp only [Nat.sub_self, Nat.add_zero] at h3 h4 kk
      obtain ⟨hM, hx, hb, -⟩ := C
      obtain ⟨hd, hn⟩ := ck_dec (hck M hM)
      have hn : nx = pc + 2 := hn
      subst hn
      rw [List.map_cons, cv_ref G]
      exact lv_astore hx hb hd hl hlt rfl (fun ls' hl' => kk H locs ls' (lset1_ok G (by rw [cv_ref G]; exact hl')) hR hS)
    · cases hs
  · cases hs
end SND2
