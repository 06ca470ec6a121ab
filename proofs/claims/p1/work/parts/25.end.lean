/-! THE END: the machine stands at the law's entry as the abstract machine's start has it -/
noncomputable def lw_At' (p : Program) (s : State) (m : MethodId) (meth : Method) (c : Code) (b L : Nat) (xs : Nat → Int32) : Prop :=
  p.tables.exec = Jvm.exec ∧ c.code = code ∧ meth.sig.returnType = ret ∧ c.maxLocals = 4 ∧ s.vm.findClass "PulledToAHairLaw" = some m.cls ∧ (∀ w ∈ lw_tbl, w.before #[Value.ref b] s = true) ∧ va_X b L xs s s.heap ∧ b < s.heap.size ∧ meth.locks = false ∧ (Jvm.Cond.and given_1 narrow_1).before #[Value.ref b] s = true
theorem en_nest : ∀ w ∈ nestW, w ∈ lw_tbl := by decide +kernel
theorem en_nestT : ∀ w ∈ nestW, w.onTables = true := by decide +kernel
theorem en_nestF : nestF ∈ lw_tbl := by decide +kernel
theorem en_str : ∀ z ∈ strL, Cond.stringRef z.1 z.2.1 z.2.2.2 ∈ lw_tbl := by decide +kernel
theorem en_l1 : Cond.laysStatic "PulledToAHair" "IS_A" "[I" ∈ lw_tbl ∧ Cond.initialized "PulledToAHair" ∈ lw_tbl := by decide +kernel
theorem en_l2 : Cond.laysStatic "java/lang/String" "COMPACT_STRINGS" "Z" ∈ lw_tbl ∧ Cond.initialized "java/lang/String" ∈ lw_tbl := by decide +kernel
theorem en_l3 : Cond.laysStatic "jdk/internal/util/Preconditions" "SIOOBE_FORMATTER" "Ljava/util/function/BiFunction;" ∈ lw_tbl ∧ Cond.initialized "jdk/internal/util/Preconditions" ∈ lw_tbl := by decide +kernel
noncomputable def enT : Nat → Term := fun i => match i with
  | 0 => .string "PulledToAHair" 89
  | 1 => .string "PulledToAHair$Reader" 102
  | _ => .string "PulledToAHair$Reader" 88
noncomputable def enL : List Nat := [84, 72, 8]
noncomputable def enB : List (List Int32) := [by1, by2, by3]
noncomputable def enF : List Cond := flatC (Jvm.Cond.and given_1 narrow_1)
theorem en_s1 : ∀ i, i < 3 → Cond.exactly (enT i) "java/lang/String" ∈ enF ∧ Cond.eq (.field (enT i) "java/lang/String" "coder" "B") (.int 0) ∈ enF ∧ Cond.arrayOf (.field (enT i) "java/lang/String" "value" "[B") .byte ∈ enF ∧ Cond.eq (.length (.field (enT i) "java/lang/String" "value" "[B")) (.int (Int32.ofNat (enL.getD i 0))) ∈ enF := by decide +kernel
theorem en_at {n a : Nat} {f : Nat → Cond} (h : ((List.range n).all fun j => decide (enF[a + j]? = some (f j))) = true) : ∀ j, j < n → f j ∈ enF := fun j hj => List.mem_of_getElem? (of_decide_eq_true (List.all_eq_true.mp h j (List.mem_range.mpr hj)))
noncomputable def enE (i j : Nat) : Cond := Cond.eq (.elem (.field (enT i) "java/lang/String" "value" "[B") (.int (Int32.ofNat j))) (.int ((enB.getD i []).getD j 0))
theorem en_20 : ((List.range 84).all fun j => decide (enF[49 + j]? = some (enE 0 j))) = true := by decide +kernel
theorem en_21 : ((List.range 72).all fun j => decide (enF[137 + j]? = some (enE 1 j))) = true := by decide +kernel
theorem en_22 : ((List.range 8).all fun j => decide (enF[214 + j]? = some (enE 2 j))) = true := by decide +kernel
theorem en_s2 : ∀ i, i < 3 → ∀ j, j < enL.getD i 0 → Cond.eq (.elem (.field (enT i) "java/lang/String" "value" "[B") (.int (Int32.ofNat j))) (.int ((enB.getD i []).getD j 0)) ∈ enF := by
  intro i hi j hj
  have : i = 0 ∨ i = 1 ∨ i = 2 := by omega
  rcases this with rfl | rfl | rfl
  · exact en_at (f := enE 0) en_20 j hj
  · exact en_at (f := enE 1) en_21 j hj
  · exact en_at (f := enE 2) en_22 j hj
theorem en_s3 : ∀ i, i < 3 → ∀ j, j < 3 → i ≠ j → Cond.not (Cond.eq (enT i) (enT j)) ∈ enF ∨ Cond.not (Cond.eq (enT j) (enT i)) ∈ enF := by decide +kernel
theorem en_a1 : Cond.arrayOf (.static "PulledToAHair" "IS_A" "[I") .int ∈ enF ∧ Cond.eq (.length (.static "PulledToAHair" "IS_A" "[I")) (.int (Int32.ofNat 6)) ∈ enF ∧ ∀ j, j < 6 → Cond.eq (.elem (.static "PulledToAHair" "IS_A" "[I") (.int (Int32.ofNat j))) (.int (isA.getD j 0)) ∈ enF := by decide +kernel
theorem en_c1 : Cond.eq (.static "java/lang/String" "COMPACT_STRINGS" "Z") (.int 1) ∈ enF ∧ Cond.isRef (.static "jdk/internal/util/Preconditions" "SIOOBE_FORMATTER" "Ljava/util/function/BiFunction;") ∈ enF := by decide +kernel
theorem tblm {w : Cond} (h : w ∈ TBLG) : w ∈ lw_tbl := (List.mem_filter.mp h).1
theorem en_cls {s : State} {args : Array Value} (hts : ∀ w ∈ lw_tbl, w.before args s = true) : ∃ ch : Nat → ClassId × (Nat → Nat), ∀ (c : Nat) (r : vw_C), vwCl[c]? = some r → u_Kn s r.1 r.2.1 r.2.2 (ch c).1 (ch c).2 := by
  have hcl : ∀ c : Nat, ∃ q : ClassId × (Nat → Nat), ∀ r : vw_C, vwCl[c]? = some r → u_Kn s r.1 r.2.1 r.2.2 q.1 q.2 := by
    intro c
    rcases Nat.lt_or_ge c 9 with hc | hc
    · have : c = 0 ∨ c = 1 ∨ c = 2 ∨ c = 3 ∨ c = 4 ∨ c = 5 ∨ c = 6 ∨ c = 7 ∨ c = 8 := by omega
      rcases this with rfl | rfl | rfl | rfl | rfl | rfl | rfl | rfl | rfl
      · obtain ⟨a, i, h⟩ := u_known hts inX0 (hts _ (tblm wd_n0)); exact ⟨(a, i), fun r hr => by cases hr; exact h⟩
      · obtain ⟨a, i, h⟩ := u_known hts inX1 (hts _ (tblm wd_n1)); exact ⟨(a, i), fun r hr => by cases hr; exact h⟩
      · obtain ⟨a, i, h⟩ := u_known hts inX2 (hts _ (tblm wd_n2)); exact ⟨(a, i), fun r hr => by cases hr; exact h⟩
      · obtain ⟨a, i, h⟩ := u_known hts inX3 (hts _ (tblm wd_n3)); exact ⟨(a, i), fun r hr => by cases hr; exact h⟩
      · obtain ⟨a, i, h⟩ := u_known hts inX4 (hts _ (tblm wd_n4)); exact ⟨(a, i), fun r hr => by cases hr; exact h⟩
      · obtain ⟨a, i, h⟩ := u_known hts inX5 (hts _ (tblm wd_n5)); exact ⟨(a, i), fun r hr => by cases hr; exact h⟩
      · obtain ⟨a, i, h⟩ := u_known hts inX6 (hts _ (tblm wd_n6)); exact ⟨(a, i), fun r hr => by cases hr; exact h⟩
      · obtain ⟨a, i, h⟩ := u_known hts inX7 (hts _ (tblm wd_n7)); exact ⟨(a, i), fun r hr => by cases hr; exact h⟩
      · obtain ⟨a, i, h⟩ := u_known hts inX8 (hts _ (tblm wd_n8)); exact ⟨(a, i), fun r hr => by cases hr; exact h⟩
    · exact ⟨(0, fun _ => 0), fun r hr => by
        rw [List.getElem?_eq_none (by exact hc)] at hr; cases hr⟩
  obtain ⟨ch, h⟩ := Classical.axiomOfChoice hcl
  exact ⟨ch, h⟩
theorem en_arr {s : State} {args : Array Value} (hts : ∀ w ∈ lw_tbl, w.before args s = true) : ∃ gc : Nat → ClassId, ∀ (k : Nat) (q : ClassId × FieldType), ([(gc 9, FieldType.int), (gc 10, .long), (gc 11, .object RX4), (gc 12, .object RX5), (gc 13, .object RX6)] : List (ClassId × FieldType))[k]? = some q → ArrOfT s q.1 q.2 ∧ va_RA s q.1 q.2 := by
  obtain ⟨c9, k9, p9, a1, a2, a3⟩ := Cond.arrayClass_spec (hts _ (tblm wd_cai))
  obtain ⟨c10, k10, p10, b1, b2, b3⟩ := Cond.arrayClass_spec (hts _ (tblm wd_cal))
  obtain ⟨p11, c11, k11, d1, d2, d3, d4, d5⟩ := Cond.arrayOver_spec (hts _ wd_o11)
  obtain ⟨p12, c12, k12, f1, f2, f3, f4, f5⟩ := Cond.arrayOver_spec (hts _ wd_o12)
  obtain ⟨p13, c13, k13, g1, g2, g3, g4, g5⟩ := Cond.arrayOver_spec (hts _ wd_o13)
  refine ⟨fun k => if k = 9 then c9 else if k = 10 then c10 else if k = 11 then c11 else if k = 12 then c12 else c13, fun k q hq => ?_⟩
  rcases Nat.lt_or_ge k 5 with hk | hk
  · have : k = 0 ∨ k = 1 ∨ k = 2 ∨ k = 3 ∨ k = 4 := by omega
    rcases this with rfl | rfl | rfl | rfl | rfl
    · cases hq; exact ⟨fun n z => ⟨fun k h => (by cases h), k9, a2, p9, a3⟩, a1⟩
    · cases hq; exact ⟨fun n z => ⟨fun k h => (by cases h), k10, b2, p10, b3⟩, b1⟩
    · cases hq; exact ⟨fun n z => ⟨fun k h => (by cases h), k11, d3, p11, d4⟩, k11, p11, d3, d4, d1, d5⟩
    · cases hq; exact ⟨fun n z => ⟨fun k h => (by cases h), k12, f3, p12, f4⟩, k12, p12, f3, f4, f1, f5⟩
    · cases hq; exact ⟨fun n z => ⟨fun k h => (by cases h), k13, g3, p13, g4⟩, k13, p13, g3, g4, g1, g5⟩
  · rw [List.getElem?_eq_none (by exact hk)] at hq; cases hq
theorem en_G {p : Program} {s : State} {m : MethodId} {meth : Method} {c : Code} {b L : Nat} {xs : Nat → Int32} (C0 : lw_At' p s m meth c b L xs) : ∃ G : GT, gX G = xs ∧ gL G = L ∧ gz G = s.heap.size ∧ gr G 14 = b ∧ va_K (gD G) vwCl (tysG G) s ∧ ROF G s := by
  obtain ⟨hx, hb, hr, hml, hown, hts, hX, hbl, hlk, hgv⟩ := C0
  have hs : ∀ w ∈ enF, w.before #[Value.ref b] s = true := flat_of_before _ hgv
  obtain ⟨ch, hch⟩ := en_cls hts
  obtain ⟨gc, hgc⟩ := en_arr hts
  have hA : ∀ a : Nat, a < s.heap.size → ¬ (fun q => s.heap.size ≤ q) a := fun a h z => by
    have z' : s.heap.size ≤ a := z
    omega
  obtain ⟨t0, ht0, hT0⟩ := va_Tof (N := 6) (f := fun j => .int (isA.getD j 0)) (by decide) (hs _ en_a1.1) (va_eqt (hs _ en_a1.2.1)) (fun j hj => va_eqt (hs _ (en_a1.2.2 j hj))) hA
  obtain ⟨adK, adV, hS, hev⟩ := vk_Sof (N := 3) (tm := enT) (len := enL) (byt := enB) (by decide) (fun i hi => hs _ (en_s1 i hi).1) (fun i hi => hs _ (en_s1 i hi).2.1) (fun i hi => hs _ (en_s1 i hi).2.2.1) (fun i hi => hs _ (en_s1 i hi).2.2.2) (fun i hi j hj => hs _ (en_s2 i hi j hj)) (fun i j hi hj hij => (en_s3 i hi j hj hij).imp (hs _) (hs _)) hA
  have hcs := va_Zof (hts _ en_l2.1) (hts _ en_l2.2) (va_eqt (hs _ en_c1.1)) hA
  have hsf : ∃ gf : Option Nat, va_Z "jdk/internal/util/Preconditions" "SIOOBE_FORMATTER" "Ljava/util/function/BiFunction;" (va_rf gf) (fun q => s.heap.size ≤ q) s s.heap := by
    rcases va_Zqof (hts _ en_l3.1) (hts _ en_l3.2) (hs _ en_c1.2) hA with h | ⟨t, h⟩
    · exact ⟨none, h⟩
    · exact ⟨some t, h⟩
  obtain ⟨gf, hgf⟩ := hsf
  have his := va_Zof (hts _ en_l1.1) (hts _ en_l1.2) ht0 hA
  refine ⟨(xs, L, (fun c => (ch c).1, fun c => (ch c).2), gc, (fun k => match k with | 0 => t0 | 1 => adK 0 | 2 => adK 1 | 3 => adK 2 | 4 => adV 0 | 5 => adV 1 | 6 => adV 2 | _ => b), gf, s.heap.size), rfl, rfl, rfl, rfl, ⟨hch, hgc⟩, ?_⟩
  refine ⟨hT0, fun i hi => ?_, ?_, his, hcs, hgf, fun z hz => ?_, fun own idx y hy => va_Nw.of (en_nestT _ hy) (hts _ (en_nest _ hy)), va_Nw.of rfl (hts _ en_nestF), fun C hC => ?_⟩
  · have : i = 0 ∨ i = 1 ∨ i = 2 := by omega
    rcases this with rfl | rfl | rfl
    · exact hS.1 0 hi
    · exact hS.1 1 hi
    · exact hS.1 2 hi
  · obtain ⟨scr, h1, h2, h3, h4, h5⟩ := hX
    exact ⟨scr, h1, h2, h3, Nat.le_of_eq h4.symm, by rw [h4] <;> rfl, h5, hA b hbl⟩
  · refine vk_R.of (hts _ (en_str z hz)) ?_
    unfold strL at hz
    simp only [List.mem_cons, List.not_mem_nil, or_false] at hz
    rcases hz with rfl | rfl | rfl
    · exact hev 0 (by decide)
    · exact hev 1 (by decide)
    · exact hev 2 (by decide)
  · rcases hC with rfl | rfl | rfl
    · exact va_AO.of (hts _ wd_o11)
    · exact va_AO.of (hts _ wd_o12)
    · exact va_AO.of (hts _ wd_o13)
theorem slt_app (a b : List (Nat × Nat)) : ((a ++ b).map (fun q => q.2)).sum = (a.map (fun q => q.2)).sum + (b.map (fun q => q.2)).sum := by
  rw [List.map_append, List.sum_append]
/-- from the law's entry to its end, out of the run of the functions -/
theorem whole_of {p : Program} {e : Env} {s : State} {m : MethodId} {below : List Frame} {meth : Method} {c : Code} (l : Launch) {b L : Nat} {xs : Nat → Int32} {R : Room} (hR1 : 111 ≤ R.frames) (hR2 : 4500 ≤ R.locals) (hR3 : 109 ≤ R.cells) (hR4 : 7000 ≤ R.slots) (C0 : lw_At' p s m meth c b L xs) {h' : Hp} (hw : w_law xs L 4000 (h00 L) = some (1, h')) (hk1 : h'.1 = KK8 L) {Q : State → Prop}
    (kk : ∀ (H' : Heap) (pc : Nat) (ls : Array Slot), decode code pc = .ok (.ireturn, 1) → W p l e R s m #[Value.ref b] below meth c H' [] 109 7000 Q (F0 m pc ls [.int 1])) :
    W p l e R s m #[Value.ref b] below meth c s.heap [] 0 0 Q (entryFrame m ([Value.ref b] : List Value).toArray 4) := by
  obtain ⟨G, g1, g2, g3, g4, hK, hF⟩ := en_G C0
  obtain ⟨hx, hb, hr, hml, hown, hts, hX, hbl, hlk, hgv⟩ := C0
  obtain ⟨n, hrun⟩ := w_law_run (X := xs) (d := 109) (by omega) hw
  have hok : KOK (h00 L) := fun a h1 h2 => by
    have : (h00 L).1.length = 16 := rfl
    omega
  rw [← g1] at hrun
  have hS := sim_ok G chk_ok n 110 0 0 _ [] (h00 L) _ h' ⟨_, rfl⟩ hok hrun
  have hl1 : h'.1.length - (h00 L).1.length = 109 := by rw [hk1]; rfl
  have hl2 : slt h' - slt (h00 L) ≤ 7000 := by
    unfold slt
    rw [hk1]
    show ((roK L ++ KTL.drop 16).map (fun q => q.2)).sum - ((roK L).map (fun q => q.2)).sum ≤ 7000
    rw [slt_app]
    have : ((KTL.drop 16).map (fun q => q.2)).sum ≤ 7000 := by decide +kernel
    omega
  have hent : lentry 4 [.ref 14] = some [some (.ref 14), none, none, none] := rfl
  obtain ⟨hlen, hl⟩ := lentry_ok G hent
  have e1 : ([Value.ref 14].map (cv G)).toArray = #[Value.ref b] := by
    show #[Value.ref (gr G 14)] = _
    rw [g4]
  rw [lg_entry_eq]
  refine hS.2.2.2 M_L_law p l e R s m _ below meth c s.heap [] 0 0 Q _ ⟨rfl, hx, hb, hml, hown, fun w hw => hts w (tblm hw), hK, hF, by omega, fun e2 => absurd e2 (by decide)⟩ hlen ?_ ⟨?_, ?_, ?_⟩ va_S.rf (by omega) (by omega) (by omega) (by omega) ?_ ?_
  · have h1 := hl
    rw [show [Value.ref 14].map (cv G) = [Value.ref b] from by show [Value.ref (gr G 14)] = _; rw [g4]] at h1
    exact h1
  · intro k q hq
    rw [show wld G (h00 L) = [] from rfl] at hq
    cases hq
  · rw [g2]; rfl
  · intro a j r z; cases z
  · show s.heap.size + 0 = gz G + 0
    omega
  · intro H' locs' ls' pcr hRl hS' hret
    obtain ⟨hd, -⟩ := hret
    refine va_forget (fun q hq => ?_) (W.widen (by omega) (by omega) (kk H' pcr ls' hd))
    have := hS'.2.2 q hq
    have h2 : gz G ≤ q.base := this
    omega
