/-! THE CHECK of the program: every row of it is what the code decodes to, and its words stand in the tables -/
noncomputable def strL : List (String × Nat × Nat × String) := [("PulledToAHair", 89, 1, tx1), ("PulledToAHair$Reader", 102, 2, tx2), ("PulledToAHair$Reader", 88, 3, tx3)]
noncomputable def nestM (own : String) (idx : Nat) (y : MethodName) : Cond := .methodLinkNest own idx y "PulledToAHair"
noncomputable def nestW : List Cond := [
  nestM "PulledToAHair" 36 ⟨"PulledToAHair$Reader", "<init>", "()V"⟩, nestM "PulledToAHair" 65 ⟨"PulledToAHair$Step", "<init>", "()V"⟩,
  nestM "PulledToAHair" 66 ⟨"PulledToAHair$Text", "<init>", "()V"⟩, nestM "PulledToAHair" 67 ⟨"PulledToAHair$Sheet", "<init>", "()V"⟩,
  nestM "PulledToAHair$Reader" 95 ⟨"PulledToAHair", "within", "(III)Z"⟩, nestM "PulledToAHair$Text" 25 ⟨"PulledToAHair", "within", "(III)Z"⟩,
  nestM "PulledToAHair$Rope" 115 ⟨"PulledToAHair", "quotient", "(JJ)J"⟩, nestM "PulledToAHair$Step" 21 ⟨"PulledToAHair", "within", "(III)Z"⟩]
noncomputable def nestF : Cond := .fieldLinkNest "PulledToAHair$Step" 25 "PulledToAHair" "IS_A" "[I" "PulledToAHair"
noncomputable def ilen (i : Ins) (d : Nat) : Nat := match i with
  | .aload _ => 2 | .iload _ => 2 | .lload _ => 2 | .astore _ => 2 | .istore _ => 2 | .lstore _ => 2
  | .bipush _ => 2 | .sipush _ => 3 | .ldc _ => 2 | .ldc_w _ => 3 | .ldc2_w _ => 3 | .iinc _ _ => 3
  | .goto _ => 3 | .ifCond _ _ => 3 | .if_icmp _ _ => 3 | .tableswitch _ _ _ _ => d | .lookupswitch _ _ => d
  | .getfield _ => 3 | .putfield _ => 3 | .getstatic _ => 3 | .newarray _ => 2 | .anewarray _ => 3 | .new _ => 3
  | .invokevirtual _ => 3 | .invokestatic _ => 3 | .invokespecial _ => 3
  | _ => 1
/-! the tables in pieces of 32 words -/
noncomputable def lwc_0 : List Cond := ((k2_sels lw_privs).drop 0).take 32
noncomputable def lwc_1 : List Cond := ((k2_sels lw_privs).drop 32).take 32
noncomputable def lwc_2 : List Cond := ((tables_1_1).drop 0).take 32
noncomputable def lwc_3 : List Cond := ((tables_1_1).drop 32).take 32
noncomputable def lwc_4 : List Cond := ((tables_1_1).drop 64).take 32
noncomputable def lwc_5 : List Cond := ((tables_1_1).drop 96).take 32
noncomputable def lwc_6 : List Cond := ((tables_1_1).drop 128).take 32
noncomputable def lwc_7 : List Cond := ((tables_1_1).drop 160).take 32
noncomputable def lwc_8 : List Cond := ((tables_1_1).drop 192).take 32
noncomputable def lwc_9 : List Cond := ((tables_1_1).drop 224).take 32
noncomputable def lwc_10 : List Cond := ((tables_1_2).drop 0).take 32
noncomputable def lwc_11 : List Cond := ((tables_1_2).drop 32).take 32
noncomputable def lwc_12 : List Cond := ((tables_1_2).drop 64).take 32
noncomputable def lwc_13 : List Cond := ((tables_1_2).drop 96).take 32
noncomputable def lwc_14 : List Cond := ((tables_1_2).drop 128).take 32
noncomputable def lwc_15 : List Cond := ((tables_1_2).drop 160).take 32
noncomputable def lwc_16 : List Cond := ((tables_1_2).drop 192).take 32
noncomputable def lwc_17 : List Cond := ((tables_1_2).drop 224).take 32
noncomputable def lwc_18 : List Cond := ((tables_1_3).drop 0).take 32
noncomputable def lwc_19 : List Cond := ((tables_1_3).drop 32).take 32
noncomputable def lwc_20 : List Cond := ((tables_1_3).drop 64).take 32
noncomputable def lwc_21 : List Cond := ((tables_1_3).drop 96).take 32
noncomputable def lwc_22 : List Cond := ((tables_1_3).drop 128).take 32
noncomputable def lwc_23 : List Cond := ((tables_1_3).drop 160).take 32
noncomputable def lwc_24 : List Cond := ((tables_1_3).drop 192).take 32
noncomputable def lwc_25 : List Cond := ((tables_1_3).drop 224).take 32
noncomputable def lwc_26 : List Cond := ((tables_1_4).drop 0).take 32
noncomputable def lwc_27 : List Cond := ((tables_1_4).drop 32).take 32
noncomputable def lwc_28 : List Cond := ((tables_1_4).drop 64).take 32
noncomputable def lwc_29 : List Cond := ((tables_1_4).drop 96).take 32
noncomputable def lwc_30 : List Cond := ((tables_1_4).drop 128).take 32
noncomputable def lwc_31 : List Cond := ((tables_1_4).drop 160).take 32
noncomputable def lwc_32 : List Cond := ((tables_1_4).drop 192).take 32
noncomputable def lwc_33 : List Cond := ((tables_1_4).drop 224).take 32
noncomputable def lwc_34 : List Cond := ((tables_1_5).drop 0).take 32
noncomputable def lwc_35 : List Cond := ((tables_1_5).drop 32).take 32
noncomputable def lwc_36 : List Cond := ((tables_1_5).drop 64).take 32
noncomputable def lwc_37 : List Cond := ((tables_1_5).drop 96).take 32
noncomputable def lwc_38 : List Cond := ((tables_1_5).drop 128).take 32
noncomputable def lwc_39 : List Cond := ((tables_1_5).drop 160).take 32
noncomputable def lwc_40 : List Cond := ((tables_1_5).drop 192).take 32
noncomputable def lwc_41 : List Cond := ((tables_1_5).drop 224).take 32
noncomputable def lwc_42 : List Cond := ((tables_1_6).drop 0).take 32
noncomputable def lwc_43 : List Cond := ((tables_1_6).drop 32).take 32
noncomputable def lwc_44 : List Cond := ((tables_1_6).drop 64).take 32
noncomputable def lwc_45 : List Cond := ((tables_1_6).drop 96).take 32
noncomputable def lwc_46 : List Cond := ((tables_1_6).drop 128).take 32
noncomputable def lwc_47 : List Cond := ((tables_1_6).drop 160).take 32
noncomputable def lwc_48 : List Cond := ((tables_1_6).drop 192).take 32
noncomputable def lwc_49 : List Cond := ((tables_1_6).drop 224).take 32
noncomputable def lwc_50 : List Cond := ((tables_1_7).drop 0).take 32
noncomputable def lwCs : List (List Cond) := [lwc_0, lwc_1, lwc_2, lwc_3, lwc_4, lwc_5, lwc_6, lwc_7, lwc_8, lwc_9, lwc_10, lwc_11, lwc_12, lwc_13, lwc_14, lwc_15, lwc_16, lwc_17, lwc_18, lwc_19, lwc_20, lwc_21, lwc_22, lwc_23, lwc_24, lwc_25, lwc_26, lwc_27, lwc_28, lwc_29, lwc_30, lwc_31, lwc_32, lwc_33, lwc_34, lwc_35, lwc_36, lwc_37, lwc_38, lwc_39, lwc_40, lwc_41, lwc_42, lwc_43, lwc_44, lwc_45, lwc_46, lwc_47, lwc_48, lwc_49, lwc_50]
theorem lwc_m {l t : List Cond} {a : Nat} (h : ∀ w ∈ t, w ∈ lw_tbl) (e : (t.drop a).take 32 = l) : ∀ w ∈ l, w ∈ lw_tbl := fun w hw => h w (List.mem_of_mem_drop (List.mem_of_mem_take (e ▸ hw)))
theorem lwS_0 : ∀ w ∈ k2_sels lw_privs, w ∈ lw_tbl := fun w hw => List.mem_append_left _ hw
theorem lwS_1 : ∀ w ∈ tables_1_1, w ∈ lw_tbl := fun w hw => List.mem_append_right _ (by unfold tables_1; exact List.mem_append_left _ hw)
theorem lwS_2 : ∀ w ∈ tables_1_2, w ∈ lw_tbl := fun w hw => List.mem_append_right _ (by unfold tables_1; exact List.mem_append_right _ (List.mem_append_left _ hw))
theorem lwS_3 : ∀ w ∈ tables_1_3, w ∈ lw_tbl := fun w hw => List.mem_append_right _ (by unfold tables_1; exact List.mem_append_right _ (List.mem_append_right _ (List.mem_append_left _ hw)))
theorem lwS_4 : ∀ w ∈ tables_1_4, w ∈ lw_tbl := fun w hw => List.mem_append_right _ (by unfold tables_1; exact List.mem_append_right _ (List.mem_append_right _ (List.mem_append_right _ (List.mem_append_left _ hw))))
theorem lwS_5 : ∀ w ∈ tables_1_5, w ∈ lw_tbl := fun w hw => List.mem_append_right _ (by unfold tables_1; exact List.mem_append_right _ (List.mem_append_right _ (List.mem_append_right _ (List.mem_append_right _ (List.mem_append_left _ hw)))))
theorem lwS_6 : ∀ w ∈ tables_1_6, w ∈ lw_tbl := fun w hw => List.mem_append_right _ (by unfold tables_1; exact List.mem_append_right _ (List.mem_append_right _ (List.mem_append_right _ (List.mem_append_right _ (List.mem_append_right _ (List.mem_append_left _ hw))))))
theorem lwS_7 : ∀ w ∈ tables_1_7, w ∈ lw_tbl := fun w hw => List.mem_append_right _ (by unfold tables_1; exact List.mem_append_right _ (List.mem_append_right _ (List.mem_append_right _ (List.mem_append_right _ (List.mem_append_right _ (List.mem_append_right _ (hw)))))))
theorem lwCs_ok : ∀ l ∈ lwCs, ∀ w ∈ l, w ∈ lw_tbl := List.forall_mem_cons.mpr ⟨lwc_m lwS_0 rfl, (List.forall_mem_cons.mpr ⟨lwc_m lwS_0 rfl, (List.forall_mem_cons.mpr ⟨lwc_m lwS_1 rfl, (List.forall_mem_cons.mpr ⟨lwc_m lwS_1 rfl, (List.forall_mem_cons.mpr ⟨lwc_m lwS_1 rfl, (List.forall_mem_cons.mpr ⟨lwc_m lwS_1 rfl, (List.forall_mem_cons.mpr ⟨lwc_m lwS_1 rfl, (List.forall_mem_cons.mpr ⟨lwc_m lwS_1 rfl, (List.forall_mem_cons.mpr ⟨lwc_m lwS_1 rfl, (List.forall_mem_cons.mpr ⟨lwc_m lwS_1 rfl, (List.forall_mem_cons.mpr ⟨lwc_m lwS_2 rfl, (List.forall_mem_cons.mpr ⟨lwc_m lwS_2 rfl, (List.forall_mem_cons.mpr ⟨lwc_m lwS_2 rfl, (List.forall_mem_cons.mpr ⟨lwc_m lwS_2 rfl, (List.forall_mem_cons.mpr ⟨lwc_m lwS_2 rfl, (List.forall_mem_cons.mpr ⟨lwc_m lwS_2 rfl, (List.forall_mem_cons.mpr ⟨lwc_m lwS_2 rfl, (List.forall_mem_cons.mpr ⟨lwc_m lwS_2 rfl, (List.forall_mem_cons.mpr ⟨lwc_m lwS_3 rfl, (List.forall_mem_cons.mpr ⟨lwc_m lwS_3 rfl, (List.forall_mem_cons.mpr ⟨lwc_m lwS_3 rfl, (List.forall_mem_cons.mpr ⟨lwc_m lwS_3 rfl, (List.forall_mem_cons.mpr ⟨lwc_m lwS_3 rfl, (List.forall_mem_cons.mpr ⟨lwc_m lwS_3 rfl, (List.forall_mem_cons.mpr ⟨lwc_m lwS_3 rfl, (List.forall_mem_cons.mpr ⟨lwc_m lwS_3 rfl, (List.forall_mem_cons.mpr ⟨lwc_m lwS_4 rfl, (List.forall_mem_cons.mpr ⟨lwc_m lwS_4 rfl, (List.forall_mem_cons.mpr ⟨lwc_m lwS_4 rfl, (List.forall_mem_cons.mpr ⟨lwc_m lwS_4 rfl, (List.forall_mem_cons.mpr ⟨lwc_m lwS_4 rfl, (List.forall_mem_cons.mpr ⟨lwc_m lwS_4 rfl, (List.forall_mem_cons.mpr ⟨lwc_m lwS_4 rfl, (List.forall_mem_cons.mpr ⟨lwc_m lwS_4 rfl, (List.forall_mem_cons.mpr ⟨lwc_m lwS_5 rfl, (List.forall_mem_cons.mpr ⟨lwc_m lwS_5 rfl, (List.forall_mem_cons.mpr ⟨lwc_m lwS_5 rfl, (List.forall_mem_cons.mpr ⟨lwc_m lwS_5 rfl, (List.forall_mem_cons.mpr ⟨lwc_m lwS_5 rfl, (List.forall_mem_cons.mpr ⟨lwc_m lwS_5 rfl, (List.forall_mem_cons.mpr ⟨lwc_m lwS_5 rfl, (List.forall_mem_cons.mpr ⟨lwc_m lwS_5 rfl, (List.forall_mem_cons.mpr ⟨lwc_m lwS_6 rfl, (List.forall_mem_cons.mpr ⟨lwc_m lwS_6 rfl, (List.forall_mem_cons.mpr ⟨lwc_m lwS_6 rfl, (List.forall_mem_cons.mpr ⟨lwc_m lwS_6 rfl, (List.forall_mem_cons.mpr ⟨lwc_m lwS_6 rfl, (List.forall_mem_cons.mpr ⟨lwc_m lwS_6 rfl, (List.forall_mem_cons.mpr ⟨lwc_m lwS_6 rfl, (List.forall_mem_cons.mpr ⟨lwc_m lwS_6 rfl, (List.forall_mem_cons.mpr ⟨lwc_m lwS_7 rfl, fun _ h => absurd h List.not_mem_nil⟩)⟩)⟩)⟩)⟩)⟩)⟩)⟩)⟩)⟩)⟩)⟩)⟩)⟩)⟩)⟩)⟩)⟩)⟩)⟩)⟩)⟩)⟩)⟩)⟩)⟩)⟩)⟩)⟩)⟩)⟩)⟩)⟩)⟩)⟩)⟩)⟩)⟩)⟩)⟩)⟩)⟩)⟩)⟩)⟩)⟩)⟩)⟩)⟩)⟩)⟩
/-- the word stands at its place (32 * the piece + the place in it), and may be carried into a call -/
noncomputable def tat (t : Nat) (w : Cond) : Bool := (match lwCs[t / 32]? with
  | some l => decide (l[t % 32]? = some w)
  | none => false) && goodWord w
noncomputable def mathN (a : Nat) : MethodName := match a with
  | 1002 => Lib.Math.abs.name
  | 1003 => Lib.Math.max.name
  | 1004 => Lib.MathLoose.max_long.x
  | 1005 => Lib.Math.min.name
  | _ => Lib.MathLoose.min_long.x
noncomputable def chkI (M : MI) (pc : Nat) (q : AI) : Bool :=
  let own := M.1
  let a := q.2.2.1
  let b := q.2.2.2.1
  let c := q.2.2.2.2.1
  let t := q.2.2.2.2.2
  decide (decode M.2.2.2.1 pc = .ok (q.1, ilen q.1 (q.2.1 - pc))) && decide (q.2.1 = pc + ilen q.1 (q.2.1 - pc)) && (match q.1 with
    | .ifCond _ off => decide (0 ≤ (pc : Int) + off)
    | .if_icmp _ off => decide (0 ≤ (pc : Int) + off)
    | .getfield idx => if a = 20 then (if b = 0 then tat t (.fieldLink own idx "java/lang/String" "value" "[B") else decide (b = 1) && tat t (.fieldLink own idx "java/lang/String" "coder" "B"))
      else decide (a < 9 ∧ b < nFf a) && tat t (.fieldLink own idx (TXf a b).1 (TXf a b).2.1 (TXf a b).2.2.1)
    | .putfield idx => decide (a < 9 ∧ b < nFf a) && tat t (.fieldLink own idx (TXf a b).1 (TXf a b).2.1 (TXf a b).2.2.1) && (!(TXf a b).2.2.2 || decide (M.2.2.2.2.2.2.1 = 2 ∧ (TXf a b).1 = own))
    | .getstatic idx => if a = 0 then decide (Cond.fieldLinkNest own idx "PulledToAHair" "IS_A" "[I" "PulledToAHair" = nestF) else if a = 1 then tat t (.fieldLink own idx "java/lang/String" "COMPACT_STRINGS" "Z") else tat t (.fieldLink own idx "jdk/internal/util/Preconditions" "SIOOBE_FORMATTER" "Ljava/util/function/BiFunction;")
    | .ldc idx => if a = 0 then tat t (.constant own idx (Int32.ofInt c)) else (strL.any (fun z => decide (z.1 = own ∧ z.2.1 = idx ∧ z.2.2.1 = a)))
    | .ldc_w idx => tat t (.constant own idx (Int32.ofInt c))
    | .ldc2_w idx => tat t (.constantLong own idx (Int64.ofInt c))
    | .new idx => decide (a < 9) && tat t (.classLink own idx (Rf a))
    | .newarray at_ => decide ((a = 9 ∧ at_ = .int) ∨ (a = 10 ∧ at_ = .long))
    | .anewarray idx => decide (11 ≤ a ∧ a ≤ 13) && tat t (.classLink own idx (Rf (comps a)))
    | .lookupswitch _ ps => (ps.toList.zip (ps.toList.drop 1)).all (fun (a, next) => a.1 < next.1)
    | .tableswitch _ lo hi offs => decide ((hi - lo + 1).toNat = offs.size)
    | .invokevirtual idx => (match minf[a]? with
      | some N => decide (N.2.2.2.2.2.2.1 = 1) && (if b = 0 then tat t (.methodLink own idx N.2.2.1) else decide (nestM own idx N.2.2.1 ∈ nestW))
      | none => false)
    | .invokestatic idx => if a = 1001 then tat t (.methodLink own idx arraycopyName) else if 1002 ≤ a ∧ a ≤ 1006 then tat t (.methodLink own idx (mathN a)) else (match minf[a]? with
      | some N => decide (N.2.2.2.2.2.2.1 = 0) && (if b = 0 then tat t (.methodLink own idx N.2.2.1) else decide (nestM own idx N.2.2.1 ∈ nestW))
      | none => false)
    | .invokespecial idx => if a = 1000 then tat t (.methodLink own idx objectInit) else (match minf[a]? with
      | some N => decide (N.2.2.2.2.2.2.1 = 2) && (if b = 0 then tat t (.methodLink own idx N.2.2.1) else decide (nestM own idx N.2.2.1 ∈ nestW))
      | none => false)
    | _ => true)
noncomputable def chkM (M : MI) : Bool :=
  let y := M.2.2.1
  let k := M.2.2.2.2.2.2.1
  let w := M.2.2.2.2.2.2.2.2
  tat w.2.1 (if k = 0 then .static y else .instanceMethod y) && (decide (k ≠ 1) || tat w.2.2.1 (.selects y.cls y y)) && tat w.2.2.2 (.initialized y.cls)
   && decide (y.cls = M.1 ∧ plainName y.cls = true ∧ y.cls ≠ "java/lang/invoke/MethodHandle" ∧ y.cls ≠ "java/lang/invoke/VarHandle" ∧ (parseMethodDescriptor y.desc).map (fun d => d.parameters.length) = some M.2.2.2.2.2.2.2.1)
   && decide (M.2.2.2.2.1 ≤ 20) && decide (k = 2 → y.name = "<init>") && (decide (k = 0) || decide (Rf M.2.1 = M.1 ∧ (M.2.1 < 9 ∨ M.2.1 = 20))) && decide (k ≤ 2 ∧ (k = 2 → M.2.2.2.2.2.1 = none))
theorem tb_1 {i : Nat} {w : Cond} (h : tables_1_1[i]? = some w) : w ∈ lw_tbl := List.mem_append_right _ (by unfold tables_1; exact List.mem_append_left _ (List.mem_of_getElem? h))
theorem tb_2 {i : Nat} {w : Cond} (h : tables_1_2[i]? = some w) : w ∈ lw_tbl := List.mem_append_right _ (by unfold tables_1; exact List.mem_append_right _ (List.mem_append_left _ (List.mem_of_getElem? h)))
theorem tb_3 {i : Nat} {w : Cond} (h : tables_1_3[i]? = some w) : w ∈ lw_tbl := List.mem_append_right _ (by unfold tables_1; exact List.mem_append_right _ (List.mem_append_right _ (List.mem_append_left _ (List.mem_of_getElem? h))))
theorem tb_4 {i : Nat} {w : Cond} (h : tables_1_4[i]? = some w) : w ∈ lw_tbl := List.mem_append_right _ (by unfold tables_1; exact List.mem_append_right _ (List.mem_append_right _ (List.mem_append_right _ (List.mem_append_left _ (List.mem_of_getElem? h)))))
theorem tb_5 {i : Nat} {w : Cond} (h : tables_1_5[i]? = some w) : w ∈ lw_tbl := List.mem_append_right _ (by unfold tables_1; exact List.mem_append_right _ (List.mem_append_right _ (List.mem_append_right _ (List.mem_append_right _ (List.mem_append_left _ (List.mem_of_getElem? h))))))
theorem tb_6 {i : Nat} {w : Cond} (h : tables_1_6[i]? = some w) : w ∈ lw_tbl := List.mem_append_right _ (by unfold tables_1; exact List.mem_append_right _ (List.mem_append_right _ (List.mem_append_right _ (List.mem_append_right _ (List.mem_append_right _ (List.mem_append_left _ (List.mem_of_getElem? h)))))))
theorem tb_7 {i : Nat} {w : Cond} (h : tables_1_7[i]? = some w) : w ∈ lw_tbl := List.mem_append_right _ (by unfold tables_1; exact List.mem_append_right _ (List.mem_append_right _ (List.mem_append_right _ (List.mem_append_right _ (List.mem_append_right _ (List.mem_append_right _ (List.mem_of_getElem? h)))))))
theorem cd_X0_init : Cond.code ⟨"PulledToAHair$Dough", "<init>", "()V"⟩ prog_2_method_1_code 2 (none) ∈ lw_tbl := tb_1 (i := 29) rfl
theorem cd_X0_become : Cond.code ⟨"PulledToAHair$Dough", "become", "(LPulledToAHair$Dough;)V"⟩ prog_2_method_2_code 2 (none) ∈ lw_tbl := tb_4 (i := 43) rfl
theorem cd_X1_init : Cond.code ⟨"PulledToAHair$Hands", "<init>", "(LPulledToAHair$Text;)V"⟩ prog_3_method_1_code 2 (none) ∈ lw_tbl := tb_1 (i := 146) rfl
theorem cd_X1_wander : Cond.code ⟨"PulledToAHair$Hands", "wander", "(I)V"⟩ prog_3_method_2_code 2 (none) ∈ lw_tbl := tb_3 (i := 55) rfl
theorem cd_X1_ease : Cond.code ⟨"PulledToAHair$Hands", "ease", "(LPulledToAHair$Rope;II)I"⟩ prog_3_method_3_code 6 (some .int) ∈ lw_tbl := tb_3 (i := 83) rfl
theorem cd_X1_tears : Cond.code ⟨"PulledToAHair$Hands", "tears", "(LPulledToAHair$Rope;II)I"⟩ prog_3_method_4_code 4 (some .int) ∈ lw_tbl := tb_3 (i := 126) rfl
theorem cd_X1_sticks : Cond.code ⟨"PulledToAHair$Hands", "sticks", "(LPulledToAHair$Rope;)I"⟩ prog_3_method_5_code 2 (some .int) ∈ lw_tbl := tb_3 (i := 146) rfl
theorem cd_X1_says : Cond.code ⟨"PulledToAHair$Hands", "says", "(ILPulledToAHair$Rope;II)I"⟩ prog_3_method_6_code 5 (some .int) ∈ lw_tbl := tb_3 (i := 87) rfl
theorem cd_X2_init : Cond.code ⟨"PulledToAHair$Reader", "<init>", "()V"⟩ prog_4_method_1_code 1 (none) ∈ lw_tbl := tb_1 (i := 60) rfl
theorem cd_X2_add : Cond.code ⟨"PulledToAHair$Reader", "add", "(I)V"⟩ prog_4_method_2_code 2 (none) ∈ lw_tbl := tb_2 (i := 38) rfl
theorem cd_X2_empty : Cond.code ⟨"PulledToAHair$Reader", "empty", "()V"⟩ prog_4_method_3_code 1 (none) ∈ lw_tbl := tb_2 (i := 182) rfl
theorem cd_X2_read : Cond.code ⟨"PulledToAHair$Reader", "read", "(LPulledToAHair$Text;)I"⟩ prog_4_method_4_code 3 (some .int) ∈ lw_tbl := tb_2 (i := 42) rfl
theorem cd_X2_readEither : Cond.code ⟨"PulledToAHair$Reader", "readEither", "(LPulledToAHair$Text;I)Z"⟩ prog_4_method_5_code 4 (some .boolean) ∈ lw_tbl := tb_2 (i := 142) rfl
theorem cd_X2_readBoth : Cond.code ⟨"PulledToAHair$Reader", "readBoth", "(LPulledToAHair$Text;I)Z"⟩ prog_4_method_6_code 4 (some .boolean) ∈ lw_tbl := tb_2 (i := 146) rfl
theorem cd_X2_readNot : Cond.code ⟨"PulledToAHair$Reader", "readNot", "(LPulledToAHair$Text;I)Z"⟩ prog_4_method_7_code 3 (some .boolean) ∈ lw_tbl := tb_2 (i := 150) rfl
theorem cd_X2_readCompared : Cond.code ⟨"PulledToAHair$Reader", "readCompared", "(LPulledToAHair$Text;I)Z"⟩ prog_4_method_8_code 4 (some .boolean) ∈ lw_tbl := tb_2 (i := 154) rfl
theorem cd_X2_readSum : Cond.code ⟨"PulledToAHair$Reader", "readSum", "(LPulledToAHair$Text;I)Z"⟩ prog_4_method_9_code 5 (some .boolean) ∈ lw_tbl := tb_2 (i := 158) rfl
theorem cd_X2_readProduct : Cond.code ⟨"PulledToAHair$Reader", "readProduct", "(LPulledToAHair$Text;I)Z"⟩ prog_4_method_10_code 4 (some .boolean) ∈ lw_tbl := tb_2 (i := 162) rfl
theorem cd_X2_readOne : Cond.code ⟨"PulledToAHair$Reader", "readOne", "(LPulledToAHair$Text;I)Z"⟩ prog_4_method_11_code 4 (some .boolean) ∈ lw_tbl := tb_2 (i := 166) rfl
theorem cd_X2_advance : Cond.code ⟨"PulledToAHair$Reader", "advance", "()V"⟩ prog_4_method_12_code 2 (none) ∈ lw_tbl := tb_2 (i := 50) rfl
theorem cd_X2_byteAt : Cond.code ⟨"PulledToAHair$Reader", "byteAt", "(I)I"⟩ prog_4_method_13_code 2 (some .int) ∈ lw_tbl := tb_2 (i := 54) rfl
theorem cd_X2_isLetter : Cond.code ⟨"PulledToAHair$Reader", "isLetter", "(I)Z"⟩ prog_4_method_14_code 1 (some .boolean) ∈ lw_tbl := tb_2 (i := 57) rfl
theorem cd_X2_isDigit : Cond.code ⟨"PulledToAHair$Reader", "isDigit", "(I)Z"⟩ prog_4_method_15_code 1 (some .boolean) ∈ lw_tbl := tb_2 (i := 74) rfl
theorem cd_X2_readNumber : Cond.code ⟨"PulledToAHair$Reader", "readNumber", "()V"⟩ prog_4_method_16_code 3 (none) ∈ lw_tbl := tb_2 (i := 78) rfl
theorem cd_X2_readWord : Cond.code ⟨"PulledToAHair$Reader", "readWord", "()V"⟩ prog_4_method_17_code 2 (none) ∈ lw_tbl := tb_2 (i := 64) rfl
theorem cd_X2_isWord : Cond.code ⟨"PulledToAHair$Reader", "isWord", "(I)Z"⟩ prog_4_method_18_code 5 (some .boolean) ∈ lw_tbl := tb_2 (i := 68) rfl
theorem cd_X3_init : Cond.code ⟨"PulledToAHair$Rope", "<init>", "(LPulledToAHair$Hands;)V"⟩ prog_5_method_1_code 2 (none) ∈ lw_tbl := tb_1 (i := 175) rfl
theorem cd_X3_begin : Cond.code ⟨"PulledToAHair$Rope", "begin", "(LPulledToAHair$Dough;)V"⟩ prog_5_method_2_code 3 (none) ∈ lw_tbl := tb_3 (i := 59) rfl
theorem cd_X3_become : Cond.code ⟨"PulledToAHair$Rope", "become", "(LPulledToAHair$Rope;)V"⟩ prog_5_method_3_code 2 (none) ∈ lw_tbl := tb_3 (i := 217) rfl
theorem cd_X3_make : Cond.code ⟨"PulledToAHair$Rope", "make", "(LPulledToAHair$Step;)V"⟩ prog_5_method_4_code 2 (none) ∈ lw_tbl := tb_3 (i := 66) rfl
theorem cd_X3_relax : Cond.code ⟨"PulledToAHair$Rope", "relax", "(I)V"⟩ prog_5_method_5_code 3 (none) ∈ lw_tbl := tb_3 (i := 159) rfl
theorem cd_X3_draw : Cond.code ⟨"PulledToAHair$Rope", "draw", "(JI)V"⟩ prog_5_method_6_code 9 (none) ∈ lw_tbl := tb_3 (i := 79) rfl
theorem cd_X3_lengthen : Cond.code ⟨"PulledToAHair$Rope", "lengthen", "(IJI)V"⟩ prog_5_method_7_code 5 (none) ∈ lw_tbl := tb_3 (i := 119) rfl
theorem cd_X3_bounce : Cond.code ⟨"PulledToAHair$Rope", "bounce", "()V"⟩ prog_5_method_8_code 4 (none) ∈ lw_tbl := tb_3 (i := 133) rfl
theorem cd_X3_fold : Cond.code ⟨"PulledToAHair$Rope", "fold", "()V"⟩ prog_5_method_9_code 1 (none) ∈ lw_tbl := tb_3 (i := 137) rfl
theorem cd_X3_foldRow : Cond.code ⟨"PulledToAHair$Rope", "foldRow", "([III)V"⟩ prog_5_method_10_code 6 (none) ∈ lw_tbl := tb_3 (i := 141) rfl
theorem cd_X3_powder : Cond.code ⟨"PulledToAHair$Rope", "powder", "(I)V"⟩ prog_5_method_11_code 2 (none) ∈ lw_tbl := tb_3 (i := 150) rfl
theorem cd_X3_cutEnd : Cond.code ⟨"PulledToAHair$Rope", "cutEnd", "(II)V"⟩ prog_5_method_12_code 4 (none) ∈ lw_tbl := tb_3 (i := 155) rfl
theorem cd_X3_thick : Cond.code ⟨"PulledToAHair$Rope", "thick", "(I)I"⟩ prog_5_method_13_code 2 (some .int) ∈ lw_tbl := tb_3 (i := 91) rfl
theorem cd_X3_thinnest : Cond.code ⟨"PulledToAHair$Rope", "thinnest", "()I"⟩ prog_5_method_14_code 3 (some .int) ∈ lw_tbl := tb_3 (i := 170) rfl
theorem cd_X3_thickest : Cond.code ⟨"PulledToAHair$Rope", "thickest", "()I"⟩ prog_5_method_15_code 3 (some .int) ∈ lw_tbl := tb_3 (i := 175) rfl
theorem cd_X3_spread : Cond.code ⟨"PulledToAHair$Rope", "spread", "()I"⟩ prog_5_method_16_code 1 (some .int) ∈ lw_tbl := tb_3 (i := 179) rfl
theorem cd_X3_isMoreEvenThan : Cond.code ⟨"PulledToAHair$Rope", "isMoreEvenThan", "(LPulledToAHair$Rope;)Z"⟩ prog_5_method_17_code 6 (some .boolean) ∈ lw_tbl := tb_3 (i := 223) rfl
theorem cd_X3_allLength : Cond.code ⟨"PulledToAHair$Rope", "allLength", "()J"⟩ prog_5_method_18_code 4 (some .long) ∈ lw_tbl := tb_3 (i := 74) rfl
theorem cd_X3_tenths : Cond.code ⟨"PulledToAHair$Rope", "tenths", "(I)J"⟩ prog_5_method_19_code 2 (some .long) ∈ lw_tbl := tb_3 (i := 70) rfl
theorem cd_X3_goodParts : Cond.code ⟨"PulledToAHair$Rope", "goodParts", "()J"⟩ prog_5_method_20_code 1 (some .long) ∈ lw_tbl := tb_3 (i := 195) rfl
theorem cd_X3_cooked : Cond.code ⟨"PulledToAHair$Rope", "cooked", "(II)I"⟩ prog_5_method_21_code 6 (some .int) ∈ lw_tbl := tb_4 (i := 72) rfl
theorem cd_X3_firstOff : Cond.code ⟨"PulledToAHair$Rope", "firstOff", "(LPulledToAHair$Sheet;I)I"⟩ prog_5_method_22_code 6 (some .int) ∈ lw_tbl := tb_4 (i := 17) rfl
theorem cd_X3_isAsTold : Cond.code ⟨"PulledToAHair$Rope", "isAsTold", "(LPulledToAHair$Sheet;)Z"⟩ prog_5_method_23_code 2 (some .boolean) ∈ lw_tbl := tb_4 (i := 48) rfl
theorem cd_X4_init : Cond.code ⟨"PulledToAHair$Sheet", "<init>", "()V"⟩ prog_6_method_1_code 1 (none) ∈ lw_tbl := tb_1 (i := 126) rfl
theorem cd_X4_become : Cond.code ⟨"PulledToAHair$Sheet", "become", "(II)V"⟩ prog_6_method_2_code 4 (none) ∈ lw_tbl := tb_4 (i := 25) rfl
theorem cd_X4_has : Cond.code ⟨"PulledToAHair$Sheet", "has", "(II)Z"⟩ prog_6_method_3_code 3 (some .boolean) ∈ lw_tbl := tb_4 (i := 35) rfl
theorem cd_X4_put : Cond.code ⟨"PulledToAHair$Sheet", "put", "(II)V"⟩ prog_6_method_4_code 3 (none) ∈ lw_tbl := tb_4 (i := 31) rfl
theorem cd_X5_init : Cond.code ⟨"PulledToAHair$Step", "<init>", "()V"⟩ prog_7_method_1_code 1 (none) ∈ lw_tbl := tb_1 (i := 87) rfl
theorem cd_X5_become : Cond.code ⟨"PulledToAHair$Step", "become", "(III)V"⟩ prog_7_method_2_code 4 (none) ∈ lw_tbl := tb_3 (i := 23) rfl
theorem cd_X5_takes : Cond.code ⟨"PulledToAHair$Step", "takes", "()I"⟩ prog_7_method_3_code 1 (some .int) ∈ lw_tbl := tb_3 (i := 39) rfl
theorem cd_X5_isA : Cond.code ⟨"PulledToAHair$Step", "isA", "(I)Z"⟩ prog_7_method_4_code 4 (some .boolean) ∈ lw_tbl := tb_4 (i := 171) rfl
theorem cd_X6_init : Cond.code ⟨"PulledToAHair$Text", "<init>", "()V"⟩ prog_8_method_1_code 1 (none) ∈ lw_tbl := tb_1 (i := 108) rfl
theorem cd_X6_clear : Cond.code ⟨"PulledToAHair$Text", "clear", "()V"⟩ prog_8_method_2_code 1 (none) ∈ lw_tbl := tb_2 (i := 46) rfl
theorem cd_X6_nameCode : Cond.code ⟨"PulledToAHair$Text", "nameCode", "(I)I"⟩ prog_8_method_3_code 1 (some .int) ∈ lw_tbl := tb_2 (i := 169) rfl
theorem cd_X6_add : Cond.code ⟨"PulledToAHair$Text", "add", "(I)V"⟩ prog_8_method_4_code 2 (none) ∈ lw_tbl := tb_2 (i := 173) rfl
theorem cd_X6_endSection : Cond.code ⟨"PulledToAHair$Text", "endSection", "(I)V"⟩ prog_8_method_5_code 2 (none) ∈ lw_tbl := tb_2 (i := 177) rfl
theorem cd_X6_value : Cond.code ⟨"PulledToAHair$Text", "value", "(I[I)I"⟩ prog_8_method_6_code 6 (some .int) ∈ lw_tbl := tb_3 (i := 95) rfl
theorem cd_X6_named : Cond.code ⟨"PulledToAHair$Text", "named", "(I[I)I"⟩ prog_8_method_7_code 3 (some .int) ∈ lw_tbl := tb_3 (i := 98) rfl
theorem cd_X6_joined : Cond.code ⟨"PulledToAHair$Text", "joined", "(III)I"⟩ prog_8_method_8_code 3 (some .int) ∈ lw_tbl := tb_3 (i := 101) rfl
theorem cd_X7_init : Cond.code ⟨"PulledToAHair", "<init>", "()V"⟩ prog_1_method_1_code 2 (none) ∈ lw_tbl := tb_1 (i := 21) rfl
theorem cd_X7_roll : Cond.code ⟨"PulledToAHair", "roll", "(III)I"⟩ prog_1_method_2_code 6 (some .int) ∈ lw_tbl := tb_2 (i := 233) rfl
theorem cd_X7_set : Cond.code ⟨"PulledToAHair", "set", "(II)I"⟩ prog_1_method_3_code 4 (some .int) ∈ lw_tbl := tb_2 (i := 239) rfl
theorem cd_X7_count : Cond.code ⟨"PulledToAHair", "count", "(I)I"⟩ prog_1_method_4_code 2 (some .int) ∈ lw_tbl := tb_3 (i := 3) rfl
theorem cd_X7_feed : Cond.code ⟨"PulledToAHair", "feed", "(JI)I"⟩ prog_1_method_5_code 5 (some .int) ∈ lw_tbl := tb_3 (i := 7) rfl
theorem cd_X7_text : Cond.code ⟨"PulledToAHair", "text", "()I"⟩ prog_1_method_6_code 2 (some .int) ∈ lw_tbl := tb_3 (i := 11) rfl
theorem cd_X7_force : Cond.code ⟨"PulledToAHair", "force", "(I)I"⟩ prog_1_method_7_code 3 (some .int) ∈ lw_tbl := tb_3 (i := 15) rfl
theorem cd_X7_step : Cond.code ⟨"PulledToAHair", "step", "(III)I"⟩ prog_1_method_8_code 4 (some .int) ∈ lw_tbl := tb_3 (i := 19) rfl
theorem cd_X7_forget : Cond.code ⟨"PulledToAHair", "forget", "()I"⟩ prog_1_method_9_code 1 (some .int) ∈ lw_tbl := tb_3 (i := 27) rfl
theorem cd_X7_stepTold : Cond.code ⟨"PulledToAHair", "stepTold", "(II)I"⟩ prog_1_method_10_code 3 (some .int) ∈ lw_tbl := tb_3 (i := 31) rfl
theorem cd_X7_rope : Cond.code ⟨"PulledToAHair", "rope", "(III)I"⟩ prog_1_method_11_code 4 (some .int) ∈ lw_tbl := tb_3 (i := 43) rfl
theorem cd_X7_state : Cond.code ⟨"PulledToAHair", "state", "(II)J"⟩ prog_1_method_12_code 3 (some .long) ∈ lw_tbl := tb_3 (i := 164) rfl
theorem cd_X7_whole : Cond.code ⟨"PulledToAHair", "whole", "(II)J"⟩ prog_1_method_13_code 3 (some .long) ∈ lw_tbl := tb_3 (i := 190) rfl
theorem cd_X7_stop : Cond.code ⟨"PulledToAHair", "stop", "(I)I"⟩ prog_1_method_14_code 4 (some .int) ∈ lw_tbl := tb_3 (i := 199) rfl
theorem cd_X7_worst : Cond.code ⟨"PulledToAHair", "worst", "()I"⟩ prog_1_method_15_code 9 (some .int) ∈ lw_tbl := tb_3 (i := 205) rfl
theorem cd_X7_window : Cond.code ⟨"PulledToAHair", "window", "(II)I"⟩ prog_1_method_16_code 5 (some .int) ∈ lw_tbl := tb_3 (i := 209) rfl
theorem cd_X7_pace : Cond.code ⟨"PulledToAHair", "pace", "(III)I"⟩ prog_1_method_17_code 10 (some .int) ∈ lw_tbl := tb_3 (i := 227) rfl
theorem cd_X7_rest : Cond.code ⟨"PulledToAHair", "rest", "(III)I"⟩ prog_1_method_18_code 5 (some .int) ∈ lw_tbl := tb_3 (i := 231) rfl
theorem cd_X7_dust : Cond.code ⟨"PulledToAHair", "dust", "(II)I"⟩ prog_1_method_19_code 4 (some .int) ∈ lw_tbl := tb_3 (i := 236) rfl
theorem cd_X7_doublings : Cond.code ⟨"PulledToAHair", "doublings", "(III)I"⟩ prog_1_method_20_code 5 (some .int) ∈ lw_tbl := tb_4 (i := 2) rfl
theorem cd_X7_judge : Cond.code ⟨"PulledToAHair", "judge", "(III)I"⟩ prog_1_method_21_code 5 (some .int) ∈ lw_tbl := tb_4 (i := 6) rfl
theorem cd_X7_film : Cond.code ⟨"PulledToAHair", "film", "(II)I"⟩ prog_1_method_22_code 4 (some .int) ∈ lw_tbl := tb_4 (i := 21) rfl
theorem cd_X7_serves : Cond.code ⟨"PulledToAHair", "serves", "(III)I"⟩ prog_1_method_23_code 7 (some .int) ∈ lw_tbl := tb_4 (i := 39) rfl
theorem cd_X7_which : Cond.code ⟨"PulledToAHair", "which", "(II)I"⟩ prog_1_method_24_code 6 (some .int) ∈ lw_tbl := tb_4 (i := 53) rfl
theorem cd_X7_fault : Cond.code ⟨"PulledToAHair", "fault", "(II)I"⟩ prog_1_method_25_code 5 (some .int) ∈ lw_tbl := tb_4 (i := 57) rfl
theorem cd_X7_uneven : Cond.code ⟨"PulledToAHair", "uneven", "(II)I"⟩ prog_1_method_26_code 8 (some .int) ∈ lw_tbl := tb_4 (i := 61) rfl
theorem cd_X7_cooks : Cond.code ⟨"PulledToAHair", "cooks", "(III)I"⟩ prog_1_method_27_code 4 (some .int) ∈ lw_tbl := tb_4 (i := 68) rfl
theorem cd_X7_pot : Cond.code ⟨"PulledToAHair", "pot", "(I)I"⟩ prog_1_method_28_code 7 (some .int) ∈ lw_tbl := tb_4 (i := 76) rfl
theorem cd_X7_place : Cond.code ⟨"PulledToAHair", "place", "(II)I"⟩ prog_1_method_29_code 3 (some .int) ∈ lw_tbl := tb_4 (i := 80) rfl
theorem cd_X7_apart : Cond.code ⟨"PulledToAHair", "apart", "(III)I"⟩ prog_1_method_30_code 4 (some .int) ∈ lw_tbl := tb_4 (i := 90) rfl
theorem cd_X7_parted : Cond.code ⟨"PulledToAHair", "parted", "(III)I"⟩ prog_1_method_31_code 7 (some .int) ∈ lw_tbl := tb_4 (i := 94) rfl
theorem cd_X7_round : Cond.code ⟨"PulledToAHair", "round", "(I)I"⟩ prog_1_method_32_code 4 (some .int) ∈ lw_tbl := tb_4 (i := 98) rfl
theorem cd_X7_colours : Cond.code ⟨"PulledToAHair", "colours", "(III)I"⟩ prog_1_method_33_code 8 (some .int) ∈ lw_tbl := tb_4 (i := 102) rfl
theorem cd_X7_thin : Cond.code ⟨"PulledToAHair", "thin", "(III)J"⟩ prog_1_method_34_code 4 (some .long) ∈ lw_tbl := tb_4 (i := 114) rfl
theorem cd_X7_odds : Cond.code ⟨"PulledToAHair", "odds", "(IIII)J"⟩ prog_1_method_35_code 5 (some .long) ∈ lw_tbl := tb_4 (i := 123) rfl
theorem cd_X7_record : Cond.code ⟨"PulledToAHair", "record", "(III)I"⟩ prog_1_method_36_code 6 (some .int) ∈ lw_tbl := tb_4 (i := 133) rfl
theorem cd_X7_drawn : Cond.code ⟨"PulledToAHair", "drawn", "(IIII)I"⟩ prog_1_method_37_code 5 (some .int) ∈ lw_tbl := tb_4 (i := 137) rfl
theorem cd_X7_image : Cond.code ⟨"PulledToAHair", "image", "()I"⟩ prog_1_method_38_code 1 (some .int) ∈ lw_tbl := tb_4 (i := 141) rfl
theorem cd_X7_back : Cond.code ⟨"PulledToAHair", "back", "()I"⟩ prog_1_method_39_code 1 (some .int) ∈ lw_tbl := tb_4 (i := 145) rfl
theorem cd_X7_sheet : Cond.code ⟨"PulledToAHair", "sheet", "(III)I"⟩ prog_1_method_40_code 4 (some .int) ∈ lw_tbl := tb_4 (i := 149) rfl
theorem cd_X7_cell : Cond.code ⟨"PulledToAHair", "cell", "(III)I"⟩ prog_1_method_41_code 4 (some .int) ∈ lw_tbl := tb_4 (i := 153) rfl
theorem cd_X7_copy : Cond.code ⟨"PulledToAHair", "copy", "(IIIII)I"⟩ prog_1_method_42_code 6 (some .int) ∈ lw_tbl := tb_4 (i := 158) rfl
theorem cd_X7_stepsBy : Cond.code ⟨"PulledToAHair", "stepsBy", "(IIII)I"⟩ prog_1_method_43_code 9 (some .int) ∈ lw_tbl := tb_4 (i := 162) rfl
theorem cd_X7_taken : Cond.code ⟨"PulledToAHair", "taken", "(II)I"⟩ prog_1_method_44_code 4 (some .int) ∈ lw_tbl := tb_4 (i := 167) rfl
theorem cd_X7_within : Cond.code ⟨"PulledToAHair", "within", "(III)Z"⟩ prog_1_method_45_code 3 (some .boolean) ∈ lw_tbl := tb_2 (i := 60) rfl
theorem cd_X7_quotient : Cond.code ⟨"PulledToAHair", "quotient", "(JJ)J"⟩ prog_1_method_46_code 4 (some .long) ∈ lw_tbl := tb_3 (i := 115) rfl
theorem cd_X7_isStep : Cond.code ⟨"PulledToAHair", "isStep", "(I)Z"⟩ prog_1_method_47_code 2 (some .boolean) ∈ lw_tbl := tb_3 (i := 35) rfl
theorem cd_X7_areSteps : Cond.code ⟨"PulledToAHair", "areSteps", "(I)Z"⟩ prog_1_method_48_code 2 (some .boolean) ∈ lw_tbl := tb_3 (i := 47) rfl
theorem cd_X7_isSheet : Cond.code ⟨"PulledToAHair", "isSheet", "(I)Z"⟩ prog_1_method_49_code 1 (some .boolean) ∈ lw_tbl := tb_4 (i := 13) rfl
theorem cd_X7_isPlace : Cond.code ⟨"PulledToAHair", "isPlace", "(I)Z"⟩ prog_1_method_50_code 1 (some .boolean) ∈ lw_tbl := tb_4 (i := 83) rfl
theorem cd_X7_areOdds : Cond.code ⟨"PulledToAHair", "areOdds", "(II)Z"⟩ prog_1_method_51_code 2 (some .boolean) ∈ lw_tbl := tb_4 (i := 126) rfl
theorem cd_X7_refusalOfTest : Cond.code ⟨"PulledToAHair", "refusalOfTest", "(II)I"⟩ prog_1_method_52_code 3 (some .int) ∈ lw_tbl := tb_4 (i := 10) rfl
theorem cd_X7_make : Cond.code ⟨"PulledToAHair", "make", "(LPulledToAHair$Dough;III)V"⟩ prog_1_method_53_code 6 (none) ∈ lw_tbl := tb_3 (i := 51) rfl
theorem cd_X7_tryDrawing : Cond.code ⟨"PulledToAHair", "tryDrawing", "(II)V"⟩ prog_1_method_54_code 3 (none) ∈ lw_tbl := tb_3 (i := 213) rfl
theorem cd_X7_allTake : Cond.code ⟨"PulledToAHair", "allTake", "(I)I"⟩ prog_1_method_55_code 4 (some .int) ∈ lw_tbl := tb_3 (i := 186) rfl
theorem cd_X7_placeBehind : Cond.code ⟨"PulledToAHair", "placeBehind", "(II)I"⟩ prog_1_method_56_code 4 (some .int) ∈ lw_tbl := tb_4 (i := 86) rfl
theorem cd_X7_colour : Cond.code ⟨"PulledToAHair", "colour", "(II)V"⟩ prog_1_method_57_code 5 (none) ∈ lw_tbl := tb_4 (i := 107) rfl
theorem cd_X7_multiplied : Cond.code ⟨"PulledToAHair", "multiplied", "(II)J"⟩ prog_1_method_58_code 5 (some .long) ∈ lw_tbl := tb_4 (i := 129) rfl
theorem cd_X7_inLowestTerms : Cond.code ⟨"PulledToAHair", "inLowestTerms", "(JJI)J"⟩ prog_1_method_59_code 12 (some .long) ∈ lw_tbl := tb_4 (i := 118) rfl
theorem cd_X8_init : Cond.code ⟨"PulledToAHairModel", "<init>", "()V"⟩ prog_10_method_1_code 2 (none) ∈ lw_tbl := tb_4 (i := 179) rfl
theorem cd_X8_in : Cond.code ⟨"PulledToAHairModel", "in", "(III)Z"⟩ prog_10_method_3_code 3 (some .boolean) ∈ lw_tbl := tb_4 (i := 192) rfl
theorem cd_X8_isCell : Cond.code ⟨"PulledToAHairModel", "isCell", "(I)Z"⟩ prog_10_method_4_code 1 (some .boolean) ∈ lw_tbl := tb_5 (i := 158) rfl
theorem cd_X8_areSteps : Cond.code ⟨"PulledToAHairModel", "areSteps", "(I)Z"⟩ prog_10_method_5_code 2 (some .boolean) ∈ lw_tbl := tb_5 (i := 206) rfl
theorem cd_X8_size : Cond.code ⟨"PulledToAHairModel", "size", "(I)I"⟩ prog_10_method_6_code 1 (some .int) ∈ lw_tbl := tb_6 (i := 141) rfl
theorem cd_X8_within : Cond.code ⟨"PulledToAHairModel", "within", "(III)I"⟩ prog_10_method_7_code 3 (some .int) ∈ lw_tbl := tb_6 (i := 16) rfl
theorem cd_X8_roll : Cond.code ⟨"PulledToAHairModel", "roll", "(III)I"⟩ prog_10_method_8_code 5 (some .int) ∈ lw_tbl := tb_5 (i := 155) rfl
theorem cd_X8_set : Cond.code ⟨"PulledToAHairModel", "set", "(II)I"⟩ prog_10_method_9_code 4 (some .int) ∈ lw_tbl := tb_5 (i := 163) rfl
theorem cd_X8_holds0 : Cond.code ⟨"PulledToAHairModel", "holds0", "(II)V"⟩ prog_10_method_10_code 3 (none) ∈ lw_tbl := tb_5 (i := 171) rfl
theorem cd_X8_count : Cond.code ⟨"PulledToAHairModel", "count", "(I)I"⟩ prog_10_method_11_code 2 (some .int) ∈ lw_tbl := tb_5 (i := 167) rfl
theorem cd_X8_feed : Cond.code ⟨"PulledToAHairModel", "feed", "(JI)I"⟩ prog_10_method_12_code 5 (some .int) ∈ lw_tbl := tb_5 (i := 176) rfl
theorem cd_X8_wordFrom : Cond.code ⟨"PulledToAHairModel", "wordFrom", "(II)I"⟩ prog_10_method_13_code 6 (some .int) ∈ lw_tbl := tb_4 (i := 196) rfl
theorem cd_X8_next : Cond.code ⟨"PulledToAHairModel", "next", "()V"⟩ prog_10_method_14_code 3 (none) ∈ lw_tbl := tb_4 (i := 189) rfl
theorem cd_X8_rank : Cond.code ⟨"PulledToAHairModel", "rank", "(I)I"⟩ prog_10_method_15_code 1 (some .int) ∈ lw_tbl := tb_4 (i := 212) rfl
theorem cd_X8_puts : Cond.code ⟨"PulledToAHairModel", "puts", "(I)V"⟩ prog_10_method_16_code 2 (none) ∈ lw_tbl := tb_4 (i := 205) rfl
theorem cd_X8_unwinds : Cond.code ⟨"PulledToAHairModel", "unwinds", "(I)V"⟩ prog_10_method_17_code 3 (none) ∈ lw_tbl := tb_4 (i := 209) rfl
theorem cd_X8_holds : Cond.code ⟨"PulledToAHairModel", "holds", "(I)V"⟩ prog_10_method_18_code 2 (none) ∈ lw_tbl := tb_4 (i := 220) rfl
theorem cd_X8_opensOne : Cond.code ⟨"PulledToAHairModel", "opensOne", "(I)Z"⟩ prog_10_method_19_code 2 (some .boolean) ∈ lw_tbl := tb_4 (i := 216) rfl
theorem cd_X8_between : Cond.code ⟨"PulledToAHairModel", "between", "(I)Z"⟩ prog_10_method_20_code 2 (some .boolean) ∈ lw_tbl := tb_4 (i := 228) rfl
theorem cd_X8_signOf : Cond.code ⟨"PulledToAHairModel", "signOf", "()I"⟩ prog_10_method_21_code 1 (some .int) ∈ lw_tbl := tb_4 (i := 224) rfl
theorem cd_X8_eRead : Cond.code ⟨"PulledToAHairModel", "eRead", "()Z"⟩ prog_10_method_22_code 4 (some .boolean) ∈ lw_tbl := tb_4 (i := 200) rfl
theorem cd_X8_text : Cond.code ⟨"PulledToAHairModel", "text", "()I"⟩ prog_10_method_23_code 3 (some .int) ∈ lw_tbl := tb_4 (i := 185) rfl
theorem cd_X8_two : Cond.code ⟨"PulledToAHairModel", "two", "(III)I"⟩ prog_10_method_24_code 3 (some .int) ∈ lw_tbl := tb_6 (i := 6) rfl
theorem cd_X8_worth : Cond.code ⟨"PulledToAHairModel", "worth", "(I)I"⟩ prog_10_method_25_code 5 (some .int) ∈ lw_tbl := tb_6 (i := 3) rfl
theorem cd_X8_force : Cond.code ⟨"PulledToAHairModel", "force", "(I)I"⟩ prog_10_method_26_code 3 (some .int) ∈ lw_tbl := tb_5 (i := 182) rfl
theorem cd_X8_step : Cond.code ⟨"PulledToAHairModel", "step", "(III)I"⟩ prog_10_method_27_code 4 (some .int) ∈ lw_tbl := tb_5 (i := 186) rfl
theorem cd_X8_forget : Cond.code ⟨"PulledToAHairModel", "forget", "()I"⟩ prog_10_method_28_code 1 (some .int) ∈ lw_tbl := tb_5 (i := 190) rfl
theorem cd_X8_takesOf : Cond.code ⟨"PulledToAHairModel", "takesOf", "(I)I"⟩ prog_10_method_29_code 2 (some .int) ∈ lw_tbl := tb_5 (i := 198) rfl
theorem cd_X8_stepTold : Cond.code ⟨"PulledToAHairModel", "stepTold", "(II)I"⟩ prog_10_method_30_code 3 (some .int) ∈ lw_tbl := tb_5 (i := 194) rfl
theorem cd_X8_thickOf : Cond.code ⟨"PulledToAHairModel", "thickOf", "(I)I"⟩ prog_10_method_31_code 2 (some .int) ∈ lw_tbl := tb_5 (i := 239) rfl
theorem cd_X8_asks : Cond.code ⟨"PulledToAHairModel", "asks", "(III)I"⟩ prog_10_method_32_code 4 (some .int) ∈ lw_tbl := tb_5 (i := 235) rfl
theorem cd_X8_allLength : Cond.code ⟨"PulledToAHairModel", "allLength", "()I"⟩ prog_10_method_33_code 3 (some .int) ∈ lw_tbl := tb_5 (i := 227) rfl
theorem cd_X8_drawsMore : Cond.code ⟨"PulledToAHairModel", "drawsMore", "()I"⟩ prog_10_method_34_code 1 (some .int) ∈ lw_tbl := tb_6 (i := 10) rfl
theorem cd_X8_draws : Cond.code ⟨"PulledToAHairModel", "draws", "(II)V"⟩ prog_10_method_35_code 7 (none) ∈ lw_tbl := tb_5 (i := 231) rfl
theorem cd_X8_keepsRow : Cond.code ⟨"PulledToAHairModel", "keepsRow", "()V"⟩ prog_10_method_36_code 2 (none) ∈ lw_tbl := tb_6 (i := 27) rfl
theorem cd_X8_bounces : Cond.code ⟨"PulledToAHairModel", "bounces", "()V"⟩ prog_10_method_37_code 4 (none) ∈ lw_tbl := tb_6 (i := 23) rfl
theorem cd_X8_doubles : Cond.code ⟨"PulledToAHairModel", "doubles", "()V"⟩ prog_10_method_38_code 5 (none) ∈ lw_tbl := tb_6 (i := 31) rfl
theorem cd_X8_cuts : Cond.code ⟨"PulledToAHairModel", "cuts", "(II)V"⟩ prog_10_method_39_code 5 (none) ∈ lw_tbl := tb_6 (i := 39) rfl
theorem cd_X8_rests : Cond.code ⟨"PulledToAHairModel", "rests", "(I)V"⟩ prog_10_method_40_code 4 (none) ∈ lw_tbl := tb_6 (i := 43) rfl
theorem cd_X8_dusts : Cond.code ⟨"PulledToAHairModel", "dusts", "(I)V"⟩ prog_10_method_41_code 2 (none) ∈ lw_tbl := tb_6 (i := 35) rfl
theorem cd_X8_makes : Cond.code ⟨"PulledToAHairModel", "makes", "(I)V"⟩ prog_10_method_42_code 2 (none) ∈ lw_tbl := tb_5 (i := 223) rfl
theorem cd_X8_begins : Cond.code ⟨"PulledToAHairModel", "begins", "()V"⟩ prog_10_method_43_code 2 (none) ∈ lw_tbl := tb_5 (i := 218) rfl
theorem cd_X8_goesBut : Cond.code ⟨"PulledToAHairModel", "goesBut", "(II)V"⟩ prog_10_method_44_code 4 (none) ∈ lw_tbl := tb_5 (i := 214) rfl
theorem cd_X8_goes : Cond.code ⟨"PulledToAHairModel", "goes", "(I)V"⟩ prog_10_method_45_code 2 (none) ∈ lw_tbl := tb_5 (i := 210) rfl
theorem cd_X8_rope : Cond.code ⟨"PulledToAHairModel", "rope", "(III)I"⟩ prog_10_method_46_code 4 (some .int) ∈ lw_tbl := tb_5 (i := 202) rfl
theorem cd_X8_least : Cond.code ⟨"PulledToAHairModel", "least", "()I"⟩ prog_10_method_47_code 3 (some .int) ∈ lw_tbl := tb_6 (i := 53) rfl
theorem cd_X8_greatest : Cond.code ⟨"PulledToAHairModel", "greatest", "()I"⟩ prog_10_method_48_code 3 (some .int) ∈ lw_tbl := tb_6 (i := 57) rfl
theorem cd_X8_spread : Cond.code ⟨"PulledToAHairModel", "spread", "()I"⟩ prog_10_method_49_code 1 (some .int) ∈ lw_tbl := tb_6 (i := 61) rfl
theorem cd_X8_doubled : Cond.code ⟨"PulledToAHairModel", "doubled", "()J"⟩ prog_10_method_50_code 4 (some .long) ∈ lw_tbl := tb_6 (i := 65) rfl
theorem cd_X8_state : Cond.code ⟨"PulledToAHairModel", "state", "(II)J"⟩ prog_10_method_51_code 5 (some .long) ∈ lw_tbl := tb_6 (i := 47) rfl
theorem cd_X8_both : Cond.code ⟨"PulledToAHairModel", "both", "(I)J"⟩ prog_10_method_52_code 2 (some .long) ∈ lw_tbl := tb_6 (i := 75) rfl
theorem cd_X8_whole : Cond.code ⟨"PulledToAHairModel", "whole", "(II)J"⟩ prog_10_method_53_code 5 (some .long) ∈ lw_tbl := tb_6 (i := 70) rfl
theorem cd_X8_stop : Cond.code ⟨"PulledToAHairModel", "stop", "(I)I"⟩ prog_10_method_54_code 3 (some .int) ∈ lw_tbl := tb_6 (i := 79) rfl
theorem cd_X8_worst : Cond.code ⟨"PulledToAHairModel", "worst", "()I"⟩ prog_10_method_55_code 7 (some .int) ∈ lw_tbl := tb_6 (i := 83) rfl
theorem cd_X8_some : Cond.code ⟨"PulledToAHairModel", "some", "(I)J"⟩ prog_10_method_56_code 1 (some .long) ∈ lw_tbl := tb_6 (i := 90) rfl
theorem cd_X8_window : Cond.code ⟨"PulledToAHairModel", "window", "(II)I"⟩ prog_10_method_57_code 7 (some .int) ∈ lw_tbl := tb_6 (i := 87) rfl
theorem cd_X8_pace : Cond.code ⟨"PulledToAHairModel", "pace", "(III)I"⟩ prog_10_method_58_code 10 (some .int) ∈ lw_tbl := tb_6 (i := 94) rfl
theorem cd_X8_rest : Cond.code ⟨"PulledToAHairModel", "rest", "(III)I"⟩ prog_10_method_59_code 7 (some .int) ∈ lw_tbl := tb_6 (i := 98) rfl
theorem cd_X8_dust : Cond.code ⟨"PulledToAHairModel", "dust", "(II)I"⟩ prog_10_method_60_code 6 (some .int) ∈ lw_tbl := tb_6 (i := 102) rfl
theorem cd_X8_doublings : Cond.code ⟨"PulledToAHairModel", "doublings", "(III)I"⟩ prog_10_method_61_code 5 (some .int) ∈ lw_tbl := tb_6 (i := 106) rfl
theorem cd_X8_sheetWrong : Cond.code ⟨"PulledToAHairModel", "sheetWrong", "(I)I"⟩ prog_10_method_62_code 2 (some .int) ∈ lw_tbl := tb_6 (i := 114) rfl
theorem cd_X8_offFrom : Cond.code ⟨"PulledToAHairModel", "offFrom", "(II)I"⟩ prog_10_method_63_code 6 (some .int) ∈ lw_tbl := tb_6 (i := 118) rfl
theorem cd_X8_judge : Cond.code ⟨"PulledToAHairModel", "judge", "(III)I"⟩ prog_10_method_64_code 5 (some .int) ∈ lw_tbl := tb_6 (i := 110) rfl
theorem cd_X8_film : Cond.code ⟨"PulledToAHairModel", "film", "(II)I"⟩ prog_10_method_65_code 4 (some .int) ∈ lw_tbl := tb_6 (i := 122) rfl
theorem cd_X8_serves : Cond.code ⟨"PulledToAHairModel", "serves", "(III)I"⟩ prog_10_method_66_code 8 (some .int) ∈ lw_tbl := tb_6 (i := 126) rfl
theorem cd_X8_which : Cond.code ⟨"PulledToAHairModel", "which", "(II)I"⟩ prog_10_method_67_code 7 (some .int) ∈ lw_tbl := tb_6 (i := 130) rfl
theorem cd_X8_fault : Cond.code ⟨"PulledToAHairModel", "fault", "(II)I"⟩ prog_10_method_68_code 5 (some .int) ∈ lw_tbl := tb_6 (i := 134) rfl
theorem cd_X8_uneven : Cond.code ⟨"PulledToAHairModel", "uneven", "(II)I"⟩ prog_10_method_69_code 9 (some .int) ∈ lw_tbl := tb_6 (i := 138) rfl
theorem cd_X8_cooked : Cond.code ⟨"PulledToAHairModel", "cooked", "(II)I"⟩ prog_10_method_70_code 7 (some .int) ∈ lw_tbl := tb_6 (i := 149) rfl
theorem cd_X8_cooks : Cond.code ⟨"PulledToAHairModel", "cooks", "(III)I"⟩ prog_10_method_71_code 4 (some .int) ∈ lw_tbl := tb_6 (i := 145) rfl
theorem cd_X8_pot : Cond.code ⟨"PulledToAHairModel", "pot", "(I)I"⟩ prog_10_method_72_code 7 (some .int) ∈ lw_tbl := tb_6 (i := 153) rfl
theorem cd_X8_isSpot : Cond.code ⟨"PulledToAHairModel", "isSpot", "(I)Z"⟩ prog_10_method_73_code 1 (some .boolean) ∈ lw_tbl := tb_6 (i := 160) rfl
theorem cd_X8_doubledOnce : Cond.code ⟨"PulledToAHairModel", "doubledOnce", "(I)I"⟩ prog_10_method_74_code 1 (some .int) ∈ lw_tbl := tb_6 (i := 166) rfl
theorem cd_X8_behind : Cond.code ⟨"PulledToAHairModel", "behind", "(II)I"⟩ prog_10_method_75_code 4 (some .int) ∈ lw_tbl := tb_6 (i := 163) rfl
theorem cd_X8_place : Cond.code ⟨"PulledToAHairModel", "place", "(II)I"⟩ prog_10_method_76_code 3 (some .int) ∈ lw_tbl := tb_6 (i := 157) rfl
theorem cd_X8_apart : Cond.code ⟨"PulledToAHairModel", "apart", "(III)I"⟩ prog_10_method_77_code 4 (some .int) ∈ lw_tbl := tb_6 (i := 170) rfl
theorem cd_X8_parted : Cond.code ⟨"PulledToAHairModel", "parted", "(III)I"⟩ prog_10_method_78_code 5 (some .int) ∈ lw_tbl := tb_6 (i := 174) rfl
theorem cd_X8_round : Cond.code ⟨"PulledToAHairModel", "round", "(I)I"⟩ prog_10_method_79_code 3 (some .int) ∈ lw_tbl := tb_6 (i := 178) rfl
theorem cd_X8_colours : Cond.code ⟨"PulledToAHairModel", "colours", "(III)I"⟩ prog_10_method_80_code 8 (some .int) ∈ lw_tbl := tb_6 (i := 182) rfl
theorem cd_X8_lowest : Cond.code ⟨"PulledToAHairModel", "lowest", "(JJI)J"⟩ prog_10_method_81_code 11 (some .long) ∈ lw_tbl := tb_6 (i := 194) rfl
theorem cd_X8_power : Cond.code ⟨"PulledToAHairModel", "power", "(JI)J"⟩ prog_10_method_82_code 6 (some .long) ∈ lw_tbl := tb_6 (i := 191) rfl
theorem cd_X8_thin : Cond.code ⟨"PulledToAHairModel", "thin", "(III)J"⟩ prog_10_method_83_code 4 (some .long) ∈ lw_tbl := tb_6 (i := 187) rfl
theorem cd_X8_areOdds : Cond.code ⟨"PulledToAHairModel", "areOdds", "(II)Z"⟩ prog_10_method_84_code 2 (some .boolean) ∈ lw_tbl := tb_6 (i := 201) rfl
theorem cd_X8_odds : Cond.code ⟨"PulledToAHairModel", "odds", "(IIII)J"⟩ prog_10_method_85_code 5 (some .long) ∈ lw_tbl := tb_6 (i := 198) rfl
theorem cd_X8_record : Cond.code ⟨"PulledToAHairModel", "record", "(III)I"⟩ prog_10_method_86_code 6 (some .int) ∈ lw_tbl := tb_6 (i := 205) rfl
theorem cd_X8_drawn : Cond.code ⟨"PulledToAHairModel", "drawn", "(IIII)I"⟩ prog_10_method_87_code 5 (some .int) ∈ lw_tbl := tb_6 (i := 209) rfl
theorem cd_X8_image : Cond.code ⟨"PulledToAHairModel", "image", "()I"⟩ prog_10_method_88_code 2 (some .int) ∈ lw_tbl := tb_6 (i := 213) rfl
theorem cd_X8_back : Cond.code ⟨"PulledToAHairModel", "back", "()I"⟩ prog_10_method_89_code 2 (some .int) ∈ lw_tbl := tb_6 (i := 217) rfl
theorem cd_X8_sheet : Cond.code ⟨"PulledToAHairModel", "sheet", "(III)I"⟩ prog_10_method_90_code 5 (some .int) ∈ lw_tbl := tb_6 (i := 221) rfl
theorem cd_X8_cell : Cond.code ⟨"PulledToAHairModel", "cell", "(III)I"⟩ prog_10_method_91_code 4 (some .int) ∈ lw_tbl := tb_6 (i := 225) rfl
theorem cd_X8_copy : Cond.code ⟨"PulledToAHairModel", "copy", "(IIIII)I"⟩ prog_10_method_92_code 10 (some .int) ∈ lw_tbl := tb_6 (i := 229) rfl
theorem cd_X8_stepsBy : Cond.code ⟨"PulledToAHairModel", "stepsBy", "(IIII)I"⟩ prog_10_method_93_code 9 (some .int) ∈ lw_tbl := tb_6 (i := 233) rfl
theorem cd_X8_isUnder : Cond.code ⟨"PulledToAHairModel", "isUnder", "(II)Z"⟩ prog_10_method_94_code 2 (some .boolean) ∈ lw_tbl := tb_7 (i := 1) rfl
theorem cd_X8_taken : Cond.code ⟨"PulledToAHairModel", "taken", "(II)I"⟩ prog_10_method_95_code 3 (some .int) ∈ lw_tbl := tb_6 (i := 238) rfl
theorem cd_J0_length_8abf5 : Cond.code ⟨"java/lang/String", "length", "()I"⟩ prog_13_method_54_code 1 (some .int) ∈ lw_tbl := tb_1 (i := 230) rfl
theorem cd_J0_charAt_5068e : Cond.code ⟨"java/lang/String", "charAt", "(I)C"⟩ prog_13_method_56_code 2 (some .char) ∈ lw_tbl := tb_2 (i := 0) rfl
theorem cd_J0_indexOf_0f7a4 : Cond.code ⟨"java/lang/String", "indexOf", "(I)I"⟩ prog_13_method_79_code 2 (some .int) ∈ lw_tbl := tb_2 (i := 83) rfl
theorem cd_J0_indexOf_7cf53 : Cond.code ⟨"java/lang/String", "indexOf", "(II)I"⟩ prog_13_method_80_code 3 (some .int) ∈ lw_tbl := tb_2 (i := 87) rfl
theorem cd_J0_coder_7d493 : Cond.code ⟨"java/lang/String", "coder", "()B"⟩ prog_13_method_152_code 1 (some .byte) ∈ lw_tbl := tb_1 (i := 234) rfl
theorem cd_J0_isLatin1_aae02 : Cond.code ⟨"java/lang/String", "isLatin1", "()Z"⟩ prog_13_method_154_code 1 (some .boolean) ∈ lw_tbl := tb_2 (i := 4) rfl
theorem cd_J0_checkIndex_df160 : Cond.code ⟨"java/lang/String", "checkIndex", "(II)V"⟩ prog_13_method_155_code 2 (none) ∈ lw_tbl := tb_2 (i := 10) rfl
theorem cd_J1_charAt_3b067 : Cond.code ⟨"java/lang/StringLatin1", "charAt", "([BI)C"⟩ prog_14_method_2_code 2 (some .char) ∈ lw_tbl := tb_2 (i := 7) rfl
theorem cd_J1_canEncode_9a6ad : Cond.code ⟨"java/lang/StringLatin1", "canEncode", "(I)Z"⟩ prog_14_method_4_code 1 (some .boolean) ∈ lw_tbl := tb_2 (i := 94) rfl
theorem cd_J1_indexOf_4cfef : Cond.code ⟨"java/lang/StringLatin1", "indexOf", "([BIII)I"⟩ prog_14_method_22_code 4 (some .int) ∈ lw_tbl := tb_2 (i := 91) rfl
theorem cd_J1_indexOfChar_4cfef : Cond.code ⟨"java/lang/StringLatin1", "indexOfChar", "([BIII)I"⟩ prog_14_method_23_code 6 (some .int) ∈ lw_tbl := tb_2 (i := 103) rfl
theorem cd_J3_checkIndex_8e157 : Cond.code ⟨"jdk/internal/util/Preconditions", "checkIndex", "(IILjava/util/function/BiFunction;)I"⟩ prog_17_method_11_code 3 (some .int) ∈ lw_tbl := tb_2 (i := 15) rfl
set_option maxRecDepth 100000 in
theorem code_all : ∀ M ∈ [M_X0_init, M_X0_become, M_X1_init, M_X1_wander, M_X1_ease, M_X1_tears, M_X1_sticks, M_X1_says, M_X2_init, M_X2_add, M_X2_empty, M_X2_read, M_X2_readEither, M_X2_readBoth, M_X2_readNot, M_X2_readCompared, M_X2_readSum, M_X2_readProduct, M_X2_readOne, M_X2_advance, M_X2_byteAt, M_X2_isLetter, M_X2_isDigit, M_X2_readNumber, M_X2_readWord, M_X2_isWord, M_X3_init, M_X3_begin, M_X3_become, M_X3_make, M_X3_relax, M_X3_draw, M_X3_lengthen, M_X3_bounce, M_X3_fold, M_X3_foldRow, M_X3_powder, M_X3_cutEnd, M_X3_thick, M_X3_thinnest, M_X3_thickest, M_X3_spread, M_X3_isMoreEvenThan, M_X3_allLength, M_X3_tenths, M_X3_goodParts, M_X3_cooked, M_X3_firstOff, M_X3_isAsTold, M_X4_init, M_X4_become, M_X4_has, M_X4_put, M_X5_init, M_X5_become, M_X5_takes, M_X5_isA, M_X6_init, M_X6_clear, M_X6_nameCode, M_X6_add, M_X6_endSection, M_X6_value, M_X6_named, M_X6_joined, M_X7_init, M_X7_roll, M_X7_set, M_X7_count, M_X7_feed, M_X7_text, M_X7_force, M_X7_step, M_X7_forget, M_X7_stepTold, M_X7_rope, M_X7_state, M_X7_whole, M_X7_stop, M_X7_worst, M_X7_window, M_X7_pace, M_X7_rest, M_X7_dust, M_X7_doublings, M_X7_judge, M_X7_film, M_X7_serves, M_X7_which, M_X7_fault, M_X7_uneven, M_X7_cooks, M_X7_pot, M_X7_place, M_X7_apart, M_X7_parted, M_X7_round, M_X7_colours, M_X7_thin, M_X7_odds, M_X7_record, M_X7_drawn, M_X7_image, M_X7_back, M_X7_sheet, M_X7_cell, M_X7_copy, M_X7_stepsBy, M_X7_taken, M_X7_within, M_X7_quotient, M_X7_isStep, M_X7_areSteps, M_X7_isSheet, M_X7_isPlace, M_X7_areOdds, M_X7_refusalOfTest, M_X7_make, M_X7_tryDrawing, M_X7_allTake, M_X7_placeBehind, M_X7_colour, M_X7_multiplied, M_X7_inLowestTerms, M_X8_init, M_X8_in, M_X8_isCell, M_X8_areSteps, M_X8_size, M_X8_within, M_X8_roll, M_X8_set, M_X8_holds0, M_X8_count, M_X8_feed, M_X8_wordFrom, M_X8_next, M_X8_rank, M_X8_puts, M_X8_unwinds, M_X8_holds, M_X8_opensOne, M_X8_between, M_X8_signOf, M_X8_eRead, M_X8_text, M_X8_two, M_X8_worth, M_X8_force, M_X8_step, M_X8_forget, M_X8_takesOf, M_X8_stepTold, M_X8_thickOf, M_X8_asks, M_X8_allLength, M_X8_drawsMore, M_X8_draws, M_X8_keepsRow, M_X8_bounces, M_X8_doubles, M_X8_cuts, M_X8_rests, M_X8_dusts, M_X8_makes, M_X8_begins, M_X8_goesBut, M_X8_goes, M_X8_rope, M_X8_least, M_X8_greatest, M_X8_spread, M_X8_doubled, M_X8_state, M_X8_both, M_X8_whole, M_X8_stop, M_X8_worst, M_X8_some, M_X8_window, M_X8_pace, M_X8_rest, M_X8_dust, M_X8_doublings, M_X8_sheetWrong, M_X8_offFrom, M_X8_judge, M_X8_film, M_X8_serves, M_X8_which, M_X8_fault, M_X8_uneven, M_X8_cooked, M_X8_cooks, M_X8_pot, M_X8_isSpot, M_X8_doubledOnce, M_X8_behind, M_X8_place, M_X8_apart, M_X8_parted, M_X8_round, M_X8_colours, M_X8_lowest, M_X8_power, M_X8_thin, M_X8_areOdds, M_X8_odds, M_X8_record, M_X8_drawn, M_X8_image, M_X8_back, M_X8_sheet, M_X8_cell, M_X8_copy, M_X8_stepsBy, M_X8_isUnder, M_X8_taken, M_J0_length_8abf5, M_J0_charAt_5068e, M_J0_indexOf_0f7a4, M_J0_indexOf_7cf53, M_J0_coder_7d493, M_J0_isLatin1_aae02, M_J0_checkIndex_df160, M_J1_charAt_3b067, M_J1_canEncode_9a6ad, M_J1_indexOf_4cfef, M_J1_indexOfChar_4cfef, M_J3_checkIndex_8e157], Cond.code M.2.2.1 M.2.2.2.1 M.2.2.2.2.1 M.2.2.2.2.2.1 ∈ lw_tbl :=
  List.forall_mem_cons.mpr ⟨cd_X0_init, (List.forall_mem_cons.mpr ⟨cd_X0_become, (List.forall_mem_cons.mpr ⟨cd_X1_init, (List.forall_mem_cons.mpr ⟨cd_X1_wander, (List.forall_mem_cons.mpr ⟨cd_X1_ease, (List.forall_mem_cons.mpr ⟨cd_X1_tears, (List.forall_mem_cons.mpr ⟨cd_X1_sticks, (List.forall_mem_cons.mpr ⟨cd_X1_says, (List.forall_mem_cons.mpr ⟨cd_X2_init, (List.forall_mem_cons.mpr ⟨cd_X2_add, (List.forall_mem_cons.mpr ⟨cd_X2_empty, (List.forall_mem_cons.mpr ⟨cd_X2_read, (List.forall_mem_cons.mpr ⟨cd_X2_readEither, (List.forall_mem_cons.mpr ⟨cd_X2_readBoth, (List.forall_mem_cons.mpr ⟨cd_X2_readNot, (List.forall_mem_cons.mpr ⟨cd_X2_readCompared, (List.forall_mem_cons.mpr ⟨cd_X2_readSum, (List.forall_mem_cons.mpr ⟨cd_X2_readProduct, (List.forall_mem_cons.mpr ⟨cd_X2_readOne, (List.forall_mem_cons.mpr ⟨cd_X2_advance, (List.forall_mem_cons.mpr ⟨cd_X2_byteAt, (List.forall_mem_cons.mpr ⟨cd_X2_isLetter, (List.forall_mem_cons.mpr ⟨cd_X2_isDigit, (List.forall_mem_cons.mpr ⟨cd_X2_readNumber, (List.forall_mem_cons.mpr ⟨cd_X2_readWord, (List.forall_mem_cons.mpr ⟨cd_X2_isWord, (List.forall_mem_cons.mpr ⟨cd_X3_init, (List.forall_mem_cons.mpr ⟨cd_X3_begin, (List.forall_mem_cons.mpr ⟨cd_X3_become, (List.forall_mem_cons.mpr ⟨cd_X3_make, (List.forall_mem_cons.mpr ⟨cd_X3_relax, (List.forall_mem_cons.mpr ⟨cd_X3_draw, (List.forall_mem_cons.mpr ⟨cd_X3_lengthen, (List.forall_mem_cons.mpr ⟨cd_X3_bounce, (List.forall_mem_cons.mpr ⟨cd_X3_fold, (List.forall_mem_cons.mpr ⟨cd_X3_foldRow, (List.forall_mem_cons.mpr ⟨cd_X3_powder, (List.forall_mem_cons.mpr ⟨cd_X3_cutEnd, (List.forall_mem_cons.mpr ⟨cd_X3_thick, (List.forall_mem_cons.mpr ⟨cd_X3_thinnest, (List.forall_mem_cons.mpr ⟨cd_X3_thickest, (List.forall_mem_cons.mpr ⟨cd_X3_spread, (List.forall_mem_cons.mpr ⟨cd_X3_isMoreEvenThan, (List.forall_mem_cons.mpr ⟨cd_X3_allLength, (List.forall_mem_cons.mpr ⟨cd_X3_tenths, (List.forall_mem_cons.mpr ⟨cd_X3_goodParts, (List.forall_mem_cons.mpr ⟨cd_X3_cooked, (List.forall_mem_cons.mpr ⟨cd_X3_firstOff, (List.forall_mem_cons.mpr ⟨cd_X3_isAsTold, (List.forall_mem_cons.mpr ⟨cd_X4_init, (List.forall_mem_cons.mpr ⟨cd_X4_become, (List.forall_mem_cons.mpr ⟨cd_X4_has, (List.forall_mem_cons.mpr ⟨cd_X4_put, (List.forall_mem_cons.mpr ⟨cd_X5_init, (List.forall_mem_cons.mpr ⟨cd_X5_become, (List.forall_mem_cons.mpr ⟨cd_X5_takes, (List.forall_mem_cons.mpr ⟨cd_X5_isA, (List.forall_mem_cons.mpr ⟨cd_X6_init, (List.forall_mem_cons.mpr ⟨cd_X6_clear, (List.forall_mem_cons.mpr ⟨cd_X6_nameCode, (List.forall_mem_cons.mpr ⟨cd_X6_add, (List.forall_mem_cons.mpr ⟨cd_X6_endSection, (List.forall_mem_cons.mpr ⟨cd_X6_value, (List.forall_mem_cons.mpr ⟨cd_X6_named, (List.forall_mem_cons.mpr ⟨cd_X6_joined, (List.forall_mem_cons.mpr ⟨cd_X7_init, (List.forall_mem_cons.mpr ⟨cd_X7_roll, (List.forall_mem_cons.mpr ⟨cd_X7_set, (List.forall_mem_cons.mpr ⟨cd_X7_count, (List.forall_mem_cons.mpr ⟨cd_X7_feed, (List.forall_mem_cons.mpr ⟨cd_X7_text, (List.forall_mem_cons.mpr ⟨cd_X7_force, (List.forall_mem_cons.mpr ⟨cd_X7_step, (List.forall_mem_cons.mpr ⟨cd_X7_forget, (List.forall_mem_cons.mpr ⟨cd_X7_stepTold, (List.forall_mem_cons.mpr ⟨cd_X7_rope, (List.forall_mem_cons.mpr ⟨cd_X7_state, (List.forall_mem_cons.mpr ⟨cd_X7_whole, (List.forall_mem_cons.mpr ⟨cd_X7_stop, (List.forall_mem_cons.mpr ⟨cd_X7_worst, (List.forall_mem_cons.mpr ⟨cd_X7_window, (List.forall_mem_cons.mpr ⟨cd_X7_pace, (List.forall_mem_cons.mpr ⟨cd_X7_rest, (List.forall_mem_cons.mpr ⟨cd_X7_dust, (List.forall_mem_cons.mpr ⟨cd_X7_doublings, (List.forall_mem_cons.mpr ⟨cd_X7_judge, (List.forall_mem_cons.mpr ⟨cd_X7_film, (List.forall_mem_cons.mpr ⟨cd_X7_serves, (List.forall_mem_cons.mpr ⟨cd_X7_which, (List.forall_mem_cons.mpr ⟨cd_X7_fault, (List.forall_mem_cons.mpr ⟨cd_X7_uneven, (List.forall_mem_cons.mpr ⟨cd_X7_cooks, (List.forall_mem_cons.mpr ⟨cd_X7_pot, (List.forall_mem_cons.mpr ⟨cd_X7_place, (List.forall_mem_cons.mpr ⟨cd_X7_apart, (List.forall_mem_cons.mpr ⟨cd_X7_parted, (List.forall_mem_cons.mpr ⟨cd_X7_round, (List.forall_mem_cons.mpr ⟨cd_X7_colours, (List.forall_mem_cons.mpr ⟨cd_X7_thin, (List.forall_mem_cons.mpr ⟨cd_X7_odds, (List.forall_mem_cons.mpr ⟨cd_X7_record, (List.forall_mem_cons.mpr ⟨cd_X7_drawn, (List.forall_mem_cons.mpr ⟨cd_X7_image, (List.forall_mem_cons.mpr ⟨cd_X7_back, (List.forall_mem_cons.mpr ⟨cd_X7_sheet, (List.forall_mem_cons.mpr ⟨cd_X7_cell, (List.forall_mem_cons.mpr ⟨cd_X7_copy, (List.forall_mem_cons.mpr ⟨cd_X7_stepsBy, (List.forall_mem_cons.mpr ⟨cd_X7_taken, (List.forall_mem_cons.mpr ⟨cd_X7_within, (List.forall_mem_cons.mpr ⟨cd_X7_quotient, (List.forall_mem_cons.mpr ⟨cd_X7_isStep, (List.forall_mem_cons.mpr ⟨cd_X7_areSteps, (List.forall_mem_cons.mpr ⟨cd_X7_isSheet, (List.forall_mem_cons.mpr ⟨cd_X7_isPlace, (List.forall_mem_cons.mpr ⟨cd_X7_areOdds, (List.forall_mem_cons.mpr ⟨cd_X7_refusalOfTest, (List.forall_mem_cons.mpr ⟨cd_X7_make, (List.forall_mem_cons.mpr ⟨cd_X7_tryDrawing, (List.forall_mem_cons.mpr ⟨cd_X7_allTake, (List.forall_mem_cons.mpr ⟨cd_X7_placeBehind, (List.forall_mem_cons.mpr ⟨cd_X7_colour, (List.forall_mem_cons.mpr ⟨cd_X7_multiplied, (List.forall_mem_cons.mpr ⟨cd_X7_inLowestTerms, (List.forall_mem_cons.mpr ⟨cd_X8_init, (List.forall_mem_cons.mpr ⟨cd_X8_in, (List.forall_mem_cons.mpr ⟨cd_X8_isCell, (List.forall_mem_cons.mpr ⟨cd_X8_areSteps, (List.forall_mem_cons.mpr ⟨cd_X8_size, (List.forall_mem_cons.mpr ⟨cd_X8_within, (List.forall_mem_cons.mpr ⟨cd_X8_roll, (List.forall_mem_cons.mpr ⟨cd_X8_set, (List.forall_mem_cons.mpr ⟨cd_X8_holds0, (List.forall_mem_cons.mpr ⟨cd_X8_count, (List.forall_mem_cons.mpr ⟨cd_X8_feed, (List.forall_mem_cons.mpr ⟨cd_X8_wordFrom, (List.forall_mem_cons.mpr ⟨cd_X8_next, (List.forall_mem_cons.mpr ⟨cd_X8_rank, (List.forall_mem_cons.mpr ⟨cd_X8_puts, (List.forall_mem_cons.mpr ⟨cd_X8_unwinds, (List.forall_mem_cons.mpr ⟨cd_X8_holds, (List.forall_mem_cons.mpr ⟨cd_X8_opensOne, (List.forall_mem_cons.mpr ⟨cd_X8_between, (List.forall_mem_cons.mpr ⟨cd_X8_signOf, (List.forall_mem_cons.mpr ⟨cd_X8_eRead, (List.forall_mem_cons.mpr ⟨cd_X8_text, (List.forall_mem_cons.mpr ⟨cd_X8_two, (List.forall_mem_cons.mpr ⟨cd_X8_worth, (List.forall_mem_cons.mpr ⟨cd_X8_force, (List.forall_mem_cons.mpr ⟨cd_X8_step, (List.forall_mem_cons.mpr ⟨cd_X8_forget, (List.forall_mem_cons.mpr ⟨cd_X8_takesOf, (List.forall_mem_cons.mpr ⟨cd_X8_stepTold, (List.forall_mem_cons.mpr ⟨cd_X8_thickOf, (List.forall_mem_cons.mpr ⟨cd_X8_asks, (List.forall_mem_cons.mpr ⟨cd_X8_allLength, (List.forall_mem_cons.mpr ⟨cd_X8_drawsMore, (List.forall_mem_cons.mpr ⟨cd_X8_draws, (List.forall_mem_cons.mpr ⟨cd_X8_keepsRow, (List.forall_mem_cons.mpr ⟨cd_X8_bounces, (List.forall_mem_cons.mpr ⟨cd_X8_doubles, (List.forall_mem_cons.mpr ⟨cd_X8_cuts, (List.forall_mem_cons.mpr ⟨cd_X8_rests, (List.forall_mem_cons.mpr ⟨cd_X8_dusts, (List.forall_mem_cons.mpr ⟨cd_X8_makes, (List.forall_mem_cons.mpr ⟨cd_X8_begins, (List.forall_mem_cons.mpr ⟨cd_X8_goesBut, (List.forall_mem_cons.mpr ⟨cd_X8_goes, (List.forall_mem_cons.mpr ⟨cd_X8_rope, (List.forall_mem_cons.mpr ⟨cd_X8_least, (List.forall_mem_cons.mpr ⟨cd_X8_greatest, (List.forall_mem_cons.mpr ⟨cd_X8_spread, (List.forall_mem_cons.mpr ⟨cd_X8_doubled, (List.forall_mem_cons.mpr ⟨cd_X8_state, (List.forall_mem_cons.mpr ⟨cd_X8_both, (List.forall_mem_cons.mpr ⟨cd_X8_whole, (List.forall_mem_cons.mpr ⟨cd_X8_stop, (List.forall_mem_cons.mpr ⟨cd_X8_worst, (List.forall_mem_cons.mpr ⟨cd_X8_some, (List.forall_mem_cons.mpr ⟨cd_X8_window, (List.forall_mem_cons.mpr ⟨cd_X8_pace, (List.forall_mem_cons.mpr ⟨cd_X8_rest, (List.forall_mem_cons.mpr ⟨cd_X8_dust, (List.forall_mem_cons.mpr ⟨cd_X8_doublings, (List.forall_mem_cons.mpr ⟨cd_X8_sheetWrong, (List.forall_mem_cons.mpr ⟨cd_X8_offFrom, (List.forall_mem_cons.mpr ⟨cd_X8_judge, (List.forall_mem_cons.mpr ⟨cd_X8_film, (List.forall_mem_cons.mpr ⟨cd_X8_serves, (List.forall_mem_cons.mpr ⟨cd_X8_which, (List.forall_mem_cons.mpr ⟨cd_X8_fault, (List.forall_mem_cons.mpr ⟨cd_X8_uneven, (List.forall_mem_cons.mpr ⟨cd_X8_cooked, (List.forall_mem_cons.mpr ⟨cd_X8_cooks, (List.forall_mem_cons.mpr ⟨cd_X8_pot, (List.forall_mem_cons.mpr ⟨cd_X8_isSpot, (List.forall_mem_cons.mpr ⟨cd_X8_doubledOnce, (List.forall_mem_cons.mpr ⟨cd_X8_behind, (List.forall_mem_cons.mpr ⟨cd_X8_place, (List.forall_mem_cons.mpr ⟨cd_X8_apart, (List.forall_mem_cons.mpr ⟨cd_X8_parted, (List.forall_mem_cons.mpr ⟨cd_X8_round, (List.forall_mem_cons.mpr ⟨cd_X8_colours, (List.forall_mem_cons.mpr ⟨cd_X8_lowest, (List.forall_mem_cons.mpr ⟨cd_X8_power, (List.forall_mem_cons.mpr ⟨cd_X8_thin, (List.forall_mem_cons.mpr ⟨cd_X8_areOdds, (List.forall_mem_cons.mpr ⟨cd_X8_odds, (List.forall_mem_cons.mpr ⟨cd_X8_record, (List.forall_mem_cons.mpr ⟨cd_X8_drawn, (List.forall_mem_cons.mpr ⟨cd_X8_image, (List.forall_mem_cons.mpr ⟨cd_X8_back, (List.forall_mem_cons.mpr ⟨cd_X8_sheet, (List.forall_mem_cons.mpr ⟨cd_X8_cell, (List.forall_mem_cons.mpr ⟨cd_X8_copy, (List.forall_mem_cons.mpr ⟨cd_X8_stepsBy, (List.forall_mem_cons.mpr ⟨cd_X8_isUnder, (List.forall_mem_cons.mpr ⟨cd_X8_taken, (List.forall_mem_cons.mpr ⟨cd_J0_length_8abf5, (List.forall_mem_cons.mpr ⟨cd_J0_charAt_5068e, (List.forall_mem_cons.mpr ⟨cd_J0_indexOf_0f7a4, (List.forall_mem_cons.mpr ⟨cd_J0_indexOf_7cf53, (List.forall_mem_cons.mpr ⟨cd_J0_coder_7d493, (List.forall_mem_cons.mpr ⟨cd_J0_isLatin1_aae02, (List.forall_mem_cons.mpr ⟨cd_J0_checkIndex_df160, (List.forall_mem_cons.mpr ⟨cd_J1_charAt_3b067, (List.forall_mem_cons.mpr ⟨cd_J1_canEncode_9a6ad, (List.forall_mem_cons.mpr ⟨cd_J1_indexOf_4cfef, (List.forall_mem_cons.mpr ⟨cd_J1_indexOfChar_4cfef, (List.forall_mem_cons.mpr ⟨cd_J3_checkIndex_8e157, fun _ h => absurd h List.not_mem_nil⟩)⟩)⟩)⟩)⟩)⟩)⟩)⟩)⟩)⟩)⟩)⟩)⟩)⟩)⟩)⟩)⟩)⟩)⟩)⟩)⟩)⟩)⟩)⟩)⟩)⟩)⟩)⟩)⟩)⟩)⟩)⟩)⟩)⟩)⟩)⟩)⟩)⟩)⟩)⟩)⟩)⟩)⟩)⟩)⟩)⟩)⟩)⟩)⟩)⟩)⟩)⟩)⟩)⟩)⟩)⟩)⟩)⟩)⟩)⟩)⟩)⟩)⟩)⟩)⟩)⟩)⟩)⟩)⟩)⟩)⟩)⟩)⟩)⟩)⟩)⟩)⟩)⟩)⟩)⟩)⟩)⟩)⟩)⟩)⟩)⟩)⟩)⟩)⟩)⟩)⟩)⟩)⟩)⟩)⟩)⟩)⟩)⟩)⟩)⟩)⟩)⟩)⟩)⟩)⟩)⟩)⟩)⟩)⟩)⟩)⟩)⟩)⟩)⟩)⟩)⟩)⟩)⟩)⟩)⟩)⟩)⟩)⟩)⟩)⟩)⟩)⟩)⟩)⟩)⟩)⟩)⟩)⟩)⟩)⟩)⟩)⟩)⟩)⟩)⟩)⟩)⟩)⟩)⟩)⟩)⟩)⟩)⟩)⟩)⟩)⟩)⟩)⟩)⟩)⟩)⟩)⟩)⟩)⟩)⟩)⟩)⟩)⟩)⟩)⟩)⟩)⟩)⟩)⟩)⟩)⟩)⟩)⟩)⟩)⟩)⟩)⟩)⟩)⟩)⟩)⟩)⟩)⟩)⟩)⟩)⟩)⟩)⟩)⟩)⟩)⟩)⟩)⟩)⟩)⟩)⟩)⟩)⟩)⟩)⟩)⟩)⟩)⟩)⟩)⟩)⟩)⟩)⟩)⟩)⟩)⟩)⟩)⟩)⟩)⟩)⟩)⟩)⟩)⟩)⟩)⟩)⟩)⟩)⟩)⟩)⟩)⟩)⟩)⟩)⟩
theorem cm_abs : Cond.code Lib.Math.abs.name Lib.Math.abs.code 1 (some .int) ∈ lw_tbl := tb_4 (i := 64) rfl
theorem cm_max : Cond.code Lib.Math.max.name Lib.Math.max.code 2 (some .int) ∈ lw_tbl := tb_2 (i := 97) rfl
theorem cm_maxl : Cond.code Lib.MathLoose.max_long.x Lib.MathLoose.max_long.code 4 (some .long) ∈ lw_tbl := tb_3 (i := 112) rfl
theorem cm_min : Cond.code Lib.Math.min.name Lib.Math.min.code 2 (some .int) ∈ lw_tbl := tb_2 (i := 100) rfl
theorem cm_minl : Cond.code Lib.MathLoose.min_long.x Lib.MathLoose.min_long.code 4 (some .long) ∈ lw_tbl := tb_3 (i := 109) rfl
theorem ckM_0 : ((minf.drop 1).take 40).all chkM = true := by decide +kernel
theorem ckM_40 : ((minf.drop 41).take 40).all chkM = true := by decide +kernel
theorem ckM_80 : ((minf.drop 81).take 40).all chkM = true := by decide +kernel
theorem ckM_120 : ((minf.drop 121).take 40).all chkM = true := by decide +kernel
theorem ckM_160 : ((minf.drop 161).take 40).all chkM = true := by decide +kernel
theorem ckM_200 : ((minf.drop 201).take 40).all chkM = true := by decide +kernel
