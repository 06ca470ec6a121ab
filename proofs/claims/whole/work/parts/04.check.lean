/-! THE CHECK of the program: every row of it is what the code decodes to, and its words stand in the tables -/
def strL : List (String × Nat × Nat × String) := [("PulledToAHair", 89, 1, tx1), ("PulledToAHair$Reader", 102, 2, tx2), ("PulledToAHair$Reader", 88, 3, tx3)]
def nestM (own : String) (idx : Nat) (y : MethodName) : Cond := .methodLinkNest own idx y "PulledToAHair"
def nestW : List Cond := [
  nestM "PulledToAHair" 36 ⟨"PulledToAHair$Reader", "<init>", "()V"⟩, nestM "PulledToAHair" 65 ⟨"PulledToAHair$Step", "<init>", "()V"⟩,
  nestM "PulledToAHair" 66 ⟨"PulledToAHair$Text", "<init>", "()V"⟩, nestM "PulledToAHair" 67 ⟨"PulledToAHair$Sheet", "<init>", "()V"⟩,
  nestM "PulledToAHair$Reader" 95 ⟨"PulledToAHair", "within", "(III)Z"⟩, nestM "PulledToAHair$Text" 25 ⟨"PulledToAHair", "within", "(III)Z"⟩,
  nestM "PulledToAHair$Rope" 115 ⟨"PulledToAHair", "quotient", "(JJ)J"⟩, nestM "PulledToAHair$Step" 21 ⟨"PulledToAHair", "within", "(III)Z"⟩]
def nestF : Cond := .fieldLinkNest "PulledToAHair$Step" 25 "PulledToAHair" "IS_A" "[I" "PulledToAHair"
def ilen (i : Ins) (d : Nat) : Nat := match i with
  | .aload _ => 2 | .iload _ => 2 | .lload _ => 2 | .astore _ => 2 | .istore _ => 2 | .lstore _ => 2
  | .bipush _ => 2 | .sipush _ => 3 | .ldc _ => 2 | .ldc_w _ => 3 | .ldc2_w _ => 3 | .iinc _ _ => 3
  | .goto _ => 3 | .ifCond _ _ => 3 | .if_icmp _ _ => 3 | .tableswitch _ _ _ _ => d | .lookupswitch _ _ => d
  | .getfield _ => 3 | .putfield _ => 3 | .getstatic _ => 3 | .newarray _ => 2 | .anewarray _ => 3 | .new _ => 3
  | .invokevirtual _ => 3 | .invokestatic _ => 3 | .invokespecial _ => 3
  | _ => 1
/-- the word stands at its place, and may be carried into a call -/
def tat (t : Nat) (w : Cond) : Bool := decide (lw_tbl[t]? = some w) && goodWord w
def chkI (M : MI) (pc : Nat) (q : AI) : Bool :=
  let own := M.1
  let a := q.2.2.1
  let b := q.2.2.2.1
  let c := q.2.2.2.2.1
  let t := q.2.2.2.2.2
  decide (decode M.2.2.2.1 pc = .ok (q.1, ilen q.1 (q.2.1 - pc))) && decide (q.2.1 = pc + ilen q.1 (q.2.1 - pc)) && (match q.1 with
    | .getfield idx => if a = 20 then (if b = 0 then tat t (.fieldLink own idx "java/lang/String" "value" "[B") else decide (b = 1) && tat t (.fieldLink own idx "java/lang/String" "coder" "B"))
      else decide (a < 9 ∧ b < nFf a) && tat t (.fieldLink own idx (TXf a b).1 (TXf a b).2.1 (TXf a b).2.2.1)
    | .putfield idx => decide (a < 9 ∧ b < nFf a) && tat t (.fieldLink own idx (TXf a b).1 (TXf a b).2.1 (TXf a b).2.2.1) && (!(TXf a b).2.2.2 || decide (M.2.2.2.2.2.2.1 = 2 ∧ (TXf a b).1 = own))
    | .getstatic idx => if a = 0 then decide (Cond.fieldLinkNest own idx "PulledToAHair" "IS_A" "[I" "PulledToAHair" = nestF) else if a = 1 then tat t (.fieldLink own idx "java/lang/String" "COMPACT_STRINGS" "Z") else tat t (.fieldLink own idx "jdk/internal/util/Preconditions" "SIOOBE_FORMATTER" "Ljava/util/function/BiFunction;")
    | .ldc idx => if a = 0 then tat t (.constant own idx (Int32.ofInt c)) else (strL.any (fun z => decide (z.1 = own ∧ z.2.1 = idx ∧ z.2.2.1 = a)))
    | .ldc_w idx => tat t (.constant own idx (Int32.ofInt c))
    | .ldc2_w idx => tat t (.constantLong own idx (Int64.ofInt c))
    | .new idx => decide (a < 9) && tat t (.classLink own idx (Rf a))
    | .newarray at_ => decide ((a = 9 ∧ at_ = .int) ∨ (a = 10 ∧ at_ = .long))
    | .anewarray idx => decide (11 ≤ a ∧ a ≤ 13) && tat t (.classLink own idx (Rf (comps a)))
    | .lookupswitch _ ps => (ps.toList.zip (ps.toList.drop 1)).all (fun (a, next) => a.1 < next.1)
    | .tableswitch _ lo hi offs => decide ((hi - lo + 1).toNat = offs.size)
    | .invokevirtual idx => (match minf[a]? with
      | some N => decide (N.2.2.2.2.2.2.1 = 1) && (if b = 0 then tat t (.methodLink own idx N.2.2.1) else decide (nestM own idx N.2.2.1 ∈ nestW))
      | none => false)
    | .invokestatic idx => if a = 1001 then tat t (.methodLink own idx arraycopyName) else (match minf[a]? with
      | some N => decide (N.2.2.2.2.2.2.1 = 0) && (if b = 0 then tat t (.methodLink own idx N.2.2.1) else decide (nestM own idx N.2.2.1 ∈ nestW))
      | none => false)
    | .invokespecial idx => if a = 1000 then tat t (.methodLink own idx objectInit) else (match minf[a]? with
      | some N => decide (N.2.2.2.2.2.2.1 = 2) && (if b = 0 then tat t (.methodLink own idx N.2.2.1) else decide (nestM own idx N.2.2.1 ∈ nestW))
      | none => false)
    | _ => true)
def chkM (M : MI) : Bool :=
  let y := M.2.2.1
  let k := M.2.2.2.2.2.2.1
  let w := M.2.2.2.2.2.2.2.2
  tat w.1 (.code y M.2.2.2.1 M.2.2.2.2.1 M.2.2.2.2.2.1) && tat w.2.1 (if k = 0 then .static y else .instanceMethod y) && (decide (k ≠ 1) || tat w.2.2.1 (.selects y.cls y y)) && tat w.2.2.2 (.initialized y.cls)
   && decide (y.cls = M.1 ∧ plainName y.cls = true ∧ y.cls ≠ "java/lang/invoke/MethodHandle" ∧ y.cls ≠ "java/lang/invoke/VarHandle" ∧ (parseMethodDescriptor y.desc).map (fun d => d.parameters.length) = some M.2.2.2.2.2.2.2.1)
   && decide (M.2.2.2.2.1 ≤ 20) && decide (k = 2 → y.name = "<init>") && (decide (k = 0) || decide (Rf M.2.1 = M.1 ∧ (M.2.1 < 9 ∨ M.2.1 = 20))) && decide (k ≤ 2 ∧ (k = 2 → M.2.2.2.2.2.1 = none))
theorem ckM_all : (minf.drop 1).all chkM = true := by decide +kernel
theorem ck_law : P_L_law.all (fun q => chkI M_L_law q.1 q.2) = true := by decide +kernel
theorem ck_rest : ((minf.zip progL).drop 1).all (fun z => z.2.all (fun q => chkI z.1 q.1 q.2)) = true := by decide +kernel
