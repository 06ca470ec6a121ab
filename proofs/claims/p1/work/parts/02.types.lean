noncomputable abbrev Ins : Type := ClassFile.Instr
/-- instruction, next place, two numbers, a constant, the place of its word in lw_tbl -/
noncomputable abbrev AI : Type := Ins × Nat × Nat × Nat × Int × Nat
noncomputable abbrev MI : Type := String × Nat × MethodName × ByteArray × Nat × Option FieldType × Nat × Nat × (Nat × Nat × Nat × Nat)
noncomputable def TXf : Nat → u_T := fun ci => match ci with
  | 0 => TX0
  | 1 => TX1
  | 2 => TX2
  | 3 => TX3
  | 4 => TX4
  | 5 => TX5
  | 6 => TX6
  | 7 => TX7
  | _ => TX8
noncomputable def tyf : Nat → Nat → FieldType := fun ci => match ci with
  | 0 => tyX0
  | 1 => tyX1
  | 2 => tyX2
  | 3 => tyX3
  | 4 => tyX4
  | 5 => tyX5
  | 6 => tyX6
  | 7 => tyX7
  | _ => tyX8
noncomputable def nFf : Nat → Nat := fun ci => match ci with
  | 0 => 4
  | 1 => 6
  | 2 => 6
  | 3 => 12
  | 4 => 3
  | 5 => 3
  | 6 => 4
  | 7 => 15
  | 8 => 54
  | _ => 2
noncomputable def Rf : Nat → String := fun ci => match ci with
  | 0 => RX0
  | 1 => RX1
  | 2 => RX2
  | 3 => RX3
  | 4 => RX4
  | 5 => RX5
  | 6 => RX6
  | 7 => RX7
  | 8 => RX8
  | _ => "java/lang/String"
noncomputable def fk (t : FieldType) : Nat := match t with
  | .int => 0
  | .long => 1
  | .object _ => 2
  | .array _ => 2
  | .boolean => 3
  | _ => 9
-- what is read only: 0 the row IS_A, 1 2 3 the three texts, 4 5 6 their bytes, 14 the script, 15 a reference of which nothing is known
noncomputable def tx1 : String := "draw 20 + wet * 2 - stiff ; tears 40 < pace * 9 - thick ; sticks folds * 2 - dust ; "
noncomputable def tx2 : String := "draw  tears sticksor    and   not   wet   thick stiff pace  folds dust  "
noncomputable def tx3 : String := "();+-*<="
noncomputable def comps (q : Nat) : Nat := match q with
  | 11 => 4
  | 12 => 5
  | _ => 6
