/-! READING: what the reader says of the code, out of the bytes that are left at a place -/
theorem rd_bind {α β : Type} (r : Decoder α) (f : α → Decoder β) (c : ByteArray) (p : Nat) : (r >>= f).runAt c p = (r.runAt c p).bind (fun q => (f q.1).runAt c q.2) := rfl
theorem rd_map {α β : Type} (g : α → β) (r : Decoder α) (c : ByteArray) (p : Nat) : (g <$> r).runAt c p = (r.runAt c p).bind (fun q => .ok (g q.1, q.2)) := rfl
theorem rd_u1 {c : ByteArray} {p : Nat} {b : UInt8} {s : List UInt8} (h : c.data.toList.drop p = b :: s) : (Reader.u1 : Decoder Nat).runAt c p = .ok (b.toNat, p + 1) := by
  have hl : c.data.toList[p]? = some b := by
    have := List.getElem?_drop (xs := c.data.toList) (i := p) (j := 0)
    rw [h, Nat.add_zero] at this
    exact this.symm
  have hlt : p < c.size := (List.getElem?_eq_some_iff.mp hl).1
  have hb : c[p].toNat = b.toNat := by
    obtain ⟨h1, h2⟩ := List.getElem?_eq_some_iff.mp hl
    exact congrArg UInt8.toNat h2
  show (dite (p < c.size) (fun h => (do set (p + 1); pure c[p].toNat : Decoder Nat)) (fun _ => throw (HasTruncated.truncated p))) c p = _
  rw [dif_pos hlt, ← hb]
  rfl
theorem rd_dec {c : ByteArray} {pc n : Nat} {i : Ins} (h : (Decoder.instr pc).runAt c pc = .ok (i, pc + n)) : decode c pc = .ok (i, n) := by
  show ((Decoder.instr pc).runAt c pc).bind (fun q => .ok (q.1, q.2 - pc)) = _
  rw [h]
  show Except.ok (i, pc + n - pc) = _
  rw [Nat.add_sub_cancel_left]
theorem rd_next {l : List UInt8} {p : Nat} {b : UInt8} {s : List UInt8} (h : l.drop p = b :: s) : l.drop (p + 1) = s := by
  have h1 := congrArg (List.drop 1) h
  rw [List.drop_drop] at h1
  exact h1
theorem rd_u2 {c : ByteArray} {p : Nat} {x y : UInt8} {s : List UInt8} (h : c.data.toList.drop p = x :: y :: s) : (Reader.u2 : Decoder Nat).runAt c p = .ok (x.toNat * 256 + y.toNat, p + 2) := by
  show ((Reader.u1 : Decoder Nat) >>= fun hi => (Reader.u1 : Decoder Nat) >>= fun lo => pure (hi * 256 + lo)).runAt c p = _
  rw [rd_bind, rd_u1 h]
  show ((Reader.u1 : Decoder Nat) >>= fun lo => pure (x.toNat * 256 + lo)).runAt c (p + 1) = _
  rw [rd_bind, rd_u1 (rd_next h)]
  rfl
theorem rd_s1 {c : ByteArray} {p n : Nat} {m : Nat} (h : (Reader.u1 : Decoder Nat).runAt c p = .ok (n, m)) : (Reader.s1 : Decoder Int).runAt c p = .ok (Reader.signed 8 n, m) := by
  unfold Reader.s1; rw [rd_map, h]; rfl
theorem rd_s2 {c : ByteArray} {p n : Nat} {m : Nat} (h : (Reader.u2 : Decoder Nat).runAt c p = .ok (n, m)) : (Reader.s2 : Decoder Int).runAt c p = .ok (Reader.signed 16 n, m) := by
  unfold Reader.s2; rw [rd_map, h]; rfl
/-- the bytes of the forms that instructions have -/
noncomputable def kb0 (o : Nat) : List UInt8 → Bool
  | b :: _ => Nat.beq b.toNat o
  | _ => false
noncomputable def kb1 (o k : Nat) : List UInt8 → Bool
  | b :: x :: _ => Nat.beq b.toNat o && Nat.beq x.toNat k
  | _ => false
noncomputable def kb2 (o k : Nat) : List UInt8 → Bool
  | b :: x :: y :: _ => Nat.beq b.toNat o && Nat.beq (x.toNat * 256 + y.toNat) k
  | _ => false
noncomputable def kc1 (o : Nat) (k : Int) : List UInt8 → Bool
  | b :: x :: _ => Nat.beq b.toNat o && decide (Reader.signed 8 x.toNat = k)
  | _ => false
noncomputable def kc2 (o : Nat) (k : Int) : List UInt8 → Bool
  | b :: x :: y :: _ => Nat.beq b.toNat o && decide (Reader.signed 16 (x.toNat * 256 + y.toNat) = k)
  | _ => false
noncomputable def kbi (a : Nat) (k : Int) : List UInt8 → Bool
  | b :: x :: y :: _ => Nat.beq b.toNat 132 && (Nat.beq x.toNat a && decide (Reader.signed 8 y.toNat = k))
  | _ => false
noncomputable def cnum : ClassFile.Cond → Nat
  | .eq => 0
  | .ne => 1
  | .lt => 2
  | .ge => 3
  | .gt => 4
  | .le => 5
theorem and_tt {a b : Bool} (h : (a && b) = true) : a = true ∧ b = true := by
  rw [Bool.and_eq_true] at h; exact h
section RDK
variable {c : ByteArray} {pc : Nat} {s : List UInt8}
theorem kb0_ok (h : c.data.toList.drop pc = s) {o : Nat} (hc : kb0 o s = true) : (Reader.u1 : Decoder Nat).runAt c pc = .ok (o, pc + 1) := by
  match s, h, hc with
  | b :: s, h, hc => rw [← Nat.eq_of_beq_eq_true hc]; exact rd_u1 h
theorem kb1_ok (h : c.data.toList.drop pc = s) {o k : Nat} (hc : kb1 o k s = true) : (Reader.u1 : Decoder Nat).runAt c pc = .ok (o, pc + 1) ∧ (Reader.u1 : Decoder Nat).runAt c (pc + 1) = .ok (k, pc + 2) := by
  match s, h, hc with
  | b :: x :: s, h, hc =>
    obtain ⟨h1, h2⟩ := and_tt hc
    rw [← Nat.eq_of_beq_eq_true h1, ← Nat.eq_of_beq_eq_true h2]; exact ⟨rd_u1 h, rd_u1 (rd_next h)⟩
theorem kb2_ok (h : c.data.toList.drop pc = s) {o k : Nat} (hc : kb2 o k s = true) : (Reader.u1 : Decoder Nat).runAt c pc = .ok (o, pc + 1) ∧ (Reader.u2 : Decoder Nat).runAt c (pc + 1) = .ok (k, pc + 3) := by
  match s, h, hc with
  | b :: x :: y :: s, h, hc =>
    obtain ⟨h1, h2⟩ := and_tt hc
    rw [← Nat.eq_of_beq_eq_true h1, ← Nat.eq_of_beq_eq_true h2]; exact ⟨rd_u1 h, rd_u2 (rd_next h)⟩
theorem kc1_ok (h : c.data.toList.drop pc = s) {o : Nat} {k : Int} (hc : kc1 o k s = true) : (Reader.u1 : Decoder Nat).runAt c pc = .ok (o, pc + 1) ∧ (Reader.s1 : Decoder Int).runAt c (pc + 1) = .ok (k, pc + 2) := by
  match s, h, hc with
  | b :: x :: s, h, hc =>
    obtain ⟨h1, h2⟩ := and_tt hc
    rw [← Nat.eq_of_beq_eq_true h1, ← of_decide_eq_true h2]; exact ⟨rd_u1 h, rd_s1 (rd_u1 (rd_next h))⟩
theorem kc2_ok (h : c.data.toList.drop pc = s) {o : Nat} {k : Int} (hc : kc2 o k s = true) : (Reader.u1 : Decoder Nat).runAt c pc = .ok (o, pc + 1) ∧ (Reader.s2 : Decoder Int).runAt c (pc + 1) = .ok (k, pc + 3) := by
  match s, h, hc with
  | b :: x :: y :: s, h, hc =>
    obtain ⟨h1, h2⟩ := and_tt hc
    rw [← Nat.eq_of_beq_eq_true h1, ← of_decide_eq_true h2]; exact ⟨rd_u1 h, rd_s2 (rd_u2 (rd_next h))⟩
theorem kbi_ok (h : c.data.toList.drop pc = s) {a : Nat} {k : Int} (hc : kbi a k s = true) : (Reader.u1 : Decoder Nat).runAt c pc = .ok (132, pc + 1) ∧ (Reader.u1 : Decoder Nat).runAt c (pc + 1) = .ok (a, pc + 2) ∧ (Reader.s1 : Decoder Int).runAt c (pc + 2) = .ok (k, pc + 3) := by
  match s, h, hc with
  | b :: x :: y :: s, h, hc =>
    obtain ⟨h1, h2⟩ := and_tt hc
    obtain ⟨h2, h3⟩ := and_tt h2
    rw [← Nat.eq_of_beq_eq_true h1, ← Nat.eq_of_beq_eq_true h2, ← of_decide_eq_true h3]; exact ⟨rd_u1 h, rd_u1 (rd_next h), rd_s1 (rd_u1 (rd_next (rd_next h)))⟩
end RDK
theorem f4 (k : Fin 4) : k = 0 ∨ k = 1 ∨ k = 2 ∨ k = 3 := (show ∀ k : Fin 4, k = 0 ∨ k = 1 ∨ k = 2 ∨ k = 3 by decide) k
theorem dc_aconst_null {c : ByteArray} {pc : Nat} (e : (Reader.u1 : Decoder Nat).runAt c pc = .ok (1, pc + 1)) : decode c pc = .ok (.aconst_null, 1) := rd_dec (by unfold Decoder.instr; rw [rd_bind, e]; rfl)
theorem dc_iaload {c : ByteArray} {pc : Nat} (e : (Reader.u1 : Decoder Nat).runAt c pc = .ok (46, pc + 1)) : decode c pc = .ok (.iaload, 1) := rd_dec (by unfold Decoder.instr; rw [rd_bind, e]; rfl)
theorem dc_laload {c : ByteArray} {pc : Nat} (e : (Reader.u1 : Decoder Nat).runAt c pc = .ok (47, pc + 1)) : decode c pc = .ok (.laload, 1) := rd_dec (by unfold Decoder.instr; rw [rd_bind, e]; rfl)
theorem dc_aaload {c : ByteArray} {pc : Nat} (e : (Reader.u1 : Decoder Nat).runAt c pc = .ok (50, pc + 1)) : decode c pc = .ok (.aaload, 1) := rd_dec (by unfold Decoder.instr; rw [rd_bind, e]; rfl)
theorem dc_baload {c : ByteArray} {pc : Nat} (e : (Reader.u1 : Decoder Nat).runAt c pc = .ok (51, pc + 1)) : decode c pc = .ok (.baload, 1) := rd_dec (by unfold Decoder.instr; rw [rd_bind, e]; rfl)
theorem dc_iastore {c : ByteArray} {pc : Nat} (e : (Reader.u1 : Decoder Nat).runAt c pc = .ok (79, pc + 1)) : decode c pc = .ok (.iastore, 1) := rd_dec (by unfold Decoder.instr; rw [rd_bind, e]; rfl)
theorem dc_lastore {c : ByteArray} {pc : Nat} (e : (Reader.u1 : Decoder Nat).runAt c pc = .ok (80, pc + 1)) : decode c pc = .ok (.lastore, 1) := rd_dec (by unfold Decoder.instr; rw [rd_bind, e]; rfl)
theorem dc_aastore {c : ByteArray} {pc : Nat} (e : (Reader.u1 : Decoder Nat).runAt c pc = .ok (83, pc + 1)) : decode c pc = .ok (.aastore, 1) := rd_dec (by unfold Decoder.instr; rw [rd_bind, e]; rfl)
theorem dc_bastore {c : ByteArray} {pc : Nat} (e : (Reader.u1 : Decoder Nat).runAt c pc = .ok (84, pc + 1)) : decode c pc = .ok (.bastore, 1) := rd_dec (by unfold Decoder.instr; rw [rd_bind, e]; rfl)
theorem dc_pop {c : ByteArray} {pc : Nat} (e : (Reader.u1 : Decoder Nat).runAt c pc = .ok (87, pc + 1)) : decode c pc = .ok (.pop, 1) := rd_dec (by unfold Decoder.instr; rw [rd_bind, e]; rfl)
theorem dc_pop2 {c : ByteArray} {pc : Nat} (e : (Reader.u1 : Decoder Nat).runAt c pc = .ok (88, pc + 1)) : decode c pc = .ok (.pop2, 1) := rd_dec (by unfold Decoder.instr; rw [rd_bind, e]; rfl)
theorem dc_dup {c : ByteArray} {pc : Nat} (e : (Reader.u1 : Decoder Nat).runAt c pc = .ok (89, pc + 1)) : decode c pc = .ok (.dup, 1) := rd_dec (by unfold Decoder.instr; rw [rd_bind, e]; rfl)
theorem dc_dup2 {c : ByteArray} {pc : Nat} (e : (Reader.u1 : Decoder Nat).runAt c pc = .ok (92, pc + 1)) : decode c pc = .ok (.dup2, 1) := rd_dec (by unfold Decoder.instr; rw [rd_bind, e]; rfl)
theorem dc_iadd {c : ByteArray} {pc : Nat} (e : (Reader.u1 : Decoder Nat).runAt c pc = .ok (96, pc + 1)) : decode c pc = .ok (.iadd, 1) := rd_dec (by unfold Decoder.instr; rw [rd_bind, e]; rfl)
theorem dc_ladd {c : ByteArray} {pc : Nat} (e : (Reader.u1 : Decoder Nat).runAt c pc = .ok (97, pc + 1)) : decode c pc = .ok (.ladd, 1) := rd_dec (by unfold Decoder.instr; rw [rd_bind, e]; rfl)
theorem dc_isub {c : ByteArray} {pc : Nat} (e : (Reader.u1 : Decoder Nat).runAt c pc = .ok (100, pc + 1)) : decode c pc = .ok (.isub, 1) := rd_dec (by unfold Decoder.instr; rw [rd_bind, e]; rfl)
theorem dc_lsub {c : ByteArray} {pc : Nat} (e : (Reader.u1 : Decoder Nat).runAt c pc = .ok (101, pc + 1)) : decode c pc = .ok (.lsub, 1) := rd_dec (by unfold Decoder.instr; rw [rd_bind, e]; rfl)
theorem dc_imul {c : ByteArray} {pc : Nat} (e : (Reader.u1 : Decoder Nat).runAt c pc = .ok (104, pc + 1)) : decode c pc = .ok (.imul, 1) := rd_dec (by unfold Decoder.instr; rw [rd_bind, e]; rfl)
theorem dc_lmul {c : ByteArray} {pc : Nat} (e : (Reader.u1 : Decoder Nat).runAt c pc = .ok (105, pc + 1)) : decode c pc = .ok (.lmul, 1) := rd_dec (by unfold Decoder.instr; rw [rd_bind, e]; rfl)
theorem dc_idiv {c : ByteArray} {pc : Nat} (e : (Reader.u1 : Decoder Nat).runAt c pc = .ok (108, pc + 1)) : decode c pc = .ok (.idiv, 1) := rd_dec (by unfold Decoder.instr; rw [rd_bind, e]; rfl)
theorem dc_ldiv {c : ByteArray} {pc : Nat} (e : (Reader.u1 : Decoder Nat).runAt c pc = .ok (109, pc + 1)) : decode c pc = .ok (.ldiv, 1) := rd_dec (by unfold Decoder.instr; rw [rd_bind, e]; rfl)
theorem dc_irem {c : ByteArray} {pc : Nat} (e : (Reader.u1 : Decoder Nat).runAt c pc = .ok (112, pc + 1)) : decode c pc = .ok (.irem, 1) := rd_dec (by unfold Decoder.instr; rw [rd_bind, e]; rfl)
theorem dc_lrem {c : ByteArray} {pc : Nat} (e : (Reader.u1 : Decoder Nat).runAt c pc = .ok (113, pc + 1)) : decode c pc = .ok (.lrem, 1) := rd_dec (by unfold Decoder.instr; rw [rd_bind, e]; rfl)
theorem dc_ineg {c : ByteArray} {pc : Nat} (e : (Reader.u1 : Decoder Nat).runAt c pc = .ok (116, pc + 1)) : decode c pc = .ok (.ineg, 1) := rd_dec (by unfold Decoder.instr; rw [rd_bind, e]; rfl)
theorem dc_lneg {c : ByteArray} {pc : Nat} (e : (Reader.u1 : Decoder Nat).runAt c pc = .ok (117, pc + 1)) : decode c pc = .ok (.lneg, 1) := rd_dec (by unfold Decoder.instr; rw [rd_bind, e]; rfl)
theorem dc_ishl {c : ByteArray} {pc : Nat} (e : (Reader.u1 : Decoder Nat).runAt c pc = .ok (120, pc + 1)) : decode c pc = .ok (.ishl, 1) := rd_dec (by unfold Decoder.instr; rw [rd_bind, e]; rfl)
theorem dc_lshl {c : ByteArray} {pc : Nat} (e : (Reader.u1 : Decoder Nat).runAt c pc = .ok (121, pc + 1)) : decode c pc = .ok (.lshl, 1) := rd_dec (by unfold Decoder.instr; rw [rd_bind, e]; rfl)
theorem dc_ishr {c : ByteArray} {pc : Nat} (e : (Reader.u1 : Decoder Nat).runAt c pc = .ok (122, pc + 1)) : decode c pc = .ok (.ishr, 1) := rd_dec (by unfold Decoder.instr; rw [rd_bind, e]; rfl)
theorem dc_lshr {c : ByteArray} {pc : Nat} (e : (Reader.u1 : Decoder Nat).runAt c pc = .ok (123, pc + 1)) : decode c pc = .ok (.lshr, 1) := rd_dec (by unfold Decoder.instr; rw [rd_bind, e]; rfl)
theorem dc_iushr {c : ByteArray} {pc : Nat} (e : (Reader.u1 : Decoder Nat).runAt c pc = .ok (124, pc + 1)) : decode c pc = .ok (.iushr, 1) := rd_dec (by unfold Decoder.instr; rw [rd_bind, e]; rfl)
theorem dc_lushr {c : ByteArray} {pc : Nat} (e : (Reader.u1 : Decoder Nat).runAt c pc = .ok (125, pc + 1)) : decode c pc = .ok (.lushr, 1) := rd_dec (by unfold Decoder.instr; rw [rd_bind, e]; rfl)
theorem dc_iand {c : ByteArray} {pc : Nat} (e : (Reader.u1 : Decoder Nat).runAt c pc = .ok (126, pc + 1)) : decode c pc = .ok (.iand, 1) := rd_dec (by unfold Decoder.instr; rw [rd_bind, e]; rfl)
theorem dc_land {c : ByteArray} {pc : Nat} (e : (Reader.u1 : Decoder Nat).runAt c pc = .ok (127, pc + 1)) : decode c pc = .ok (.land, 1) := rd_dec (by unfold Decoder.instr; rw [rd_bind, e]; rfl)
theorem dc_ior {c : ByteArray} {pc : Nat} (e : (Reader.u1 : Decoder Nat).runAt c pc = .ok (128, pc + 1)) : decode c pc = .ok (.ior, 1) := rd_dec (by unfold Decoder.instr; rw [rd_bind, e]; rfl)
theorem dc_lor {c : ByteArray} {pc : Nat} (e : (Reader.u1 : Decoder Nat).runAt c pc = .ok (129, pc + 1)) : decode c pc = .ok (.lor, 1) := rd_dec (by unfold Decoder.instr; rw [rd_bind, e]; rfl)
theorem dc_i2l {c : ByteArray} {pc : Nat} (e : (Reader.u1 : Decoder Nat).runAt c pc = .ok (133, pc + 1)) : decode c pc = .ok (.i2l, 1) := rd_dec (by unfold Decoder.instr; rw [rd_bind, e]; rfl)
theorem dc_l2i {c : ByteArray} {pc : Nat} (e : (Reader.u1 : Decoder Nat).runAt c pc = .ok (136, pc + 1)) : decode c pc = .ok (.l2i, 1) := rd_dec (by unfold Decoder.instr; rw [rd_bind, e]; rfl)
theorem dc_i2b {c : ByteArray} {pc : Nat} (e : (Reader.u1 : Decoder Nat).runAt c pc = .ok (145, pc + 1)) : decode c pc = .ok (.i2b, 1) := rd_dec (by unfold Decoder.instr; rw [rd_bind, e]; rfl)
theorem dc_i2c {c : ByteArray} {pc : Nat} (e : (Reader.u1 : Decoder Nat).runAt c pc = .ok (146, pc + 1)) : decode c pc = .ok (.i2c, 1) := rd_dec (by unfold Decoder.instr; rw [rd_bind, e]; rfl)
theorem dc_i2s {c : ByteArray} {pc : Nat} (e : (Reader.u1 : Decoder Nat).runAt c pc = .ok (147, pc + 1)) : decode c pc = .ok (.i2s, 1) := rd_dec (by unfold Decoder.instr; rw [rd_bind, e]; rfl)
theorem dc_lcmp {c : ByteArray} {pc : Nat} (e : (Reader.u1 : Decoder Nat).runAt c pc = .ok (148, pc + 1)) : decode c pc = .ok (.lcmp, 1) := rd_dec (by unfold Decoder.instr; rw [rd_bind, e]; rfl)
theorem dc_ireturn {c : ByteArray} {pc : Nat} (e : (Reader.u1 : Decoder Nat).runAt c pc = .ok (172, pc + 1)) : decode c pc = .ok (.ireturn, 1) := rd_dec (by unfold Decoder.instr; rw [rd_bind, e]; rfl)
theorem dc_lreturn {c : ByteArray} {pc : Nat} (e : (Reader.u1 : Decoder Nat).runAt c pc = .ok (173, pc + 1)) : decode c pc = .ok (.lreturn, 1) := rd_dec (by unfold Decoder.instr; rw [rd_bind, e]; rfl)
theorem dc_areturn {c : ByteArray} {pc : Nat} (e : (Reader.u1 : Decoder Nat).runAt c pc = .ok (176, pc + 1)) : decode c pc = .ok (.areturn, 1) := rd_dec (by unfold Decoder.instr; rw [rd_bind, e]; rfl)
theorem dc_return_ {c : ByteArray} {pc : Nat} (e : (Reader.u1 : Decoder Nat).runAt c pc = .ok (177, pc + 1)) : decode c pc = .ok (.return_, 1) := rd_dec (by unfold Decoder.instr; rw [rd_bind, e]; rfl)
theorem dc_arraylength {c : ByteArray} {pc : Nat} (e : (Reader.u1 : Decoder Nat).runAt c pc = .ok (190, pc + 1)) : decode c pc = .ok (.arraylength, 1) := rd_dec (by unfold Decoder.instr; rw [rd_bind, e]; rfl)
theorem dc_iconst2 {c : ByteArray} {pc : Nat} (e : (Reader.u1 : Decoder Nat).runAt c pc = .ok (2, pc + 1)) : decode c pc = .ok (.iconst (-1), 1) := rd_dec (by unfold Decoder.instr; rw [rd_bind, e]; rfl)
theorem dc_iconst3 {c : ByteArray} {pc : Nat} (e : (Reader.u1 : Decoder Nat).runAt c pc = .ok (3, pc + 1)) : decode c pc = .ok (.iconst (0), 1) := rd_dec (by unfold Decoder.instr; rw [rd_bind, e]; rfl)
theorem dc_iconst4 {c : ByteArray} {pc : Nat} (e : (Reader.u1 : Decoder Nat).runAt c pc = .ok (4, pc + 1)) : decode c pc = .ok (.iconst (1), 1) := rd_dec (by unfold Decoder.instr; rw [rd_bind, e]; rfl)
theorem dc_iconst5 {c : ByteArray} {pc : Nat} (e : (Reader.u1 : Decoder Nat).runAt c pc = .ok (5, pc + 1)) : decode c pc = .ok (.iconst (2), 1) := rd_dec (by unfold Decoder.instr; rw [rd_bind, e]; rfl)
theorem dc_iconst6 {c : ByteArray} {pc : Nat} (e : (Reader.u1 : Decoder Nat).runAt c pc = .ok (6, pc + 1)) : decode c pc = .ok (.iconst (3), 1) := rd_dec (by unfold Decoder.instr; rw [rd_bind, e]; rfl)
theorem dc_iconst7 {c : ByteArray} {pc : Nat} (e : (Reader.u1 : Decoder Nat).runAt c pc = .ok (7, pc + 1)) : decode c pc = .ok (.iconst (4), 1) := rd_dec (by unfold Decoder.instr; rw [rd_bind, e]; rfl)
theorem dc_iconst8 {c : ByteArray} {pc : Nat} (e : (Reader.u1 : Decoder Nat).runAt c pc = .ok (8, pc + 1)) : decode c pc = .ok (.iconst (5), 1) := rd_dec (by unfold Decoder.instr; rw [rd_bind, e]; rfl)
theorem dc_lconst0 {c : ByteArray} {pc : Nat} (e : (Reader.u1 : Decoder Nat).runAt c pc = .ok (9, pc + 1)) : decode c pc = .ok (.lconst 0, 1) := rd_dec (by unfold Decoder.instr; rw [rd_bind, e]; rfl)
theorem dc_lconst1 {c : ByteArray} {pc : Nat} (e : (Reader.u1 : Decoder Nat).runAt c pc = .ok (10, pc + 1)) : decode c pc = .ok (.lconst 1, 1) := rd_dec (by unfold Decoder.instr; rw [rd_bind, e]; rfl)
theorem dc_iload_n0 {c : ByteArray} {pc : Nat} (e : (Reader.u1 : Decoder Nat).runAt c pc = .ok (26, pc + 1)) : decode c pc = .ok (.iload_n 0, 1) := rd_dec (by unfold Decoder.instr; rw [rd_bind, e]; rfl)
theorem dc_iload_n1 {c : ByteArray} {pc : Nat} (e : (Reader.u1 : Decoder Nat).runAt c pc = .ok (27, pc + 1)) : decode c pc = .ok (.iload_n 1, 1) := rd_dec (by unfold Decoder.instr; rw [rd_bind, e]; rfl)
theorem dc_iload_n2 {c : ByteArray} {pc : Nat} (e : (Reader.u1 : Decoder Nat).runAt c pc = .ok (28, pc + 1)) : decode c pc = .ok (.iload_n 2, 1) := rd_dec (by unfold Decoder.instr; rw [rd_bind, e]; rfl)
theorem dc_iload_n3 {c : ByteArray} {pc : Nat} (e : (Reader.u1 : Decoder Nat).runAt c pc = .ok (29, pc + 1)) : decode c pc = .ok (.iload_n 3, 1) := rd_dec (by unfold Decoder.instr; rw [rd_bind, e]; rfl)
theorem dc_lload_n0 {c : ByteArray} {pc : Nat} (e : (Reader.u1 : Decoder Nat).runAt c pc = .ok (30, pc + 1)) : decode c pc = .ok (.lload_n 0, 1) := rd_dec (by unfold Decoder.instr; rw [rd_bind, e]; rfl)
theorem dc_lload_n1 {c : ByteArray} {pc : Nat} (e : (Reader.u1 : Decoder Nat).runAt c pc = .ok (31, pc + 1)) : decode c pc = .ok (.lload_n 1, 1) := rd_dec (by unfold Decoder.instr; rw [rd_bind, e]; rfl)
theorem dc_lload_n2 {c : ByteArray} {pc : Nat} (e : (Reader.u1 : Decoder Nat).runAt c pc = .ok (32, pc + 1)) : decode c pc = .ok (.lload_n 2, 1) := rd_dec (by unfold Decoder.instr; rw [rd_bind, e]; rfl)
theorem dc_lload_n3 {c : ByteArray} {pc : Nat} (e : (Reader.u1 : Decoder Nat).runAt c pc = .ok (33, pc + 1)) : decode c pc = .ok (.lload_n 3, 1) := rd_dec (by unfold Decoder.instr; rw [rd_bind, e]; rfl)
theorem dc_aload_n0 {c : ByteArray} {pc : Nat} (e : (Reader.u1 : Decoder Nat).runAt c pc = .ok (42, pc + 1)) : decode c pc = .ok (.aload_n 0, 1) := rd_dec (by unfold Decoder.instr; rw [rd_bind, e]; rfl)
theorem dc_aload_n1 {c : ByteArray} {pc : Nat} (e : (Reader.u1 : Decoder Nat).runAt c pc = .ok (43, pc + 1)) : decode c pc = .ok (.aload_n 1, 1) := rd_dec (by unfold Decoder.instr; rw [rd_bind, e]; rfl)
theorem dc_aload_n2 {c : ByteArray} {pc : Nat} (e : (Reader.u1 : Decoder Nat).runAt c pc = .ok (44, pc + 1)) : decode c pc = .ok (.aload_n 2, 1) := rd_dec (by unfold Decoder.instr; rw [rd_bind, e]; rfl)
theorem dc_aload_n3 {c : ByteArray} {pc : Nat} (e : (Reader.u1 : Decoder Nat).runAt c pc = .ok (45, pc + 1)) : decode c pc = .ok (.aload_n 3, 1) := rd_dec (by unfold Decoder.instr; rw [rd_bind, e]; rfl)
theorem dc_istore_n0 {c : ByteArray} {pc : Nat} (e : (Reader.u1 : Decoder Nat).runAt c pc = .ok (59, pc + 1)) : decode c pc = .ok (.istore_n 0, 1) := rd_dec (by unfold Decoder.instr; rw [rd_bind, e]; rfl)
theorem dc_istore_n1 {c : ByteArray} {pc : Nat} (e : (Reader.u1 : Decoder Nat).runAt c pc = .ok (60, pc + 1)) : decode c pc = .ok (.istore_n 1, 1) := rd_dec (by unfold Decoder.instr; rw [rd_bind, e]; rfl)
theorem dc_istore_n2 {c : ByteArray} {pc : Nat} (e : (Reader.u1 : Decoder Nat).runAt c pc = .ok (61, pc + 1)) : decode c pc = .ok (.istore_n 2, 1) := rd_dec (by unfold Decoder.instr; rw [rd_bind, e]; rfl)
theorem dc_istore_n3 {c : ByteArray} {pc : Nat} (e : (Reader.u1 : Decoder Nat).runAt c pc = .ok (62, pc + 1)) : decode c pc = .ok (.istore_n 3, 1) := rd_dec (by unfold Decoder.instr; rw [rd_bind, e]; rfl)
theorem dc_lstore_n0 {c : ByteArray} {pc : Nat} (e : (Reader.u1 : Decoder Nat).runAt c pc = .ok (63, pc + 1)) : decode c pc = .ok (.lstore_n 0, 1) := rd_dec (by unfold Decoder.instr; rw [rd_bind, e]; rfl)
theorem dc_lstore_n1 {c : ByteArray} {pc : Nat} (e : (Reader.u1 : Decoder Nat).runAt c pc = .ok (64, pc + 1)) : decode c pc = .ok (.lstore_n 1, 1) := rd_dec (by unfold Decoder.instr; rw [rd_bind, e]; rfl)
theorem dc_lstore_n2 {c : ByteArray} {pc : Nat} (e : (Reader.u1 : Decoder Nat).runAt c pc = .ok (65, pc + 1)) : decode c pc = .ok (.lstore_n 2, 1) := rd_dec (by unfold Decoder.instr; rw [rd_bind, e]; rfl)
theorem dc_lstore_n3 {c : ByteArray} {pc : Nat} (e : (Reader.u1 : Decoder Nat).runAt c pc = .ok (66, pc + 1)) : decode c pc = .ok (.lstore_n 3, 1) := rd_dec (by unfold Decoder.instr; rw [rd_bind, e]; rfl)
theorem dc_astore_n0 {c : ByteArray} {pc : Nat} (e : (Reader.u1 : Decoder Nat).runAt c pc = .ok (75, pc + 1)) : decode c pc = .ok (.astore_n 0, 1) := rd_dec (by unfold Decoder.instr; rw [rd_bind, e]; rfl)
theorem dc_astore_n1 {c : ByteArray} {pc : Nat} (e : (Reader.u1 : Decoder Nat).runAt c pc = .ok (76, pc + 1)) : decode c pc = .ok (.astore_n 1, 1) := rd_dec (by unfold Decoder.instr; rw [rd_bind, e]; rfl)
theorem dc_astore_n2 {c : ByteArray} {pc : Nat} (e : (Reader.u1 : Decoder Nat).runAt c pc = .ok (77, pc + 1)) : decode c pc = .ok (.astore_n 2, 1) := rd_dec (by unfold Decoder.instr; rw [rd_bind, e]; rfl)
theorem dc_astore_n3 {c : ByteArray} {pc : Nat} (e : (Reader.u1 : Decoder Nat).runAt c pc = .ok (78, pc + 1)) : decode c pc = .ok (.astore_n 3, 1) := rd_dec (by unfold Decoder.instr; rw [rd_bind, e]; rfl)
theorem dc_ldc {c : ByteArray} {pc : Nat} {k : Nat} (e : (Reader.u1 : Decoder Nat).runAt c pc = .ok (18, pc + 1)) (e2 : (Reader.u1 : Decoder Nat).runAt c (pc + 1) = .ok (k, pc + 2)) : decode c pc = .ok (.ldc k, 2) := rd_dec (by
  unfold Decoder.instr; rw [rd_bind, e]
  show ((Reader.u1 : Decoder Nat) >>= fun x => pure (Instr.ldc x)).runAt c (pc + 1) = _
  rw [rd_bind, e2]; rfl)
theorem dc_iload {c : ByteArray} {pc : Nat} {k : Nat} (e : (Reader.u1 : Decoder Nat).runAt c pc = .ok (21, pc + 1)) (e2 : (Reader.u1 : Decoder Nat).runAt c (pc + 1) = .ok (k, pc + 2)) : decode c pc = .ok (.iload k, 2) := rd_dec (by
  unfold Decoder.instr; rw [rd_bind, e]
  show ((Reader.u1 : Decoder Nat) >>= fun x => pure (Instr.iload x)).runAt c (pc + 1) = _
  rw [rd_bind, e2]; rfl)
theorem dc_lload {c : ByteArray} {pc : Nat} {k : Nat} (e : (Reader.u1 : Decoder Nat).runAt c pc = .ok (22, pc + 1)) (e2 : (Reader.u1 : Decoder Nat).runAt c (pc + 1) = .ok (k, pc + 2)) : decode c pc = .ok (.lload k, 2) := rd_dec (by
  unfold Decoder.instr; rw [rd_bind, e]
  show ((Reader.u1 : Decoder Nat) >>= fun x => pure (Instr.lload x)).runAt c (pc + 1) = _
  rw [rd_bind, e2]; rfl)
theorem dc_aload {c : ByteArray} {pc : Nat} {k : Nat} (e : (Reader.u1 : Decoder Nat).runAt c pc = .ok (25, pc + 1)) (e2 : (Reader.u1 : Decoder Nat).runAt c (pc + 1) = .ok (k, pc + 2)) : decode c pc = .ok (.aload k, 2) := rd_dec (by
  unfold Decoder.instr; rw [rd_bind, e]
  show ((Reader.u1 : Decoder Nat) >>= fun x => pure (Instr.aload x)).runAt c (pc + 1) = _
  rw [rd_bind, e2]; rfl)
theorem dc_istore {c : ByteArray} {pc : Nat} {k : Nat} (e : (Reader.u1 : Decoder Nat).runAt c pc = .ok (54, pc + 1)) (e2 : (Reader.u1 : Decoder Nat).runAt c (pc + 1) = .ok (k, pc + 2)) : decode c pc = .ok (.istore k, 2) := rd_dec (by
  unfold Decoder.instr; rw [rd_bind, e]
  show ((Reader.u1 : Decoder Nat) >>= fun x => pure (Instr.istore x)).runAt c (pc + 1) = _
  rw [rd_bind, e2]; rfl)
theorem dc_lstore {c : ByteArray} {pc : Nat} {k : Nat} (e : (Reader.u1 : Decoder Nat).runAt c pc = .ok (55, pc + 1)) (e2 : (Reader.u1 : Decoder Nat).runAt c (pc + 1) = .ok (k, pc + 2)) : decode c pc = .ok (.lstore k, 2) := rd_dec (by
  unfold Decoder.instr; rw [rd_bind, e]
  show ((Reader.u1 : Decoder Nat) >>= fun x => pure (Instr.lstore x)).runAt c (pc + 1) = _
  rw [rd_bind, e2]; rfl)
theorem dc_astore {c : ByteArray} {pc : Nat} {k : Nat} (e : (Reader.u1 : Decoder Nat).runAt c pc = .ok (58, pc + 1)) (e2 : (Reader.u1 : Decoder Nat).runAt c (pc + 1) = .ok (k, pc + 2)) : decode c pc = .ok (.astore k, 2) := rd_dec (by
  unfold Decoder.instr; rw [rd_bind, e]
  show ((Reader.u1 : Decoder Nat) >>= fun x => pure (Instr.astore x)).runAt c (pc + 1) = _
  rw [rd_bind, e2]; rfl)
theorem dc_ldc_w {c : ByteArray} {pc : Nat} {k : Nat} (e : (Reader.u1 : Decoder Nat).runAt c pc = .ok (19, pc + 1)) (e2 : (Reader.u2 : Decoder Nat).runAt c (pc + 1) = .ok (k, pc + 3)) : decode c pc = .ok (.ldc_w k, 3) := rd_dec (by
  unfold Decoder.instr; rw [rd_bind, e]
  show ((Reader.u2 : Decoder Nat) >>= fun x => pure (Instr.ldc_w x)).runAt c (pc + 1) = _
  rw [rd_bind, e2]; rfl)
theorem dc_ldc2_w {c : ByteArray} {pc : Nat} {k : Nat} (e : (Reader.u1 : Decoder Nat).runAt c pc = .ok (20, pc + 1)) (e2 : (Reader.u2 : Decoder Nat).runAt c (pc + 1) = .ok (k, pc + 3)) : decode c pc = .ok (.ldc2_w k, 3) := rd_dec (by
  unfold Decoder.instr; rw [rd_bind, e]
  show ((Reader.u2 : Decoder Nat) >>= fun x => pure (Instr.ldc2_w x)).runAt c (pc + 1) = _
  rw [rd_bind, e2]; rfl)
theorem dc_getstatic {c : ByteArray} {pc : Nat} {k : Nat} (e : (Reader.u1 : Decoder Nat).runAt c pc = .ok (178, pc + 1)) (e2 : (Reader.u2 : Decoder Nat).runAt c (pc + 1) = .ok (k, pc + 3)) : decode c pc = .ok (.getstatic k, 3) := rd_dec (by
  unfold Decoder.instr; rw [rd_bind, e]
  show ((Reader.u2 : Decoder Nat) >>= fun x => pure (Instr.getstatic x)).runAt c (pc + 1) = _
  rw [rd_bind, e2]; rfl)
theorem dc_getfield {c : ByteArray} {pc : Nat} {k : Nat} (e : (Reader.u1 : Decoder Nat).runAt c pc = .ok (180, pc + 1)) (e2 : (Reader.u2 : Decoder Nat).runAt c (pc + 1) = .ok (k, pc + 3)) : decode c pc = .ok (.getfield k, 3) := rd_dec (by
  unfold Decoder.instr; rw [rd_bind, e]
  show ((Reader.u2 : Decoder Nat) >>= fun x => pure (Instr.getfield x)).runAt c (pc + 1) = _
  rw [rd_bind, e2]; rfl)
theorem dc_putfield {c : ByteArray} {pc : Nat} {k : Nat} (e : (Reader.u1 : Decoder Nat).runAt c pc = .ok (181, pc + 1)) (e2 : (Reader.u2 : Decoder Nat).runAt c (pc + 1) = .ok (k, pc + 3)) : decode c pc = .ok (.putfield k, 3) := rd_dec (by
  unfold Decoder.instr; rw [rd_bind, e]
  show ((Reader.u2 : Decoder Nat) >>= fun x => pure (Instr.putfield x)).runAt c (pc + 1) = _
  rw [rd_bind, e2]; rfl)
theorem dc_invokevirtual {c : ByteArray} {pc : Nat} {k : Nat} (e : (Reader.u1 : Decoder Nat).runAt c pc = .ok (182, pc + 1)) (e2 : (Reader.u2 : Decoder Nat).runAt c (pc + 1) = .ok (k, pc + 3)) : decode c pc = .ok (.invokevirtual k, 3) := rd_dec (by
  unfold Decoder.instr; rw [rd_bind, e]
  show ((Reader.u2 : Decoder Nat) >>= fun x => pure (Instr.invokevirtual x)).runAt c (pc + 1) = _
  rw [rd_bind, e2]; rfl)
theorem dc_invokespecial {c : ByteArray} {pc : Nat} {k : Nat} (e : (Reader.u1 : Decoder Nat).runAt c pc = .ok (183, pc + 1)) (e2 : (Reader.u2 : Decoder Nat).runAt c (pc + 1) = .ok (k, pc + 3)) : decode c pc = .ok (.invokespecial k, 3) := rd_dec (by
  unfold Decoder.instr; rw [rd_bind, e]
  show ((Reader.u2 : Decoder Nat) >>= fun x => pure (Instr.invokespecial x)).runAt c (pc + 1) = _
  rw [rd_bind, e2]; rfl)
theorem dc_invokestatic {c : ByteArray} {pc : Nat} {k : Nat} (e : (Reader.u1 : Decoder Nat).runAt c pc = .ok (184, pc + 1)) (e2 : (Reader.u2 : Decoder Nat).runAt c (pc + 1) = .ok (k, pc + 3)) : decode c pc = .ok (.invokestatic k, 3) := rd_dec (by
  unfold Decoder.instr; rw [rd_bind, e]
  show ((Reader.u2 : Decoder Nat) >>= fun x => pure (Instr.invokestatic x)).runAt c (pc + 1) = _
  rw [rd_bind, e2]; rfl)
theorem dc_new {c : ByteArray} {pc : Nat} {k : Nat} (e : (Reader.u1 : Decoder Nat).runAt c pc = .ok (187, pc + 1)) (e2 : (Reader.u2 : Decoder Nat).runAt c (pc + 1) = .ok (k, pc + 3)) : decode c pc = .ok (.new k, 3) := rd_dec (by
  unfold Decoder.instr; rw [rd_bind, e]
  show ((Reader.u2 : Decoder Nat) >>= fun x => pure (Instr.new x)).runAt c (pc + 1) = _
  rw [rd_bind, e2]; rfl)
theorem dc_anewarray {c : ByteArray} {pc : Nat} {k : Nat} (e : (Reader.u1 : Decoder Nat).runAt c pc = .ok (189, pc + 1)) (e2 : (Reader.u2 : Decoder Nat).runAt c (pc + 1) = .ok (k, pc + 3)) : decode c pc = .ok (.anewarray k, 3) := rd_dec (by
  unfold Decoder.instr; rw [rd_bind, e]
  show ((Reader.u2 : Decoder Nat) >>= fun x => pure (Instr.anewarray x)).runAt c (pc + 1) = _
  rw [rd_bind, e2]; rfl)
theorem dc_bipush {c : ByteArray} {pc : Nat} {k : Int} (e : (Reader.u1 : Decoder Nat).runAt c pc = .ok (16, pc + 1)) (e2 : (Reader.s1 : Decoder Int).runAt c (pc + 1) = .ok (k, pc + 2)) : decode c pc = .ok (.bipush k, 2) := rd_dec (by
  unfold Decoder.instr; rw [rd_bind, e]
  show ((Reader.s1 : Decoder Int) >>= fun x => pure (Instr.bipush x)).runAt c (pc + 1) = _
  rw [rd_bind, e2]; rfl)
theorem dc_sipush {c : ByteArray} {pc : Nat} {k : Int} (e : (Reader.u1 : Decoder Nat).runAt c pc = .ok (17, pc + 1)) (e2 : (Reader.s2 : Decoder Int).runAt c (pc + 1) = .ok (k, pc + 3)) : decode c pc = .ok (.sipush k, 3) := rd_dec (by
  unfold Decoder.instr; rw [rd_bind, e]
  show ((Reader.s2 : Decoder Int) >>= fun x => pure (Instr.sipush x)).runAt c (pc + 1) = _
  rw [rd_bind, e2]; rfl)
theorem dc_goto {c : ByteArray} {pc : Nat} {k : Int} (e : (Reader.u1 : Decoder Nat).runAt c pc = .ok (167, pc + 1)) (e2 : (Reader.s2 : Decoder Int).runAt c (pc + 1) = .ok (k, pc + 3)) : decode c pc = .ok (.goto k, 3) := rd_dec (by
  unfold Decoder.instr; rw [rd_bind, e]
  show ((Reader.s2 : Decoder Int) >>= fun x => pure (Instr.goto x)).runAt c (pc + 1) = _
  rw [rd_bind, e2]; rfl)
theorem dc_ifCond_eq {c : ByteArray} {pc : Nat} {k : Int} (e : (Reader.u1 : Decoder Nat).runAt c pc = .ok (153, pc + 1)) (e2 : (Reader.s2 : Decoder Int).runAt c (pc + 1) = .ok (k, pc + 3)) : decode c pc = .ok (.ifCond .eq k, 3) := rd_dec (by
  unfold Decoder.instr; rw [rd_bind, e]
  show ((Reader.s2 : Decoder Int) >>= fun x => pure (Instr.ifCond .eq x)).runAt c (pc + 1) = _
  rw [rd_bind, e2]; rfl)
theorem dc_if_icmp_eq {c : ByteArray} {pc : Nat} {k : Int} (e : (Reader.u1 : Decoder Nat).runAt c pc = .ok (159, pc + 1)) (e2 : (Reader.s2 : Decoder Int).runAt c (pc + 1) = .ok (k, pc + 3)) : decode c pc = .ok (.if_icmp .eq k, 3) := rd_dec (by
  unfold Decoder.instr; rw [rd_bind, e]
  show ((Reader.s2 : Decoder Int) >>= fun x => pure (Instr.if_icmp .eq x)).runAt c (pc + 1) = _
  rw [rd_bind, e2]; rfl)
theorem dc_ifCond_ne {c : ByteArray} {pc : Nat} {k : Int} (e : (Reader.u1 : Decoder Nat).runAt c pc = .ok (154, pc + 1)) (e2 : (Reader.s2 : Decoder Int).runAt c (pc + 1) = .ok (k, pc + 3)) : decode c pc = .ok (.ifCond .ne k, 3) := rd_dec (by
  unfold Decoder.instr; rw [rd_bind, e]
  show ((Reader.s2 : Decoder Int) >>= fun x => pure (Instr.ifCond .ne x)).runAt c (pc + 1) = _
  rw [rd_bind, e2]; rfl)
theorem dc_if_icmp_ne {c : ByteArray} {pc : Nat} {k : Int} (e : (Reader.u1 : Decoder Nat).runAt c pc = .ok (160, pc + 1)) (e2 : (Reader.s2 : Decoder Int).runAt c (pc + 1) = .ok (k, pc + 3)) : decode c pc = .ok (.if_icmp .ne k, 3) := rd_dec (by
  unfold Decoder.instr; rw [rd_bind, e]
  show ((Reader.s2 : Decoder Int) >>= fun x => pure (Instr.if_icmp .ne x)).runAt c (pc + 1) = _
  rw [rd_bind, e2]; rfl)
theorem dc_ifCond_lt {c : ByteArray} {pc : Nat} {k : Int} (e : (Reader.u1 : Decoder Nat).runAt c pc = .ok (155, pc + 1)) (e2 : (Reader.s2 : Decoder Int).runAt c (pc + 1) = .ok (k, pc + 3)) : decode c pc = .ok (.ifCond .lt k, 3) := rd_dec (by
  unfold Decoder.instr; rw [rd_bind, e]
  show ((Reader.s2 : Decoder Int) >>= fun x => pure (Instr.ifCond .lt x)).runAt c (pc + 1) = _
  rw [rd_bind, e2]; rfl)
theorem dc_if_icmp_lt {c : ByteArray} {pc : Nat} {k : Int} (e : (Reader.u1 : Decoder Nat).runAt c pc = .ok (161, pc + 1)) (e2 : (Reader.s2 : Decoder Int).runAt c (pc + 1) = .ok (k, pc + 3)) : decode c pc = .ok (.if_icmp .lt k, 3) := rd_dec (by
  unfold Decoder.instr; rw [rd_bind, e]
  show ((Reader.s2 : Decoder Int) >>= fun x => pure (Instr.if_icmp .lt x)).runAt c (pc + 1) = _
  rw [rd_bind, e2]; rfl)
theorem dc_ifCond_ge {c : ByteArray} {pc : Nat} {k : Int} (e : (Reader.u1 : Decoder Nat).runAt c pc = .ok (156, pc + 1)) (e2 : (Reader.s2 : Decoder Int).runAt c (pc + 1) = .ok (k, pc + 3)) : decode c pc = .ok (.ifCond .ge k, 3) := rd_dec (by
  unfold Decoder.instr; rw [rd_bind, e]
  show ((Reader.s2 : Decoder Int) >>= fun x => pure (Instr.ifCond .ge x)).runAt c (pc + 1) = _
  rw [rd_bind, e2]; rfl)
theorem dc_if_icmp_ge {c : ByteArray} {pc : Nat} {k : Int} (e : (Reader.u1 : Decoder Nat).runAt c pc = .ok (162, pc + 1)) (e2 : (Reader.s2 : Decoder Int).runAt c (pc + 1) = .ok (k, pc + 3)) : decode c pc = .ok (.if_icmp .ge k, 3) := rd_dec (by
  unfold Decoder.instr; rw [rd_bind, e]
  show ((Reader.s2 : Decoder Int) >>= fun x => pure (Instr.if_icmp .ge x)).runAt c (pc + 1) = _
  rw [rd_bind, e2]; rfl)
theorem dc_ifCond_gt {c : ByteArray} {pc : Nat} {k : Int} (e : (Reader.u1 : Decoder Nat).runAt c pc = .ok (157, pc + 1)) (e2 : (Reader.s2 : Decoder Int).runAt c (pc + 1) = .ok (k, pc + 3)) : decode c pc = .ok (.ifCond .gt k, 3) := rd_dec (by
  unfold Decoder.instr; rw [rd_bind, e]
  show ((Reader.s2 : Decoder Int) >>= fun x => pure (Instr.ifCond .gt x)).runAt c (pc + 1) = _
  rw [rd_bind, e2]; rfl)
theorem dc_if_icmp_gt {c : ByteArray} {pc : Nat} {k : Int} (e : (Reader.u1 : Decoder Nat).runAt c pc = .ok (163, pc + 1)) (e2 : (Reader.s2 : Decoder Int).runAt c (pc + 1) = .ok (k, pc + 3)) : decode c pc = .ok (.if_icmp .gt k, 3) := rd_dec (by
  unfold Decoder.instr; rw [rd_bind, e]
  show ((Reader.s2 : Decoder Int) >>= fun x => pure (Instr.if_icmp .gt x)).runAt c (pc + 1) = _
  rw [rd_bind, e2]; rfl)
theorem dc_ifCond_le {c : ByteArray} {pc : Nat} {k : Int} (e : (Reader.u1 : Decoder Nat).runAt c pc = .ok (158, pc + 1)) (e2 : (Reader.s2 : Decoder Int).runAt c (pc + 1) = .ok (k, pc + 3)) : decode c pc = .ok (.ifCond .le k, 3) := rd_dec (by
  unfold Decoder.instr; rw [rd_bind, e]
  show ((Reader.s2 : Decoder Int) >>= fun x => pure (Instr.ifCond .le x)).runAt c (pc + 1) = _
  rw [rd_bind, e2]; rfl)
theorem dc_if_icmp_le {c : ByteArray} {pc : Nat} {k : Int} (e : (Reader.u1 : Decoder Nat).runAt c pc = .ok (164, pc + 1)) (e2 : (Reader.s2 : Decoder Int).runAt c (pc + 1) = .ok (k, pc + 3)) : decode c pc = .ok (.if_icmp .le k, 3) := rd_dec (by
  unfold Decoder.instr; rw [rd_bind, e]
  show ((Reader.s2 : Decoder Int) >>= fun x => pure (Instr.if_icmp .le x)).runAt c (pc + 1) = _
  rw [rd_bind, e2]; rfl)
theorem dc_iinc {c : ByteArray} {pc : Nat} {a : Nat} {k : Int} (e : (Reader.u1 : Decoder Nat).runAt c pc = .ok (132, pc + 1)) (e2 : (Reader.u1 : Decoder Nat).runAt c (pc + 1) = .ok (a, pc + 2)) (e3 : (Reader.s1 : Decoder Int).runAt c (pc + 2) = .ok (k, pc + 3)) : decode c pc = .ok (.iinc a k, 3) := rd_dec (by
  unfold Decoder.instr; rw [rd_bind, e]
  show ((Reader.u1 : Decoder Nat) >>= fun x => (Reader.s1 : Decoder Int) >>= fun y => pure (Instr.iinc x y)).runAt c (pc + 1) = _
  rw [rd_bind, e2]
  show ((Reader.s1 : Decoder Int) >>= fun y => pure (Instr.iinc a y)).runAt c (pc + 2) = _
  rw [rd_bind, e3]; rfl)
theorem dc_newarray_int {c : ByteArray} {pc : Nat} (e : (Reader.u1 : Decoder Nat).runAt c pc = .ok (188, pc + 1)) (e2 : (Reader.u1 : Decoder Nat).runAt c (pc + 1) = .ok (10, pc + 2)) : decode c pc = .ok (.newarray .int, 2) := rd_dec (by
  unfold Decoder.instr; rw [rd_bind, e]
  show (Decoder.newarray pc).runAt c (pc + 1) = _
  unfold Decoder.newarray; rw [rd_bind, e2]; rfl)
theorem dc_newarray_long {c : ByteArray} {pc : Nat} (e : (Reader.u1 : Decoder Nat).runAt c pc = .ok (188, pc + 1)) (e2 : (Reader.u1 : Decoder Nat).runAt c (pc + 1) = .ok (11, pc + 2)) : decode c pc = .ok (.newarray .long, 2) := rd_dec (by
  unfold Decoder.instr; rw [rd_bind, e]
  show (Decoder.newarray pc).runAt c (pc + 1) = _
  unfold Decoder.newarray; rw [rd_bind, e2]; rfl)
/-- do the bytes that are left begin with this instruction? -/
noncomputable def chkF (i : Ins) (s : List UInt8) : Bool := match i with
  | .aconst_null => kb0 1 s
  | .iaload => kb0 46 s
  | .laload => kb0 47 s
  | .aaload => kb0 50 s
  | .baload => kb0 51 s
  | .iastore => kb0 79 s
  | .lastore => kb0 80 s
  | .aastore => kb0 83 s
  | .bastore => kb0 84 s
  | .pop => kb0 87 s
  | .pop2 => kb0 88 s
  | .dup => kb0 89 s
  | .dup2 => kb0 92 s
  | .iadd => kb0 96 s
  | .ladd => kb0 97 s
  | .isub => kb0 100 s
  | .lsub => kb0 101 s
  | .imul => kb0 104 s
  | .lmul => kb0 105 s
  | .idiv => kb0 108 s
  | .ldiv => kb0 109 s
  | .irem => kb0 112 s
  | .lrem => kb0 113 s
  | .ineg => kb0 116 s
  | .lneg => kb0 117 s
  | .ishl => kb0 120 s
  | .lshl => kb0 121 s
  | .ishr => kb0 122 s
  | .lshr => kb0 123 s
  | .iushr => kb0 124 s
  | .lushr => kb0 125 s
  | .iand => kb0 126 s
  | .land => kb0 127 s
  | .ior => kb0 128 s
  | .lor => kb0 129 s
  | .i2l => kb0 133 s
  | .l2i => kb0 136 s
  | .i2b => kb0 145 s
  | .i2c => kb0 146 s
  | .i2s => kb0 147 s
  | .lcmp => kb0 148 s
  | .ireturn => kb0 172 s
  | .lreturn => kb0 173 s
  | .areturn => kb0 176 s
  | .return_ => kb0 177 s
  | .arraylength => kb0 190 s
  | .iconst n => decide (-1 ≤ n ∧ n ≤ 5) && kb0 (n + 3).toNat s
  | .lconst n => kb0 (9 + n.val) s
  | .iload_n k => kb0 (26 + k.val) s
  | .lload_n k => kb0 (30 + k.val) s
  | .aload_n k => kb0 (42 + k.val) s
  | .istore_n k => kb0 (59 + k.val) s
  | .lstore_n k => kb0 (63 + k.val) s
  | .astore_n k => kb0 (75 + k.val) s
  | .ldc k => kb1 18 k s
  | .iload k => kb1 21 k s
  | .lload k => kb1 22 k s
  | .aload k => kb1 25 k s
  | .istore k => kb1 54 k s
  | .lstore k => kb1 55 k s
  | .astore k => kb1 58 k s
  | .ldc_w k => kb2 19 k s
  | .ldc2_w k => kb2 20 k s
  | .getstatic k => kb2 178 k s
  | .getfield k => kb2 180 k s
  | .putfield k => kb2 181 k s
  | .invokevirtual k => kb2 182 k s
  | .invokespecial k => kb2 183 k s
  | .invokestatic k => kb2 184 k s
  | .new k => kb2 187 k s
  | .anewarray k => kb2 189 k s
  | .bipush k => kc1 16 k s
  | .sipush k => kc2 17 k s
  | .goto k => kc2 167 k s
  | .ifCond cd k => kc2 (153 + cnum cd) k s
  | .if_icmp cd k => kc2 (159 + cnum cd) k s
  | .iinc a k => kbi a k s
  | .newarray .int => kb1 188 10 s
  | .newarray .long => kb1 188 11 s
  | _ => false
theorem chkF_ok {c : ByteArray} {pc : Nat} {s : List UInt8} (h : c.data.toList.drop pc = s) {i : Ins} (hc : chkF i s = true) : decode c pc = .ok (i, ilen i 0) := by
  cases i
  case aconst_null => exact dc_aconst_null (kb0_ok h hc)
  case iaload => exact dc_iaload (kb0_ok h hc)
  case laload => exact dc_laload (kb0_ok h hc)
  case aaload => exact dc_aaload (kb0_ok h hc)
  case baload => exact dc_baload (kb0_ok h hc)
  case iastore => exact dc_iastore (kb0_ok h hc)
  case lastore => exact dc_lastore (kb0_ok h hc)
  case aastore => exact dc_aastore (kb0_ok h hc)
  case bastore => exact dc_bastore (kb0_ok h hc)
  case pop => exact dc_pop (kb0_ok h hc)
  case pop2 => exact dc_pop2 (kb0_ok h hc)
  case dup => exact dc_dup (kb0_ok h hc)
  case dup2 => exact dc_dup2 (kb0_ok h hc)
  case iadd => exact dc_iadd (kb0_ok h hc)
  case ladd => exact dc_ladd (kb0_ok h hc)
  case isub => exact dc_isub (kb0_ok h hc)
  case lsub => exact dc_lsub (kb0_ok h hc)
  case imul => exact dc_imul (kb0_ok h hc)
  case lmul => exact dc_lmul (kb0_ok h hc)
  case idiv => exact dc_idiv (kb0_ok h hc)
  case ldiv => exact dc_ldiv (kb0_ok h hc)
  case irem => exact dc_irem (kb0_ok h hc)
  case lrem => exact dc_lrem (kb0_ok h hc)
  case ineg => exact dc_ineg (kb0_ok h hc)
  case lneg => exact dc_lneg (kb0_ok h hc)
  case ishl => exact dc_ishl (kb0_ok h hc)
  case lshl => exact dc_lshl (kb0_ok h hc)
  case ishr => exact dc_ishr (kb0_ok h hc)
  case lshr => exact dc_lshr (kb0_ok h hc)
  case iushr => exact dc_iushr (kb0_ok h hc)
  case lushr => exact dc_lushr (kb0_ok h hc)
  case iand => exact dc_iand (kb0_ok h hc)
  case land => exact dc_land (kb0_ok h hc)
  case ior => exact dc_ior (kb0_ok h hc)
  case lor => exact dc_lor (kb0_ok h hc)
  case i2l => exact dc_i2l (kb0_ok h hc)
  case l2i => exact dc_l2i (kb0_ok h hc)
  case i2b => exact dc_i2b (kb0_ok h hc)
  case i2c => exact dc_i2c (kb0_ok h hc)
  case i2s => exact dc_i2s (kb0_ok h hc)
  case lcmp => exact dc_lcmp (kb0_ok h hc)
  case ireturn => exact dc_ireturn (kb0_ok h hc)
  case lreturn => exact dc_lreturn (kb0_ok h hc)
  case areturn => exact dc_areturn (kb0_ok h hc)
  case return_ => exact dc_return_ (kb0_ok h hc)
  case arraylength => exact dc_arraylength (kb0_ok h hc)
  case iconst n =>
    obtain ⟨h1, h2⟩ := and_tt hc
    have := of_decide_eq_true h1
    have : n = -1 ∨ n = 0 ∨ n = 1 ∨ n = 2 ∨ n = 3 ∨ n = 4 ∨ n = 5 := by omega
    rcases this with rfl | rfl | rfl | rfl | rfl | rfl | rfl
    · exact dc_iconst2 (kb0_ok h h2)
    · exact dc_iconst3 (kb0_ok h h2)
    · exact dc_iconst4 (kb0_ok h h2)
    · exact dc_iconst5 (kb0_ok h h2)
    · exact dc_iconst6 (kb0_ok h h2)
    · exact dc_iconst7 (kb0_ok h h2)
    · exact dc_iconst8 (kb0_ok h h2)
  case lconst n =>
    have : n = 0 ∨ n = 1 := (show ∀ n : Fin 2, n = 0 ∨ n = 1 by decide) n
    rcases this with rfl | rfl
    · exact dc_lconst0 (kb0_ok h hc)
    · exact dc_lconst1 (kb0_ok h hc)
  case iload_n k =>
    rcases f4 k with rfl | rfl | rfl | rfl
    · exact dc_iload_n0 (kb0_ok h hc)
    · exact dc_iload_n1 (kb0_ok h hc)
    · exact dc_iload_n2 (kb0_ok h hc)
    · exact dc_iload_n3 (kb0_ok h hc)
  case lload_n k =>
    rcases f4 k with rfl | rfl | rfl | rfl
    · exact dc_lload_n0 (kb0_ok h hc)
    · exact dc_lload_n1 (kb0_ok h hc)
    · exact dc_lload_n2 (kb0_ok h hc)
    · exact dc_lload_n3 (kb0_ok h hc)
  case aload_n k =>
    rcases f4 k with rfl | rfl | rfl | rfl
    · exact dc_aload_n0 (kb0_ok h hc)
    · exact dc_aload_n1 (kb0_ok h hc)
    · exact dc_aload_n2 (kb0_ok h hc)
    · exact dc_aload_n3 (kb0_ok h hc)
  case istore_n k =>
    rcases f4 k with rfl | rfl | rfl | rfl
    · exact dc_istore_n0 (kb0_ok h hc)
    · exact dc_istore_n1 (kb0_ok h hc)
    · exact dc_istore_n2 (kb0_ok h hc)
    · exact dc_istore_n3 (kb0_ok h hc)
  case lstore_n k =>
    rcases f4 k with rfl | rfl | rfl | rfl
    · exact dc_lstore_n0 (kb0_ok h hc)
    · exact dc_lstore_n1 (kb0_ok h hc)
    · exact dc_lstore_n2 (kb0_ok h hc)
    · exact dc_lstore_n3 (kb0_ok h hc)
  case astore_n k =>
    rcases f4 k with rfl | rfl | rfl | rfl
    · exact dc_astore_n0 (kb0_ok h hc)
    · exact dc_astore_n1 (kb0_ok h hc)
    · exact dc_astore_n2 (kb0_ok h hc)
    · exact dc_astore_n3 (kb0_ok h hc)
  case ldc k => exact dc_ldc (kb1_ok h hc).1 (kb1_ok h hc).2
  case iload k => exact dc_iload (kb1_ok h hc).1 (kb1_ok h hc).2
  case lload k => exact dc_lload (kb1_ok h hc).1 (kb1_ok h hc).2
  case aload k => exact dc_aload (kb1_ok h hc).1 (kb1_ok h hc).2
  case istore k => exact dc_istore (kb1_ok h hc).1 (kb1_ok h hc).2
  case lstore k => exact dc_lstore (kb1_ok h hc).1 (kb1_ok h hc).2
  case astore k => exact dc_astore (kb1_ok h hc).1 (kb1_ok h hc).2
  case ldc_w k => exact dc_ldc_w (kb2_ok h hc).1 (kb2_ok h hc).2
  case ldc2_w k => exact dc_ldc2_w (kb2_ok h hc).1 (kb2_ok h hc).2
  case getstatic k => exact dc_getstatic (kb2_ok h hc).1 (kb2_ok h hc).2
  case getfield k => exact dc_getfield (kb2_ok h hc).1 (kb2_ok h hc).2
  case putfield k => exact dc_putfield (kb2_ok h hc).1 (kb2_ok h hc).2
  case invokevirtual k => exact dc_invokevirtual (kb2_ok h hc).1 (kb2_ok h hc).2
  case invokespecial k => exact dc_invokespecial (kb2_ok h hc).1 (kb2_ok h hc).2
  case invokestatic k => exact dc_invokestatic (kb2_ok h hc).1 (kb2_ok h hc).2
  case new k => exact dc_new (kb2_ok h hc).1 (kb2_ok h hc).2
  case anewarray k => exact dc_anewarray (kb2_ok h hc).1 (kb2_ok h hc).2
  case bipush k => exact dc_bipush (kc1_ok h hc).1 (kc1_ok h hc).2
  case sipush k => exact dc_sipush (kc2_ok h hc).1 (kc2_ok h hc).2
  case goto k => exact dc_goto (kc2_ok h hc).1 (kc2_ok h hc).2
  case ifCond cd k =>
    cases cd
    · exact dc_ifCond_eq (kc2_ok h hc).1 (kc2_ok h hc).2
    · exact dc_ifCond_ne (kc2_ok h hc).1 (kc2_ok h hc).2
    · exact dc_ifCond_lt (kc2_ok h hc).1 (kc2_ok h hc).2
    · exact dc_ifCond_ge (kc2_ok h hc).1 (kc2_ok h hc).2
    · exact dc_ifCond_gt (kc2_ok h hc).1 (kc2_ok h hc).2
    · exact dc_ifCond_le (kc2_ok h hc).1 (kc2_ok h hc).2
  case if_icmp cd k =>
    cases cd
    · exact dc_if_icmp_eq (kc2_ok h hc).1 (kc2_ok h hc).2
    · exact dc_if_icmp_ne (kc2_ok h hc).1 (kc2_ok h hc).2
    · exact dc_if_icmp_lt (kc2_ok h hc).1 (kc2_ok h hc).2
    · exact dc_if_icmp_ge (kc2_ok h hc).1 (kc2_ok h hc).2
    · exact dc_if_icmp_gt (kc2_ok h hc).1 (kc2_ok h hc).2
    · exact dc_if_icmp_le (kc2_ok h hc).1 (kc2_ok h hc).2
  case iinc a k => exact dc_iinc (kbi_ok h hc).1 (kbi_ok h hc).2.1 (kbi_ok h hc).2.2
  case newarray t =>
    cases t
    case int => exact dc_newarray_int (kb1_ok h hc).1 (kb1_ok h hc).2
    case long => exact dc_newarray_long (kb1_ok h hc).1 (kb1_ok h hc).2
    all_goals exact absurd hc (by simp [chkF])
  all_goals exact absurd hc (by simp [chkF])
/-- the check of one row but for its bytes -/
noncomputable def chkR (M : MI) (pc : Nat) (q : AI) : Bool :=
  let own := M.1
  let a := q.2.2.1
  let b := q.2.2.2.1
  let c := q.2.2.2.2.1
  let t := q.2.2.2.2.2
  (match q.1 with
    | .ifCond _ off => decide (0 ≤ (pc : Int) + off)
    | .if_icmp _ off => decide (0 ≤ (pc : Int) + off)
    | .getfield idx => if a = 20 then (if b = 0 then tat t (.fieldLink own idx "java/lang/String" "value" "[B") else decide (b = 1) && tat t (.fieldLink own idx "java/lang/String" "coder" "B"))
      else decide (a < 9 ∧ b < nFf a) && tat t (.fieldLink own idx (TXf a b).1 (TXf a b).2.1 (TXf a b).2.2.1)
    | .putfield idx => decide (a < 9 ∧ b < nFf a) && tat t (.fieldLink own idx (TXf a b).1 (TXf a b).2.1 (TXf a b).2.2.1) && (!(TXf a b).2.2.2 || decide (M.2.2.2.2.2.2.1 = 2 ∧ (TXf a b).1 = own))
    | .getstatic idx => if a = 0 then decide (Cond.fieldLinkNest own idx "PulledToAHair" "IS_A" "[I" "PulledToAHair" = nestF) else if a = 1 then tat t (.fieldLink own idx "java/lang/String" "COMPACT_STRINGS" "Z") else tat t (.fieldLink own idx "jdk/internal/util/Preconditions" "SIOOBE_FORMATTER" "Ljava/util/function/BiFunction;")
    | .ldc idx => if a = 0 then tat t (.constant own idx (Int32.ofInt c)) else (strL.any (fun z => decide (z.1 = own ∧ z.2.1 = idx ∧ z.2.2.1 = a)))
    | .ldc_w idx => tat t (.constant own idx (Int32.ofInt c))
    | .ldc2_w idx => tat t (.constantLong own idx (Int64.ofInt c))
    | .new idx => decide (a < 9) && tat t (.classLink own idx (Rf a))
    | .newarray at_ => decide ((a = 9 ∧ at_ = .int) ∨ (a = 10 ∧ at_ = .long))
    | .anewarray idx => decide (11 ≤ a ∧ a ≤ 13) && tat t (.classLink own idx (Rf (comps a)))
    | .lookupswitch _ ps => (ps.toList.zip (ps.toList.drop 1)).all (fun (a, next) => a.1 < next.1)
    | .tableswitch _ lo hi offs => decide ((hi - lo + 1).toNat = offs.size)
    | .invokevirtual idx => (match minf[a]? with
      | some N => decide (N.2.2.2.2.2.2.1 = 1) && (if b = 0 then tat t (.methodLink own idx N.2.2.1) else decide (nestM own idx N.2.2.1 ∈ nestW))
      | none => false)
    | .invokestatic idx => if a = 1001 then tat t (.methodLink own idx arraycopyName) else if 1002 ≤ a ∧ a ≤ 1006 then tat t (.methodLink own idx (mathN a)) else (match minf[a]? with
      | some N => decide (N.2.2.2.2.2.2.1 = 0) && (if b = 0 then tat t (.methodLink own idx N.2.2.1) else decide (nestM own idx N.2.2.1 ∈ nestW))
      | none => false)
    | .invokespecial idx => if a = 1000 then tat t (.methodLink own idx objectInit) else (match minf[a]? with
      | some N => decide (N.2.2.2.2.2.2.1 = 2) && (if b = 0 then tat t (.methodLink own idx N.2.2.1) else decide (nestM own idx N.2.2.1 ∈ nestW))
      | none => false)
    | _ => true)
theorem chkI_of {M : MI} {pc : Nat} {q : AI} (h1 : decode M.2.2.2.1 pc = .ok (q.1, ilen q.1 (q.2.1 - pc))) (h2 : q.2.1 = pc + ilen q.1 (q.2.1 - pc)) (h3 : chkR M pc q = true) : chkI M pc q = true := by
  show (decide (decode M.2.2.2.1 pc = .ok (q.1, ilen q.1 (q.2.1 - pc))) && decide (q.2.1 = pc + ilen q.1 (q.2.1 - pc)) && chkR M pc q) = true
  rw [decide_eq_true h1, decide_eq_true h2, h3]; rfl
noncomputable def isSw : Ins → Bool
  | .tableswitch _ _ _ _ => true
  | .lookupswitch _ _ => true
  | _ => false
theorem ilen_0 {i : Ins} (h : isSw i = false) (d : Nat) : ilen i d = ilen i 0 := by
  cases i <;> first | rfl | exact absurd h (by decide) | (simp [isSw] at h)
/-- the check of rows in their order: the place where the last one ended, the bytes that are left there -/
noncomputable def chkS (M : MI) : List (Nat × AI) → Nat → List UInt8 → Bool
  | [], _, _ => true
  | (pc, q) :: l, p, s => (bif Nat.blt pc p then false else bif Nat.blt pc q.2.1 then true else false) && ((bif isSw q.1 then chkI M pc q else chkF q.1 (s.drop (pc - p)) && (Nat.beq q.2.1 (pc + ilen q.1 0) && chkR M pc q)) && chkS M l q.2.1 (s.drop (q.2.1 - p)))
noncomputable def incr : Nat → List (Nat × AI) → Prop
  | _, [] => True
  | p, r :: l => p ≤ r.1 ∧ r.1 < r.2.2.1 ∧ incr r.2.2.1 l
theorem rd_drop {l s : List UInt8} {p q : Nat} (h : l.drop p = s) (hpq : p ≤ q) : l.drop q = s.drop (q - p) := by
  rw [← h, List.drop_drop]; congr 1; omega
theorem chkS_ok {M : MI} : ∀ (l : List (Nat × AI)) (p : Nat) (s : List UInt8), M.2.2.2.1.data.toList.drop p = s → chkS M l p s = true → (∀ r ∈ l, chkI M r.1 r.2 = true) ∧ incr p l := by
  intro l
  induction l with
  | nil => intro p s _ _; exact ⟨fun r hr => absurd hr List.not_mem_nil, trivial⟩
  | cons r l ih =>
    obtain ⟨pc, q⟩ := r
    intro p s h hc
    obtain ⟨h1, h2⟩ := and_tt hc
    obtain ⟨h2, h3⟩ := and_tt h2
    have hp : p ≤ pc ∧ pc < q.2.1 := by
      cases e : Nat.blt pc p with
      | true => rw [e] at h1; cases h1
      | false =>
        rw [e] at h1
        cases e2 : Nat.blt pc q.2.1 with
        | false => rw [e2] at h1; cases h1
        | true =>
          have e3 : ¬ pc < p := fun z => by
            rw [show Nat.blt pc p = true from Nat.ble_eq.mpr z] at e; cases e
          have e4 : pc + 1 ≤ q.2.1 := Nat.ble_eq.mp e2
          omega
    have hk : chkI M pc q = true := by
      cases e : isSw q.1 with
      | true => rw [e] at h2; exact h2
      | false =>
        rw [e] at h2
        obtain ⟨a1, a2⟩ := and_tt h2
        obtain ⟨a2, a3⟩ := and_tt a2
        have a4 := Nat.eq_of_beq_eq_true a2
        have a5 := chkF_ok (rd_drop h hp.1) a1
        refine chkI_of ?_ ?_ a3
        · rw [ilen_0 e]; exact a5
        · rw [ilen_0 e]; exact a4
    obtain ⟨b1, b2⟩ := ih q.2.1 (s.drop (q.2.1 - p)) (rd_drop h (by omega)) h3
    refine ⟨fun r hr => ?_, hp.1, hp.2, b2⟩
    rcases List.mem_cons.mp hr with rfl | hr
    · exact hk
    · exact b1 r hr
theorem incr_lk : ∀ (l : List (Nat × AI)) (p : Nat), incr p l → ∀ r ∈ l, p ≤ r.1 ∧ l.lookup r.1 = some r.2 := by
  intro l
  induction l with
  | nil => intro p _ r hr; exact absurd hr List.not_mem_nil
  | cons a l ih =>
    obtain ⟨pc, q⟩ := a
    intro p h r hr
    obtain ⟨h1, h2, h3⟩ := h
    rcases List.mem_cons.mp hr with rfl | hr
    · exact ⟨h1, by rw [List.lookup_cons_self]⟩
    · obtain ⟨c1, c2⟩ := ih q.2.1 h3 r hr
      have h2' : pc < q.2.1 := h2
      have h1' : p ≤ pc := h1
      refine ⟨by omega, ?_⟩
      rw [List.lookup_cons, show (r.1 == pc) = false from by rw [beq_eq_false_iff_ne]; omega]
      exact c2
theorem mem_k {l : List (Nat × AI)} {r : Nat × AI} (k : Nat) (h : l[k]? = some r) : r ∈ l := List.mem_of_getElem? h
theorem fr {mi : Nat} {l : List (Nat × AI)} (h : ∀ r ∈ l, fetch mi r.1 = some r.2) {pc : Nat} {q : AI} (k : Nat) (e : l[k]? = some (pc, q)) : fetch mi pc = some q := h (pc, q) (List.mem_of_getElem? e)
theorem fe_of {mi : Nat} {l : List (Nat × AI)} (hl : progL[mi]? = some l) (h : incr 0 l) : ∀ r ∈ l, fetch mi r.1 = some r.2 := fun r hr => by
  unfold fetch
  rw [hl]
  exact (incr_lk l 0 h r hr).2
