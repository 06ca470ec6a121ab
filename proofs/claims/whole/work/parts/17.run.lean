/-! RUNS of the abstract machine, an instruction a row -/
def Run (X : Nat → Int32) (d mi pc : Nat) (lv : Lv) (st : List Value) (h : Hp) (o : Option Value × Hp) : Prop := ∃ n, arun X n d mi pc lv st h = some o
def Calls (X : Nat → Int32) (d cal : Nat) (vs : List Value) (h : Hp) (o : Option Value × Hp) : Prop := ∃ lv0, aent cal vs = some lv0 ∧ Run X d cal 0 lv0 [] h o
theorem arun_mono {X : Nat → Int32} : ∀ (n m d mi pc : Nat) (lv : Lv) (st : List Value) (h : Hp) (o : Option Value × Hp), n ≤ m → arun X n d mi pc lv st h = some o → arun X m d mi pc lv st h = some o := by
  intro n
  induction n with
  | zero => intro m d mi pc lv st h o _ hr; cases hr
  | succ n ih =>
    intro m d mi pc lv st h o hle hr
    obtain ⟨m, rfl⟩ : ∃ k, m = k + 1 := ⟨m - 1, by omega⟩
    have hle : n ≤ m := by omega
    unfold arun at hr ⊢
    split at hr
    · cases hr
    · next q hf =>
      rw [hf]
      dsimp only
      split at hr
      · cases hr
      · next pc1 lv1 st1 h1 hs =>
        rw [hs]
        exact ih m _ _ _ _ _ _ _ hle hr
      · next rv hs =>
        rw [hs]
        exact hr
      · next cal vs nx lv1 rest hs =>
        rw [hs]
        dsimp only
        split at hr
        · cases hr
        · next d' =>
          dsimp only
          split at hr
          · cases hr
          · next lv0 he =>
            rw [he]
            dsimp only
            split at hr
            · cases hr
            · next rv h1 hc =>
              rw [ih m _ _ _ _ _ _ _ hle hc]
              exact ih m _ _ _ _ _ _ _ hle hr
section RS
variable {X : Nat → Int32} {d mi pc : Nat} {lv lv' : Lv} {st st' : List Value} {h h' : Hp} {o : Option Value × Hp} {nx a b t : Nat} {c : Int}
theorem rs_go {q : AI} {pc' : Nat} (hf : fetch mi pc = some q) (hs : astep minf X mi q pc lv st h = some (.inl (pc', lv', st', h'))) (k : Run X d mi pc' lv' st' h' o) : Run X d mi pc lv st h o := by
  obtain ⟨n, hn⟩ := k
  refine ⟨n + 1, ?_⟩
  unfold arun
  rw [hf]
  dsimp only
  rw [hs]
  exact hn
theorem rs_ret {q : AI} {rv : Option Value} (hf : fetch mi pc = some q) (hs : astep minf X mi q pc lv st h = some (.inr (.inl rv))) : Run X d mi pc lv st h (rv, h) := by
  refine ⟨1, ?_⟩
  unfold arun
  rw [hf]
  dsimp only
  rw [hs]
theorem rs_call {q : AI} {cal : Nat} {vs rest : List Value} {rv : Option Value} {h1 : Hp} (hf : fetch mi pc = some q) (hs : astep minf X mi q pc lv st h = some (.inr (.inr (cal, vs, nx, lv', rest)))) (hc : Calls X d cal vs h (rv, h1)) (k : Run X (d + 1) mi nx lv' (rv.toList ++ rest) h1 o) : Run X (d + 1) mi pc lv st h o := by
  obtain ⟨n, hn⟩ := k
  obtain ⟨lv0, he, n2, hn2⟩ := hc
  refine ⟨max n n2 + 1, ?_⟩
  unfold arun
  rw [hf]
  dsimp only
  rw [hs]
  dsimp only
  rw [he]
  dsimp only
  rw [arun_mono _ _ _ _ _ _ _ _ _ (Nat.le_max_right n n2) hn2]
  exact arun_mono _ _ _ _ _ _ _ _ _ (Nat.le_max_left n n2) hn
theorem ite_some {α : Type} {p : Prop} [Decidable p] {x : Option α} {o : α} (hf : (if p then x else none) = some o) : p ∧ x = some o := by
  by_cases hp : p
  · rw [if_pos hp] at hf
    exact ⟨hp, hf⟩
  · rw [if_neg hp] at hf
    cases hf
theorem bind_some {α β : Type} {x : Option α} {f : α → Option β} {o : β} (hf : x.bind f = some o) : ∃ a, x = some a ∧ f a = some o := Option.bind_eq_some_iff.mp hf
-- what a row of the heap is asked
abbrev okO (h : Hp) (r ci : Nat) : Prop := hk h r = (ci, nFf ci)
abbrev okI (h : Hp) (r : Nat) (i : Int32) : Prop := (hk h r).1 = 9 ∧ inb i (hk h r).2 = true
abbrev okL (h : Hp) (r : Nat) (i : Int32) : Prop := (hk h r).1 = 10 ∧ inb i (hk h r).2 = true
abbrev okR (h : Hp) (r : Nat) (i : Int32) : Prop := (11 ≤ (hk h r).1 ∧ (hk h r).1 ≤ 13) ∧ inb i (hk h r).2 = true
abbrev okC (h : Hp) (r : Nat) (i : Int32) : Prop := (hk h r).1 = 22 ∧ inb i (hk h r).2 = true
abbrev okB (h : Hp) (r : Nat) (i : Int32) : Prop := (hk h r).1 = 21 ∧ inb i (hk h r).2 = true
abbrev ix (i : Int32) : Nat := i.toNatClampNeg
abbrev gI (h : Hp) (r j : Nat) : Int32 := h.2.1 r j
abbrev gL' (h : Hp) (r j : Nat) : Int64 := h.2.2.1 r j
abbrev gR (h : Hp) (r j : Nat) : Option Nat := h.2.2.2 r j
def roC (a j : Nat) : Int32 := roI (fun _ => 0) a j
theorem roC_eq (a j : Nat) (ha : a ≠ 14) : roI X a j = roC a j := by
  unfold roC roI
  split <;> first | rfl | exact absurd rfl ha
theorem rs_iadd {x y : Int32} (hf : fetch mi pc = some (.iadd, nx, a, b, c, t))  (k : Run X d mi nx lv (.int (x + y) :: st) h o) : Run X d mi pc lv (.int y :: .int x :: st) h o := rs_go hf rfl k
theorem rs_isub {x y : Int32} (hf : fetch mi pc = some (.isub, nx, a, b, c, t))  (k : Run X d mi nx lv (.int (x - y) :: st) h o) : Run X d mi pc lv (.int y :: .int x :: st) h o := rs_go hf rfl k
theorem rs_imul {x y : Int32} (hf : fetch mi pc = some (.imul, nx, a, b, c, t))  (k : Run X d mi nx lv (.int (x * y) :: st) h o) : Run X d mi pc lv (.int y :: .int x :: st) h o := rs_go hf rfl k
theorem rs_iand {x y : Int32} (hf : fetch mi pc = some (.iand, nx, a, b, c, t))  (k : Run X d mi nx lv (.int (x &&& y) :: st) h o) : Run X d mi pc lv (.int y :: .int x :: st) h o := rs_go hf rfl k
theorem rs_ior {x y : Int32} (hf : fetch mi pc = some (.ior, nx, a, b, c, t))  (k : Run X d mi nx lv (.int (x ||| y) :: st) h o) : Run X d mi pc lv (.int y :: .int x :: st) h o := rs_go hf rfl k
theorem rs_ladd {x y : Int64} (hf : fetch mi pc = some (.ladd, nx, a, b, c, t))  (k : Run X d mi nx lv (.long (x + y) :: st) h o) : Run X d mi pc lv (.long y :: .long x :: st) h o := rs_go hf rfl k
theorem rs_lsub {x y : Int64} (hf : fetch mi pc = some (.lsub, nx, a, b, c, t))  (k : Run X d mi nx lv (.long (x - y) :: st) h o) : Run X d mi pc lv (.long y :: .long x :: st) h o := rs_go hf rfl k
theorem rs_lmul {x y : Int64} (hf : fetch mi pc = some (.lmul, nx, a, b, c, t))  (k : Run X d mi nx lv (.long (x * y) :: st) h o) : Run X d mi pc lv (.long y :: .long x :: st) h o := rs_go hf rfl k
theorem rs_land {x y : Int64} (hf : fetch mi pc = some (.land, nx, a, b, c, t))  (k : Run X d mi nx lv (.long (x &&& y) :: st) h o) : Run X d mi pc lv (.long y :: .long x :: st) h o := rs_go hf rfl k
theorem rs_lor {x y : Int64} (hf : fetch mi pc = some (.lor, nx, a, b, c, t))  (k : Run X d mi nx lv (.long (x ||| y) :: st) h o) : Run X d mi pc lv (.long y :: .long x :: st) h o := rs_go hf rfl k
theorem rs_ishl {x y : Int32} (hf : fetch mi pc = some (.ishl, nx, a, b, c, t))  (k : Run X d mi nx lv (.int (x <<< (y &&& 31)) :: st) h o) : Run X d mi pc lv (.int y :: .int x :: st) h o := rs_go hf rfl k
theorem rs_ishr {x y : Int32} (hf : fetch mi pc = some (.ishr, nx, a, b, c, t))  (k : Run X d mi nx lv (.int (x >>> (y &&& 31)) :: st) h o) : Run X d mi pc lv (.int y :: .int x :: st) h o := rs_go hf rfl k
theorem rs_lshl {y : Int32} {x : Int64} (hf : fetch mi pc = some (.lshl, nx, a, b, c, t))  (k : Run X d mi nx lv (.long (x <<< (y.toInt64 &&& 63)) :: st) h o) : Run X d mi pc lv (.int y :: .long x :: st) h o := rs_go hf rfl k
theorem rs_lshr {y : Int32} {x : Int64} (hf : fetch mi pc = some (.lshr, nx, a, b, c, t))  (k : Run X d mi nx lv (.long (x >>> (y.toInt64 &&& 63)) :: st) h o) : Run X d mi pc lv (.int y :: .long x :: st) h o := rs_go hf rfl k
theorem rs_lushr {y : Int32} {x : Int64} (hf : fetch mi pc = some (.lushr, nx, a, b, c, t))  (k : Run X d mi nx lv (.long (x.toUInt64 >>> (y.toInt64.toUInt64 &&& Int64.toUInt64 63)).toInt64 :: st) h o) : Run X d mi pc lv (.int y :: .long x :: st) h o := rs_go hf rfl k
theorem rs_ineg {x : Int32} (hf : fetch mi pc = some (.ineg, nx, a, b, c, t))  (k : Run X d mi nx lv (.int (-x) :: st) h o) : Run X d mi pc lv (.int x :: st) h o := rs_go hf rfl k
theorem rs_lneg {x : Int64} (hf : fetch mi pc = some (.lneg, nx, a, b, c, t))  (k : Run X d mi nx lv (.long (-x) :: st) h o) : Run X d mi pc lv (.long x :: st) h o := rs_go hf rfl k
theorem rs_lcmp {x y : Int64} (hf : fetch mi pc = some (.lcmp, nx, a, b, c, t))  (k : Run X d mi nx lv (.int (lg_cmp x y) :: st) h o) : Run X d mi pc lv (.long y :: .long x :: st) h o := rs_go hf rfl k
theorem rs_i2l {x : Int32} (hf : fetch mi pc = some (.i2l, nx, a, b, c, t))  (k : Run X d mi nx lv (.long x.toInt64 :: st) h o) : Run X d mi pc lv (.int x :: st) h o := rs_go hf rfl k
theorem rs_l2i {x : Int64} (hf : fetch mi pc = some (.l2i, nx, a, b, c, t))  (k : Run X d mi nx lv (.int x.toInt32 :: st) h o) : Run X d mi pc lv (.long x :: st) h o := rs_go hf rfl k
theorem rs_i2b {x : Int32} (hf : fetch mi pc = some (.i2b, nx, a, b, c, t))  (k : Run X d mi nx lv (.int x.toInt8.toInt32 :: st) h o) : Run X d mi pc lv (.int x :: st) h o := rs_go hf rfl k
theorem rs_i2s {x : Int32} (hf : fetch mi pc = some (.i2s, nx, a, b, c, t))  (k : Run X d mi nx lv (.int x.toInt16.toInt32 :: st) h o) : Run X d mi pc lv (.int x :: st) h o := rs_go hf rfl k
theorem rs_i2c {x : Int32} (hf : fetch mi pc = some (.i2c, nx, a, b, c, t))  (k : Run X d mi nx lv (.int (x.toUInt32 % 65536).toInt32 :: st) h o) : Run X d mi pc lv (.int x :: st) h o := rs_go hf rfl k
theorem rs_idiv {x y : Int32} (hf : fetch mi pc = some (.idiv, nx, a, b, c, t)) (hy : ¬ y = 0) (k : Run X d mi nx lv (.int (x / y) :: st) h o) : Run X d mi pc lv (.int y :: .int x :: st) h o := rs_go hf (by simp only [astep, a_go]; rw [if_neg hy]) k
theorem rs_irem {x y : Int32} (hf : fetch mi pc = some (.irem, nx, a, b, c, t)) (hy : ¬ y = 0) (k : Run X d mi nx lv (.int (x - x / y * y) :: st) h o) : Run X d mi pc lv (.int y :: .int x :: st) h o := rs_go hf (by simp only [astep, a_go]; rw [if_neg hy]) k
theorem rs_ldiv {x y : Int64} (hf : fetch mi pc = some (.ldiv, nx, a, b, c, t)) (hy : ¬ y = 0) (k : Run X d mi nx lv (.long (x / y) :: st) h o) : Run X d mi pc lv (.long y :: .long x :: st) h o := rs_go hf (by simp only [astep, a_go]; rw [if_neg hy]) k
theorem rs_lrem {x y : Int64} (hf : fetch mi pc = some (.lrem, nx, a, b, c, t)) (hy : ¬ y = 0) (k : Run X d mi nx lv (.long (x - x / y * y) :: st) h o) : Run X d mi pc lv (.long y :: .long x :: st) h o := rs_go hf (by simp only [astep, a_go]; rw [if_neg hy]) k
theorem rs_iconst {z : Int} {v : Int32} (hf : fetch mi pc = some (.iconst z, nx, a, b, c, t)) (hv : Int32.ofInt z = v) (k : Run X d mi nx lv (.int v :: st) h o) : Run X d mi pc lv st h o := rs_go hf (by subst hv; rfl) k
theorem rs_bipush {z : Int} {v : Int32} (hf : fetch mi pc = some (.bipush z, nx, a, b, c, t)) (hv : (Int8.ofInt z).toInt32 = v) (k : Run X d mi nx lv (.int v :: st) h o) : Run X d mi pc lv st h o := rs_go hf (by subst hv; rfl) k
theorem rs_sipush {z : Int} {v : Int32} (hf : fetch mi pc = some (.sipush z, nx, a, b, c, t)) (hv : (Int16.ofInt z).toInt32 = v) (k : Run X d mi nx lv (.int v :: st) h o) : Run X d mi pc lv st h o := rs_go hf (by subst hv; rfl) k
theorem rs_lconst {z : Fin 2} {v : Int64} (hf : fetch mi pc = some (.lconst z, nx, a, b, c, t)) (hv : Int64.ofNat z.val = v) (k : Run X d mi nx lv (.long v :: st) h o) : Run X d mi pc lv st h o := rs_go hf (by subst hv; rfl) k
theorem rs_ldc {z : Nat} {v : Int32} (hf : fetch mi pc = some (.ldc z, nx, 0, b, c, t)) (hv : Int32.ofInt c = v) (k : Run X d mi nx lv (.int v :: st) h o) : Run X d mi pc lv st h o := rs_go hf (by subst hv; rfl) k
theorem rs_ldcS {z : Nat} (hf : fetch mi pc = some (.ldc z, nx, a, b, c, t)) (ha : a ≠ 0) (k : Run X d mi nx lv (.ref a :: st) h o) : Run X d mi pc lv st h o := rs_go hf (by simp only [astep, a_go]; rw [if_neg ha]) k
theorem rs_ldcw {z : Nat} {v : Int32} (hf : fetch mi pc = some (.ldc_w z, nx, a, b, c, t)) (hv : Int32.ofInt c = v) (k : Run X d mi nx lv (.int v :: st) h o) : Run X d mi pc lv st h o := rs_go hf (by subst hv; rfl) k
theorem rs_ldc2 {z : Nat} {v : Int64} (hf : fetch mi pc = some (.ldc2_w z, nx, a, b, c, t)) (hv : Int64.ofInt c = v) (k : Run X d mi nx lv (.long v :: st) h o) : Run X d mi pc lv st h o := rs_go hf (by subst hv; rfl) k
theorem rs_iload {z : Nat} {x : Int32} (hf : fetch mi pc = some (.iload z, nx, a, b, c, t)) (hl : lv.getD z none = some (.int x)) (k : Run X d mi nx lv (.int x :: st) h o) : Run X d mi pc lv st h o := rs_go hf (by simp only [astep, a_go]; rw [hl]) k
theorem rs_iload_n {z : Fin 4} {x : Int32} (hf : fetch mi pc = some (.iload_n z, nx, a, b, c, t)) (hl : lv.getD z.val none = some (.int x)) (k : Run X d mi nx lv (.int x :: st) h o) : Run X d mi pc lv st h o := rs_go hf (by simp only [astep, a_go]; rw [hl]) k
theorem rs_lload {z : Nat} {x : Int64} (hf : fetch mi pc = some (.lload z, nx, a, b, c, t)) (hl : lv.getD z none = some (.long x)) (k : Run X d mi nx lv (.long x :: st) h o) : Run X d mi pc lv st h o := rs_go hf (by simp only [astep, a_go]; rw [hl]) k
theorem rs_lload_n {z : Fin 4} {x : Int64} (hf : fetch mi pc = some (.lload_n z, nx, a, b, c, t)) (hl : lv.getD z.val none = some (.long x)) (k : Run X d mi nx lv (.long x :: st) h o) : Run X d mi pc lv st h o := rs_go hf (by simp only [astep, a_go]; rw [hl]) k
theorem rs_aload {z : Nat} {x : Nat} (hf : fetch mi pc = some (.aload z, nx, a, b, c, t)) (hl : lv.getD z none = some (.ref x)) (k : Run X d mi nx lv (.ref x :: st) h o) : Run X d mi pc lv st h o := rs_go hf (by simp only [astep, a_go]; rw [hl]) k
theorem rs_aload_n {z : Fin 4} {x : Nat} (hf : fetch mi pc = some (.aload_n z, nx, a, b, c, t)) (hl : lv.getD z.val none = some (.ref x)) (k : Run X d mi nx lv (.ref x :: st) h o) : Run X d mi pc lv st h o := rs_go hf (by simp only [astep, a_go]; rw [hl]) k
theorem rs_istore {z : Nat} {x : Int32} (hf : fetch mi pc = some (.istore z, nx, a, b, c, t)) (hz : z < lv.length) (hl : lset1 lv z (.int x) = lv') (k : Run X d mi nx lv' st h o) : Run X d mi pc lv (.int x :: st) h o := rs_go hf (by simp only [astep, a_go]; rw [if_pos hz, hl]) k
theorem rs_istore_n {z : Fin 4} {x : Int32} (hf : fetch mi pc = some (.istore_n z, nx, a, b, c, t)) (hz : z.val < lv.length) (hl : lset1 lv z.val (.int x) = lv') (k : Run X d mi nx lv' st h o) : Run X d mi pc lv (.int x :: st) h o := rs_go hf (by simp only [astep, a_go]; rw [if_pos hz, hl]) k
theorem rs_lstore {z : Nat} {x : Int64} (hf : fetch mi pc = some (.lstore z, nx, a, b, c, t)) (hz : z + 1 < lv.length) (hl : lset2 lv z (.long x) = lv') (k : Run X d mi nx lv' st h o) : Run X d mi pc lv (.long x :: st) h o := rs_go hf (by simp only [astep, a_go]; rw [if_pos hz, hl]) k
theorem rs_lstore_n {z : Fin 4} {x : Int64} (hf : fetch mi pc = some (.lstore_n z, nx, a, b, c, t)) (hz : z.val + 1 < lv.length) (hl : lset2 lv z.val (.long x) = lv') (k : Run X d mi nx lv' st h o) : Run X d mi pc lv (.long x :: st) h o := rs_go hf (by simp only [astep, a_go]; rw [if_pos hz, hl]) k
theorem rs_astore {z : Nat} {x : Nat} (hf : fetch mi pc = some (.astore z, nx, a, b, c, t)) (hz : z < lv.length) (hl : lset1 lv z (.ref x) = lv') (k : Run X d mi nx lv' st h o) : Run X d mi pc lv (.ref x :: st) h o := rs_go hf (by simp only [astep, a_go]; rw [if_pos hz, hl]) k
theorem rs_astore_n {z : Fin 4} {x : Nat} (hf : fetch mi pc = some (.astore_n z, nx, a, b, c, t)) (hz : z.val < lv.length) (hl : lset1 lv z.val (.ref x) = lv') (k : Run X d mi nx lv' st h o) : Run X d mi pc lv (.ref x :: st) h o := rs_go hf (by simp only [astep, a_go]; rw [if_pos hz, hl]) k
theorem rs_iinc {z : Nat} {n : Int} {x v : Int32} (hf : fetch mi pc = some (.iinc z n, nx, a, b, c, t)) (hg : lv.getD z none = some (.int x)) (hv : x + Int32.ofInt n = v) (hz : z < lv.length) (hl : lset1 lv z (.int v) = lv') (k : Run X d mi nx lv' st h o) : Run X d mi pc lv st h o := rs_go hf (by subst hv; simp only [astep, a_go]; rw [hg]; dsimp only; rw [if_pos hz, hl]) k
theorem rs_dup {v : Value} (hf : fetch mi pc = some (.dup, nx, a, b, c, t)) (hv : v.category = 1) (k : Run X d mi nx lv (v :: v :: st) h o) : Run X d mi pc lv (v :: st) h o := rs_go hf (by simp only [astep, a_go]; rw [if_pos hv]) k
theorem rs_dup2 {v w : Value} (hf : fetch mi pc = some (.dup2, nx, a, b, c, t)) (hv : v.category = 1 ∧ w.category = 1) (k : Run X d mi nx lv (v :: w :: v :: w :: st) h o) : Run X d mi pc lv (v :: w :: st) h o := rs_go hf (by simp only [astep, a_go]; rw [if_pos hv]) k
theorem rs_pop {v : Value} (hf : fetch mi pc = some (.pop, nx, a, b, c, t)) (hv : v.category = 1) (k : Run X d mi nx lv st h o) : Run X d mi pc lv (v :: st) h o := rs_go hf (by simp only [astep, a_go]; rw [if_pos hv]) k
theorem jmp_to {pc tg : Nat} {off : Int} {lv : Lv} {st : List Value} {h : Hp} (ht : (pc : Int) + off = (tg : Int)) : a_jmp pc off lv st h = some (.inl (tg, lv, st, h)) := by
  unfold a_jmp
  rw [ht, if_pos (by omega)]
  rfl
theorem rs_goto {off : Int} {tg : Nat} (hf : fetch mi pc = some (.goto off, nx, a, b, c, t)) (ht : (pc : Int) + off = (tg : Int)) (k : Run X d mi tg lv st h o) : Run X d mi pc lv st h o := rs_go hf (by simp only [astep]; exact jmp_to ht) k
theorem rs_ifT {cd : ClassFile.Cond} {off : Int} {x : Int32} {tg : Nat} (hf : fetch mi pc = some (.ifCond cd off, nx, a, b, c, t)) (hc : cc_t cd x 0 = true) (ht : (pc : Int) + off = (tg : Int)) (k : Run X d mi tg lv st h o) : Run X d mi pc lv (.int x :: st) h o := rs_go hf (by simp only [astep]; rw [if_pos hc]; exact jmp_to ht) k
theorem rs_ifF {cd : ClassFile.Cond} {off : Int} {x : Int32} (hf : fetch mi pc = some (.ifCond cd off, nx, a, b, c, t)) (hc : cc_t cd x 0 = false) (k : Run X d mi nx lv st h o) : Run X d mi pc lv (.int x :: st) h o := rs_go hf (by simp only [astep, a_go]; rw [if_neg (by rw [hc]; decide)]) k
theorem rs_icT {cd : ClassFile.Cond} {off : Int} {x y : Int32} {tg : Nat} (hf : fetch mi pc = some (.if_icmp cd off, nx, a, b, c, t)) (hc : cc_t cd x y = true) (ht : (pc : Int) + off = (tg : Int)) (k : Run X d mi tg lv st h o) : Run X d mi pc lv (.int y :: .int x :: st) h o := rs_go hf (by simp only [astep]; rw [if_pos hc]; exact jmp_to ht) k
theorem rs_icF {cd : ClassFile.Cond} {off : Int} {x y : Int32} (hf : fetch mi pc = some (.if_icmp cd off, nx, a, b, c, t)) (hc : cc_t cd x y = false) (k : Run X d mi nx lv st h o) : Run X d mi pc lv (.int y :: .int x :: st) h o := rs_go hf (by simp only [astep, a_go]; rw [if_neg (by rw [hc]; decide)]) k
theorem rs_tsw {df lo hi off : Int} {offs : Array Int} {x : Int32} {tg : Nat} (hf : fetch mi pc = some (.tableswitch df lo hi offs, nx, a, b, c, t)) (hx : swt df lo hi offs x = off) (ht : (pc : Int) + off = (tg : Int)) (k : Run X d mi tg lv st h o) : Run X d mi pc lv (.int x :: st) h o := rs_go hf (by simp only [astep]; rw [hx]; exact jmp_to ht) k
theorem rs_lsw {df off : Int} {ps : Array (Int × Int)} {x : Int32} {tg : Nat} (hf : fetch mi pc = some (.lookupswitch df ps, nx, a, b, c, t)) (hx : Op.lookupswitch.offset ps.toList df x.toInt = off) (ht : (pc : Int) + off = (tg : Int)) (k : Run X d mi tg lv st h o) : Run X d mi pc lv (.int x :: st) h o := rs_go hf (by simp only [astep]; rw [hx]; exact jmp_to ht) k
theorem swt_df {df lo hi : Int} {offs : Array Int} {x : Int32} (hx : x.toInt < lo ∨ hi < x.toInt) : swt df lo hi offs x = df := by unfold swt; rw [if_pos hx]
theorem ne_ti {x v : Int32} (h : ¬ x = v) : ¬ x.toInt = v.toInt := fun e => h (Int32.toInt_inj.mp e)
theorem lc_eq (x y : Int64) : cc_t .eq (lg_cmp x y) 0 = decide (x = y) := by
  unfold lg_cmp cc_t
  simp only [gt_iff_lt, Int64.lt_iff_toInt_lt, Int64.le_iff_toInt_le, ← Int64.toInt_inj, ne_eq]
  by_cases h1 : y.toInt < x.toInt
  · rw [if_pos h1]
    simp
    omega
  · rw [if_neg h1]
    by_cases h2 : x.toInt = y.toInt
    · rw [if_pos h2]
      simp
      omega
    · rw [if_neg h2]
      simp
      omega
theorem lc_ne (x y : Int64) : cc_t .ne (lg_cmp x y) 0 = decide (x ≠ y) := by
  unfold lg_cmp cc_t
  simp only [gt_iff_lt, Int64.lt_iff_toInt_lt, Int64.le_iff_toInt_le, ← Int64.toInt_inj, ne_eq]
  by_cases h1 : y.toInt < x.toInt
  · rw [if_pos h1]
    simp
    omega
  · rw [if_neg h1]
    by_cases h2 : x.toInt = y.toInt
    · rw [if_pos h2]
      simp
      omega
    · rw [if_neg h2]
      simp
      omega
theorem lc_lt (x y : Int64) : cc_t .lt (lg_cmp x y) 0 = decide (x < y) := by
  unfold lg_cmp cc_t
  simp only [gt_iff_lt, Int64.lt_iff_toInt_lt, Int64.le_iff_toInt_le, ← Int64.toInt_inj, ne_eq]
  by_cases h1 : y.toInt < x.toInt
  · rw [if_pos h1]
    simp
    omega
  · rw [if_neg h1]
    by_cases h2 : x.toInt = y.toInt
    · rw [if_pos h2]
      simp
      omega
    · rw [if_neg h2]
      simp
      omega
theorem lc_ge (x y : Int64) : cc_t .ge (lg_cmp x y) 0 = decide (y ≤ x) := by
  unfold lg_cmp cc_t
  simp only [gt_iff_lt, Int64.lt_iff_toInt_lt, Int64.le_iff_toInt_le, ← Int64.toInt_inj, ne_eq]
  by_cases h1 : y.toInt < x.toInt
  · rw [if_pos h1]
    simp
    omega
  · rw [if_neg h1]
    by_cases h2 : x.toInt = y.toInt
    · rw [if_pos h2]
      simp
      omega
    · rw [if_neg h2]
      simp
      omega
theorem lc_gt (x y : Int64) : cc_t .gt (lg_cmp x y) 0 = decide (y < x) := by
  unfold lg_cmp cc_t
  simp only [gt_iff_lt, Int64.lt_iff_toInt_lt, Int64.le_iff_toInt_le, ← Int64.toInt_inj, ne_eq]
  by_cases h1 : y.toInt < x.toInt
  · rw [if_pos h1]
    simp
    omega
  · rw [if_neg h1]
    by_cases h2 : x.toInt = y.toInt
    · rw [if_pos h2]
      simp
      omega
    · rw [if_neg h2]
      simp
      omega
theorem lc_le (x y : Int64) : cc_t .le (lg_cmp x y) 0 = decide (x ≤ y) := by
  unfold lg_cmp cc_t
  simp only [gt_iff_lt, Int64.lt_iff_toInt_lt, Int64.le_iff_toInt_le, ← Int64.toInt_inj, ne_eq]
  by_cases h1 : y.toInt < x.toInt
  · rw [if_pos h1]
    simp
    omega
  · rw [if_neg h1]
    by_cases h2 : x.toInt = y.toInt
    · rw [if_pos h2]
      simp
      omega
    · rw [if_neg h2]
      simp
      omega
theorem rs_getI {z r : Nat} (hf : fetch mi pc = some (.getfield z, nx, a, b, c, t)) (h20 : ¬ a = 20) (hfk : ¬ fk (tyf a b) = 1 ∧ ¬ fk (tyf a b) = 2) (hO : okO h r a) (k : Run X d mi nx lv (.int (gI h r b) :: st) h o) : Run X d mi pc lv (.ref r :: st) h o := rs_go hf (by
  have e : agetf h r a b = some (.int (gI h r b)) := by
    unfold agetf
    rw [if_neg h20, if_pos hO]
    split
    · next z => exact absurd z hfk.1
    · next z => exact absurd z hfk.2
    · rfl
  simp only [astep, a_go]; rw [e]) k
theorem rs_getL {z r : Nat} (hf : fetch mi pc = some (.getfield z, nx, a, b, c, t)) (h20 : ¬ a = 20) (hfk : fk (tyf a b) = 1) (hO : okO h r a) (k : Run X d mi nx lv (.long (gL' h r b) :: st) h o) : Run X d mi pc lv (.ref r :: st) h o := rs_go hf (by
  have e : agetf h r a b = some (.long (gL' h r b)) := by
    unfold agetf
    rw [if_neg h20, if_pos hO, hfk]
  simp only [astep, a_go]; rw [e]) k
theorem rs_getR {z r x : Nat} (hf : fetch mi pc = some (.getfield z, nx, a, b, c, t)) (h20 : ¬ a = 20) (hfk : fk (tyf a b) = 2) (hO : okO h r a) (hx : gR h r b = some x) (k : Run X d mi nx lv (.ref x :: st) h o) : Run X d mi pc lv (.ref r :: st) h o := rs_go hf (by
  have e : agetf h r a b = some (.ref x) := by
    unfold agetf
    rw [if_neg h20, if_pos hO, hfk]
    dsimp only
    rw [hx]
  simp only [astep, a_go]; rw [e]) k
theorem rs_getSv {z r : Nat} (hf : fetch mi pc = some (.getfield z, nx, 20, 0, c, t)) (hO : hk h r = (20, 2)) (k : Run X d mi nx lv (.ref (r + 3) :: st) h o) : Run X d mi pc lv (.ref r :: st) h o := rs_go hf (by
  have e : agetf h r 20 0 = some (.ref (r + 3)) := by
    unfold agetf
    rw [if_pos rfl, if_pos hO, if_pos rfl]
  simp only [astep, a_go]; rw [e]) k
theorem rs_getSc {z r : Nat} (hf : fetch mi pc = some (.getfield z, nx, 20, 1, c, t)) (hO : hk h r = (20, 2)) (k : Run X d mi nx lv (.int 0 :: st) h o) : Run X d mi pc lv (.ref r :: st) h o := rs_go hf (by
  have e : agetf h r 20 1 = some (.int 0) := by
    unfold agetf
    rw [if_pos rfl, if_pos hO, if_neg (by decide)]
  simp only [astep, a_go]; rw [e]) k
theorem rs_putI {z r : Nat} {x : Int32} (hf : fetch mi pc = some (.putfield z, nx, a, b, c, t)) (hfk : fk (tyf a b) = 0) (hO : okO h r a) (k : Run X d mi nx lv st (hsi h r b x) o) : Run X d mi pc lv (.int x :: .ref r :: st) h o := rs_go hf (by
  have e : aputf h r a b (.int x) = some (hsi h r b x) := by
    unfold aputf
    rw [if_pos hO]
    dsimp only
    rw [if_pos hfk]
  simp only [astep, a_go]; rw [e]) k
theorem rs_putZ {z r : Nat} {x : Int32} (hf : fetch mi pc = some (.putfield z, nx, a, b, c, t)) (hfk : fk (tyf a b) = 3) (hx : x = 0 ∨ x = 1) (hO : okO h r a) (k : Run X d mi nx lv st (hsi h r b x) o) : Run X d mi pc lv (.int x :: .ref r :: st) h o := rs_go hf (by
  have e : aputf h r a b (.int x) = some (hsi h r b x) := by
    unfold aputf
    rw [if_pos hO]
    dsimp only
    rw [if_neg (by rw [hfk]; decide), if_pos ⟨hfk, hx⟩]
  simp only [astep, a_go]; rw [e]) k
theorem rs_putL {z r : Nat} {x : Int64} (hf : fetch mi pc = some (.putfield z, nx, a, b, c, t)) (hfk : fk (tyf a b) = 1) (hO : okO h r a) (k : Run X d mi nx lv st (hsl h r b x) o) : Run X d mi pc lv (.long x :: .ref r :: st) h o := rs_go hf (by
  have e : aputf h r a b (.long x) = some (hsl h r b x) := by
    unfold aputf
    rw [if_pos hO]
    dsimp only
    rw [if_pos hfk]
  simp only [astep, a_go]; rw [e]) k
theorem rs_putR {z r x : Nat} (hf : fetch mi pc = some (.putfield z, nx, a, b, c, t)) (hfk : fk (tyf a b) = 2) (hx : 16 ≤ x) (hO : okO h r a) (k : Run X d mi nx lv st (hsr h r b (some x)) o) : Run X d mi pc lv (.ref x :: .ref r :: st) h o := rs_go hf (by
  have e : aputf h r a b (.ref x) = some (hsr h r b (some x)) := by
    unfold aputf
    rw [if_pos hO]
    dsimp only
    rw [if_pos ⟨hfk, hx⟩]
  simp only [astep, a_go]; rw [e]) k
theorem rs_iald {r : Nat} {i : Int32} (hf : fetch mi pc = some (.iaload, nx, a, b, c, t)) (hc : okI h r i) (k : Run X d mi nx lv (.int (gI h r (ix i)) :: st) h o) : Run X d mi pc lv (.int i :: .ref r :: st) h o := rs_go hf (by simp only [astep, a_go]; rw [if_pos hc.2, if_pos hc.1]) k
theorem rs_ialdA {i : Int32} (hf : fetch mi pc = some (.iaload, nx, a, b, c, t)) (hc : okC h 0 i) (k : Run X d mi nx lv (.int (roC 0 (ix i)) :: st) h o) : Run X d mi pc lv (.int i :: .ref 0 :: st) h o := rs_go hf (by simp only [astep, a_go]; rw [if_pos hc.2, if_neg (by rw [hc.1]; decide), if_pos hc.1, roC_eq (X := X) 0 _ (by decide)]) k
theorem rs_ialdS {i : Int32} (hf : fetch mi pc = some (.iaload, nx, a, b, c, t)) (hc : okC h 14 i) (k : Run X d mi nx lv (.int (X (ix i)) :: st) h o) : Run X d mi pc lv (.int i :: .ref 14 :: st) h o := rs_go hf (by simp only [astep, a_go]; rw [if_pos hc.2, if_neg (by rw [hc.1]; decide), if_pos hc.1]; rfl) k
theorem rs_bald {r : Nat} {i : Int32} (hf : fetch mi pc = some (.baload, nx, a, b, c, t)) (hc : okB h r i) (hr : ¬ r = 14) (k : Run X d mi nx lv (.int (roC r (ix i)) :: st) h o) : Run X d mi pc lv (.int i :: .ref r :: st) h o := rs_go hf (by simp only [astep, a_go]; rw [if_pos ⟨hc.2, hc.1⟩, roC_eq (X := X) r _ hr]) k
theorem rs_lald {r : Nat} {i : Int32} (hf : fetch mi pc = some (.laload, nx, a, b, c, t)) (hc : okL h r i) (k : Run X d mi nx lv (.long (gL' h r (ix i)) :: st) h o) : Run X d mi pc lv (.int i :: .ref r :: st) h o := rs_go hf (by simp only [astep, a_go]; rw [if_pos ⟨hc.2, hc.1⟩]) k
theorem rs_aald {r x : Nat} {i : Int32} (hf : fetch mi pc = some (.aaload, nx, a, b, c, t)) (hc : okR h r i) (hx : gR h r (ix i) = some x) (k : Run X d mi nx lv (.ref x :: st) h o) : Run X d mi pc lv (.int i :: .ref r :: st) h o := rs_go hf (by simp only [astep, a_go]; rw [if_pos ⟨hc.2, hc.1⟩, hx]) k
theorem rs_iast {r : Nat} {i x : Int32} (hf : fetch mi pc = some (.iastore, nx, a, b, c, t)) (hc : okI h r i) (k : Run X d mi nx lv st (hsi h r (ix i) x) o) : Run X d mi pc lv (.int x :: .int i :: .ref r :: st) h o := rs_go hf (by simp only [astep, a_go]; rw [if_pos ⟨hc.2, hc.1⟩]) k
theorem rs_last {r : Nat} {i : Int32} {x : Int64} (hf : fetch mi pc = some (.lastore, nx, a, b, c, t)) (hc : okL h r i) (k : Run X d mi nx lv st (hsl h r (ix i) x) o) : Run X d mi pc lv (.long x :: .int i :: .ref r :: st) h o := rs_go hf (by simp only [astep, a_go]; rw [if_pos ⟨hc.2, hc.1⟩]) k
theorem rs_aast {r x : Nat} {i : Int32} (hf : fetch mi pc = some (.aastore, nx, a, b, c, t)) (hc : okR h r i) (hx : hk h x = (comps (hk h r).1, nFf (comps (hk h r).1))) (k : Run X d mi nx lv st (hsr h r (ix i) (some x)) o) : Run X d mi pc lv (.ref x :: .int i :: .ref r :: st) h o := rs_go hf (by simp only [astep, a_go]; rw [if_pos ⟨hc.2, hc.1, hx⟩]) k
theorem rs_alI {r : Nat} (hf : fetch mi pc = some (.arraylength, nx, a, b, c, t)) (hc : (hk h r).1 = 9) (k : Run X d mi nx lv (.int (Int32.ofNat (hk h r).2) :: st) h o) : Run X d mi pc lv (.ref r :: st) h o := rs_go hf (by simp only [astep, a_go]; rw [hc]) k
theorem rs_alB {r : Nat} (hf : fetch mi pc = some (.arraylength, nx, a, b, c, t)) (hc : (hk h r).1 = 21) (k : Run X d mi nx lv (.int (Int32.ofNat (hk h r).2) :: st) h o) : Run X d mi pc lv (.ref r :: st) h o := rs_go hf (by simp only [astep, a_go]; rw [hc]) k
theorem rs_alC {r : Nat} (hf : fetch mi pc = some (.arraylength, nx, a, b, c, t)) (hc : (hk h r).1 = 22) (k : Run X d mi nx lv (.int (Int32.ofNat (hk h r).2) :: st) h o) : Run X d mi pc lv (.ref r :: st) h o := rs_go hf (by simp only [astep, a_go]; rw [hc]) k
theorem rs_gst0 {z : Nat} (hf : fetch mi pc = some (.getstatic z, nx, a, b, c, t)) (ha : a = 0) (k : Run X d mi nx lv (.ref 0 :: st) h o) : Run X d mi pc lv st h o := rs_go hf (by subst ha; rfl) k
theorem rs_gst1 {z : Nat} (hf : fetch mi pc = some (.getstatic z, nx, a, b, c, t)) (ha : a = 1) (k : Run X d mi nx lv (.int 1 :: st) h o) : Run X d mi pc lv st h o := rs_go hf (by subst ha; rfl) k
theorem rs_gst2 {z : Nat} (hf : fetch mi pc = some (.getstatic z, nx, a, b, c, t)) (ha : a = 2) (k : Run X d mi nx lv (.retAddr 0 :: st) h o) : Run X d mi pc lv st h o := rs_go hf (by subst ha; rfl) k
theorem rs_newa {z : ArrayType} {n : Int32} (hf : fetch mi pc = some (.newarray z, nx, a, b, c, t)) (hn : 0 ≤ n.toInt ∧ n.toInt ≤ 100000 ∧ a < 14) (k : Run X d mi nx lv (.ref h.1.length :: st) (hnew h (a, ix n)) o) : Run X d mi pc lv (.int n :: st) h o := rs_go hf (by simp only [astep, a_go]; rw [if_pos hn]) k
theorem rs_newq {z : Nat} {n : Int32} (hf : fetch mi pc = some (.anewarray z, nx, a, b, c, t)) (hn : 0 ≤ n.toInt ∧ n.toInt ≤ 100000 ∧ a < 14) (k : Run X d mi nx lv (.ref h.1.length :: st) (hnew h (a, ix n)) o) : Run X d mi pc lv (.int n :: st) h o := rs_go hf (by simp only [astep, a_go]; rw [if_pos hn]) k
theorem rs_new {z : Nat} (hf : fetch mi pc = some (.new z, nx, a, b, c, t)) (ha : a < 14) (k : Run X d mi nx lv (.ref h.1.length :: st) (hnew h (a, nFf a)) o) : Run X d mi pc lv st h o := rs_go hf (by simp only [astep, a_go]; rw [if_pos ha]) k
theorem rs_objI {z r : Nat} (hf : fetch mi pc = some (.invokespecial z, nx, 1000, b, c, t)) (hs : (st.map (fun v => v.category)).sum ≤ 8) (k : Run X d mi nx lv st h o) : Run X d mi pc lv (.ref r :: st) h o := rs_go hf (by simp only [astep, a_go, if_pos]; rw [if_pos hs]) k
abbrev okCp (h : Hp) (x : Nat) (s : Int32) (y : Nat) (e n : Int32) : Prop := 0 ≤ n.toInt ∧ 0 ≤ e.toInt ∧ 0 ≤ s.toInt ∧ ix s + ix n ≤ (hk h x).2 ∧ ix e + ix n ≤ (hk h y).2 ∧ (hk h x).1 = 9 ∧ (hk h y).1 = 9
theorem rs_acp {z x y : Nat} {n e s : Int32} (hf : fetch mi pc = some (.invokestatic z, nx, 1001, b, c, t)) (hc : okCp h x s y e n) (hs : (st.map (fun v => v.category)).sum ≤ 8) (k : Run X d mi nx lv st (hcp h x (ix s) y (ix e) (ix n)) o) : Run X d mi pc lv (.int n :: .int e :: .ref y :: .int s :: .ref x :: st) h o := rs_go hf (by
  simp only [astep, a_go, if_pos]
  obtain ⟨h1, h2, h3, h4, h5, h6, h7⟩ := hc
  rw [if_pos ⟨h1, h2, h3, h4, h5, h6, h7, hs⟩]) k
theorem rs_abs {z : Nat} {x : Int32} (hf : fetch mi pc = some (.invokestatic z, nx, 1002, b, c, t)) (hs : (st.map (fun v => v.category)).sum ≤ 8) (k : Run X d mi nx lv (.int (if 0 ≤ x then x else 0 - x) :: st) h o) : Run X d mi pc lv (.int x :: st) h o := rs_go hf (by simp only [astep]; rw [if_neg (by decide), if_pos (by decide)]; simp only [a_math, a_go]; rw [if_pos hs]) k
theorem rs_max {z : Nat} {x y : Int32} (hf : fetch mi pc = some (.invokestatic z, nx, 1003, b, c, t)) (hs : (st.map (fun v => v.category)).sum ≤ 8) (k : Run X d mi nx lv (.int (if x < y then y else x) :: st) h o) : Run X d mi pc lv (.int y :: .int x :: st) h o := rs_go hf (by simp only [astep]; rw [if_neg (by decide), if_pos (by decide)]; simp only [a_math, a_go]; rw [if_pos hs]) k
theorem rs_maxl {z : Nat} {x y : Int64} (hf : fetch mi pc = some (.invokestatic z, nx, 1004, b, c, t)) (hs : (st.map (fun v => v.category)).sum ≤ 8) (k : Run X d mi nx lv (.long (if y < x then x else y) :: st) h o) : Run X d mi pc lv (.long y :: .long x :: st) h o := rs_go hf (by simp only [astep]; rw [if_neg (by decide), if_pos (by decide)]; simp only [a_math, a_go]; rw [if_pos hs]) k
theorem rs_min {z : Nat} {x y : Int32} (hf : fetch mi pc = some (.invokestatic z, nx, 1005, b, c, t)) (hs : (st.map (fun v => v.category)).sum ≤ 8) (k : Run X d mi nx lv (.int (if y < x then y else x) :: st) h o) : Run X d mi pc lv (.int y :: .int x :: st) h o := rs_go hf (by simp only [astep]; rw [if_neg (by decide), if_pos (by decide)]; simp only [a_math, a_go]; rw [if_pos hs]) k
theorem rs_minl {z : Nat} {x y : Int64} (hf : fetch mi pc = some (.invokestatic z, nx, 1006, b, c, t)) (hs : (st.map (fun v => v.category)).sum ≤ 8) (k : Run X d mi nx lv (.long (if y < x then y else x) :: st) h o) : Run X d mi pc lv (.long y :: .long x :: st) h o := rs_go hf (by simp only [astep]; rw [if_neg (by decide), if_pos (by decide)]; simp only [a_math, a_go]; rw [if_pos hs]) k
theorem rs_inS {z cal : Nat} {N : MI} {As rest : List Value} {rv : Option Value} {h1 : Hp} (hf : fetch mi pc = some (.invokestatic z, nx, cal, b, c, t)) (hcl : cal < 1000) (hM : minf[cal]? = some N) (hk0 : N.2.2.2.2.2.2.1 = 0) (hst : st = As.reverse ++ rest) (hlen : As.length = N.2.2.2.2.2.2.2.1) (hsum : (rest.map (fun v => v.category)).sum ≤ 8) (hc : Calls X d cal As h (rv, h1)) (k : Run X (d + 1) mi nx lv (rv.toList ++ rest) h1 o) : Run X (d + 1) mi pc lv st h o := by
  refine rs_call (vs := As) (rest := rest) hf ?_ hc k
  simp only [astep]
  rw [if_neg (by omega), if_neg (by omega)]
  unfold a_call
  rw [hM]
  dsimp only
  subst hst
  have hl : As.reverse.length = N.2.2.2.2.2.2.2.1 := by rw [List.length_reverse]; exact hlen
  rw [if_neg (by rw [List.length_append, hl]; omega), if_pos hk0, ← hl, List.drop_left, if_pos ⟨hsum, rfl⟩, List.take_left, List.reverse_reverse]
theorem rs_inV {z cal r : Nat} {N : MI} {As rest : List Value} {rv : Option Value} {h1 : Hp} (hf : fetch mi pc = some (.invokevirtual z, nx, cal, b, c, t)) (hM : minf[cal]? = some N) (hk0 : N.2.2.2.2.2.2.1 = 1) (hst : st = As.reverse ++ .ref r :: rest) (hlen : As.length = N.2.2.2.2.2.2.2.1) (hsum : (rest.map (fun v => v.category)).sum ≤ 8) (hO : okO h r N.2.1) (hc : Calls X d cal (.ref r :: As) h (rv, h1)) (k : Run X (d + 1) mi nx lv (rv.toList ++ rest) h1 o) : Run X (d + 1) mi pc lv st h o := by
  refine rs_call (vs := .ref r :: As) (rest := rest) hf ?_ hc k
  simp only [astep]
  unfold a_call
  rw [hM]
  dsimp only
  subst hst
  have hl : As.reverse.length = N.2.2.2.2.2.2.2.1 := by rw [List.length_reverse]; exact hlen
  rw [if_neg (by rw [List.length_append, hl]; omega), if_neg (by omega), ← hl, List.drop_left]
  dsimp only
  rw [if_pos ⟨hsum, hO, by rw [hk0]; decide⟩, List.take_left, List.reverse_reverse]
theorem rs_inI {z cal r : Nat} {N : MI} {As rest : List Value} {rv : Option Value} {h1 : Hp} (hf : fetch mi pc = some (.invokespecial z, nx, cal, b, c, t)) (hcl : cal < 1000) (hM : minf[cal]? = some N) (hk0 : N.2.2.2.2.2.2.1 = 2) (hst : st = As.reverse ++ .ref r :: rest) (hlen : As.length = N.2.2.2.2.2.2.2.1) (hsum : (rest.map (fun v => v.category)).sum ≤ 8) (hO : okO h r N.2.1) (hc : Calls X d cal (.ref r :: As) h (rv, h1)) (k : Run X (d + 1) mi nx lv (rv.toList ++ rest) h1 o) : Run X (d + 1) mi pc lv st h o := by
  refine rs_call (vs := .ref r :: As) (rest := rest) hf ?_ hc k
  simp only [astep]
  rw [if_neg (by omega)]
  unfold a_call
  rw [hM]
  dsimp only
  subst hst
  have hl : As.reverse.length = N.2.2.2.2.2.2.2.1 := by rw [List.length_reverse]; exact hlen
  rw [if_neg (by rw [List.length_append, hl]; omega), if_neg (by omega), ← hl, List.drop_left]
  dsimp only
  rw [if_pos ⟨hsum, hO, by rw [hk0]; decide⟩, List.take_left, List.reverse_reverse]
theorem rs_iret {v : Int32} {N : MI} (hf : fetch mi pc = some (.ireturn, nx, a, b, c, t)) (hM : minf[mi]? = some N) (hv : okret N.2.2.2.2.2.1 v = true) : Run X d mi pc lv [.int v] h (some (.int v), h) := rs_ret hf (by simp only [astep]; rw [hM]; dsimp only; rw [if_pos hv])
theorem rs_lret {v : Int64} {N : MI} (hf : fetch mi pc = some (.lreturn, nx, a, b, c, t)) (hM : minf[mi]? = some N) (hv : N.2.2.2.2.2.1 = some .long) : Run X d mi pc lv [.long v] h (some (.long v), h) := rs_ret hf (by simp only [astep]; rw [hM]; dsimp only; rw [if_pos hv])
theorem rs_vret {N : MI} (hf : fetch mi pc = some (.return_, nx, a, b, c, t)) (hM : minf[mi]? = some N) (hv : N.2.2.2.2.2.1 = none) : Run X d mi pc lv [] h (none, h) := rs_ret hf (by simp only [astep]; rw [hM]; dsimp only; rw [if_pos hv])
end RS
