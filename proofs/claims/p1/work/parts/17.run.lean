/-! RUNS of the abstract machine, an instruction a row -/
noncomputable def Run (X : Nat → Int32) (d mi pc : Nat) (lv : Lv) (st : List Value) (h : Hp) (o : Option Value × Hp) : Prop := ∃ n, arun X n d mi pc lv st h = some o
noncomputable def Calls (X : Nat → Int32) (d cal : Nat) (vs : List Value) (h : Hp) (o : Option Value × Hp) : Prop := ∃ lv0, aent cal vs = some lv0 ∧ Run X d cal 0 lv0 [] h o
theorem arun_mono {X : Nat → Int32} : ∀ (n m d mi pc : Nat) (lv : Lv) (st : List Value) (h : Hp) (o : Option Value × Hp), n ≤ m → arun X n d mi pc lv st h = some o → arun X m d mi pc lv st h = some o := by
  intro n
  induction n with
  | zero => intro m d mi pc lv st h o _ hr; cases hr
  | succ n ih =>
    intro m d mi pc lv st h o hle hr
    obtain ⟨m, rfl⟩ : ∃ k, m = k + 1 := ⟨m - 1, by omega⟩
    have hle : n ≤ m := by omega
    unfold arun at hr ⊢
    cases hf : fetch mi pc with
    | none => rw [hf] at hr; cases hr
    | some q =>
      rw [hf] at hr
      dsimp only at hr ⊢
      cases hs : astep minf X mi q pc lv st h with
      | none => rw [hs] at hr; cases hr
      | some r =>
        rw [hs] at hr
        rcases r with ⟨pc1, lv1, st1, h1⟩ | rv | ⟨cal, vs, nx, lv1, rest⟩
        · exact ih m _ _ _ _ _ _ _ hle hr
        · exact hr
        · dsimp only at hr ⊢
          cases d with
          | zero => cases hr
          | succ d' =>
            dsimp only at hr ⊢
            cases he : aent cal vs with
            | none => rw [he] at hr; cases hr
            | some lv0 =>
              rw [he] at hr
              dsimp only at hr ⊢
              cases hc : arun X n d' cal 0 lv0 [] h with
              | none => rw [hc] at hr; cases hr
              | some z =>
                rw [hc] at hr
                rw [ih m _ _ _ _ _ _ _ hle hc]
                exact ih m _ _ _ _ _ _ _ hle hr
section RS
variable {X : Nat → Int32} {d mi pc : Nat} {lv lv' : Lv} {st st' : List Value} {h h' : Hp} {o : Option Value × Hp} {nx a b t : Nat} {c : Int}
theorem rs_go {q : AI} {pc' : Nat} (hf : fetch mi pc = some q) (hs : astep minf X mi q pc lv st h = some (.inl (pc', lv', st', h'))) (k : Run X d mi pc' lv' st' h' o) : Run X d mi pc lv st h o := by
  obtain ⟨n, hn⟩ := k
  refine ⟨n + 1, ?_⟩
  unfold arun
  rw [hf]
  dsimp only
  rw [hs]
  exact hn
theorem rs_ret {q : AI} {rv : Option Value} (hf : fetch mi pc = some q) (hs : astep minf X mi q pc lv st h = some (.inr (.inl rv))) : Run X d mi pc lv st h (rv, h) := by
  refine ⟨1, ?_⟩
  unfold arun
  rw [hf]
  dsimp only
  rw [hs]
theorem rs_call {q : AI} {cal : Nat} {vs rest : List Value} {rv : Option Value} {h1 : Hp} (hf : fetch mi pc = some q) (hs : astep minf X mi q pc lv st h = some (.inr (.inr (cal, vs, nx, lv', rest)))) (hc : Calls X d cal vs h (rv, h1)) (k : Run X (d + 1) mi nx lv' (rv.toList ++ rest) h1 o) : Run X (d + 1) mi pc lv st h o := by
  obtain ⟨n, hn⟩ := k
  obtain ⟨lv0, he, n2, hn2⟩ := hc
  refine ⟨max n n2 + 1, ?_⟩
  unfold arun
  rw [hf]
  dsimp only
  rw [hs]
  dsimp only
  rw [he]
  dsimp only
  rw [arun_mono _ _ _ _ _ _ _ _ _ (Nat.le_max_right n n2) hn2]
  exact arun_mono _ _ _ _ _ _ _ _ _ (Nat.le_max_left n n2) hn
theorem ite_some {α : Type} {p : Prop} [Decidable p] {x : Option α} {o : α} (hf : (if p then x else none) = some o) : p ∧ x = some o := by
  by_cases hp : p
  · rw [if_pos hp] at hf
    exact ⟨hp, hf⟩
  · rw [if_neg hp] at hf
    cases hf
theorem bind_some {α β : Type} {x : Option α} {f : α → Option β} {o : β} (hf : x.bind f = some o) : ∃ a, x = some a ∧ f a = some o := Option.bind_eq_some_iff.mp hf
-- what a row of the heap is asked
noncomputable abbrev okO (h : Hp) (r ci : Nat) : Prop := hk h r = (ci, nFf ci)
noncomputable abbrev okI (h : Hp) (r : Nat) (i : Int32) : Prop := (hk h r).1 = 9 ∧ inb i (hk h r).2 = true
noncomputable abbrev okL (h : Hp) (r : Nat) (i : Int32) : Prop := (hk h r).1 = 10 ∧ inb i (hk h r).2 = true
noncomputable abbrev okR (h : Hp) (r : Nat) (i : Int32) : Prop := (11 ≤ (hk h r).1 ∧ (hk h r).1 ≤ 13) ∧ inb i (hk h r).2 = true
noncomputable abbrev okC (h : Hp) (r : Nat) (i : Int32) : Prop := (hk h r).1 = 22 ∧ inb i (hk h r).2 = true
noncomputable abbrev okB (h : Hp) (r : Nat) (i : Int32) : Prop := (hk h r).1 = 21 ∧ inb i (hk h r).2 = true
noncomputable abbrev ix (i : Int32) : Nat := i.toNatClampNeg
noncomputable abbrev gI (h : Hp) (r j : Nat) : Int32 := h.2.1 r j
noncomputable abbrev gL' (h : Hp) (r j : Nat) : Int64 := h.2.2.1 r j
noncomputable abbrev gR (h : Hp) (r j : Nat) : Option Nat := h.2.2.2 r j
noncomputable def roC (a j : Nat) : Int32 := roI (fun _ => 0) a j
theorem roC_eq (a j : Nat) (ha : a ≠ 14) : roI X a j = roC a j := by
  unfold roC roI
  split <;> first | rfl | exact absurd rfl ha
theorem ct_eq {x y : Int32} (h : x = y) : cc_t .eq x y = true := decide_eq_true h
theorem cf_eq {x y : Int32} (h : ¬ x = y) : cc_t .eq x y = false := decide_eq_false h
theorem ct_ne {x y : Int32} (h : x ≠ y) : cc_t .ne x y = true := decide_eq_true h
theorem cf_ne {x y : Int32} (h : ¬ x ≠ y) : cc_t .ne x y = false := decide_eq_false h
theorem ct_lt {x y : Int32} (h : x < y) : cc_t .lt x y = true := decide_eq_true h
theorem cf_lt {x y : Int32} (h : ¬ x < y) : cc_t .lt x y = false := decide_eq_false h
theorem ct_ge {x y : Int32} (h : y ≤ x) : cc_t .ge x y = true := decide_eq_true h
theorem cf_ge {x y : Int32} (h : ¬ y ≤ x) : cc_t .ge x y = false := decide_eq_false h
theorem ct_gt {x y : Int32} (h : y < x) : cc_t .gt x y = true := decide_eq_true h
theorem cf_gt {x y : Int32} (h : ¬ y < x) : cc_t .gt x y = false := decide_eq_false h
theorem ct_le {x y : Int32} (h : x ≤ y) : cc_t .le x y = true := decide_eq_true h
theorem cf_le {x y : Int32} (h : ¬ x ≤ y) : cc_t .le x y = false := decide_eq_false h
theorem rs_iadd {x y : Int32} (hf : fetch mi pc = some (.iadd, nx, a, b, c, t))  (k : Run X d mi nx lv (.int (x + y) :: st) h o) : Run X d mi pc lv (.int y :: .int x :: st) h o := rs_go hf rfl k
theorem rs_isub {x y : Int32} (hf : fetch mi pc = some (.isub, nx, a, b, c, t))  (k : Run X d mi nx lv (.int (x - y) :: st) h o) : Run X d mi pc lv (.int y :: .int x :: st) h o := rs_go hf rfl k
theorem rs_imul {x y : Int32} (hf : fetch mi pc = some (.imul, nx, a, b, c, t))  (k : Run X d mi nx lv (.int (x * y) :: st) h o) : Run X d mi pc lv (.int y :: .int x :: st) h o := rs_go hf rfl k
theorem rs_iand {x y : Int32} (hf : fetch mi pc = some (.iand, nx, a, b, c, t))  (k : Run X d mi nx lv (.int (x &&& y) :: st) h o) : Run X d mi pc lv (.int y :: .int x :: st) h o := rs_go hf rfl k
theorem rs_ior {x y : Int32} (hf : fetch mi pc = some (.ior, nx, a, b, c, t))  (k : Run X d mi nx lv (.int (x ||| y) :: st) h o) : Run X d mi pc lv (.int y :: .int x :: st) h o := rs_go hf rfl k
theorem rs_ladd {x y : Int64} (hf : fetch mi pc = some (.ladd, nx, a, b, c, t))  (k : Run X d mi nx lv (.long (x + y) :: st) h o) : Run X d mi pc lv (.long y :: .long x :: st) h o := rs_go hf rfl k
theorem rs_lsub {x y : Int64} (hf : fetch mi pc = some (.lsub, nx, a, b, c, t))  (k : Run X d mi nx lv (.long (x - y) :: st) h o) : Run X d mi pc lv (.long y :: .long x :: st) h o := rs_go hf rfl k
theorem rs_lmul {x y : Int64} (hf : fetch mi pc = some (.lmul, nx, a, b, c, t))  (k : Run X d mi nx lv (.long (x * y) :: st) h o) : Run X d mi pc lv (.long y :: .long x :: st) h o := rs_go hf rfl k
theorem rs_land {x y : Int64} (hf : fetch mi pc = some (.land, nx, a, b, c, t))  (k : Run X d mi nx lv (.long (x &&& y) :: st) h o) : Run X d mi pc lv (.long y :: .long x :: st) h o := rs_go hf rfl k
theorem rs_lor {x y : Int64} (hf : fetch mi pc = some (.lor, nx, a, b, c, t))  (k : Run X d mi nx lv (.long (x ||| y) :: st) h o) : Run X d mi pc lv (.long y :: .long x :: st) h o := rs_go hf rfl k
theorem rs_ishl {x y : Int32} (hf : fetch mi pc = some (.ishl, nx, a, b, c, t))  (k : Run X d mi nx lv (.int (x <<< (y &&& 31)) :: st) h o) : Run X d mi pc lv (.int y :: .int x :: st) h o := rs_go hf rfl k
theorem rs_ishr {x y : Int32} (hf : fetch mi pc = some (.ishr, nx, a, b, c, t))  (k : Run X d mi nx lv (.int (x >>> (y &&& 31)) :: st) h o) : Run X d mi pc lv (.int y :: .int x :: st) h o := rs_go hf rfl k
theorem rs_lshl {y : Int32} {x : Int64} (hf : fetch mi pc = some (.lshl, nx, a, b, c, t))  (k : Run X d mi nx lv (.long (x <<< (y.toInt64 &&& 63)) :: st) h o) : Run X d mi pc lv (.int y :: .long x :: st) h o := rs_go hf rfl k
theorem rs_lshr {y : Int32} {x : Int64} (hf : fetch mi pc = some (.lshr, nx, a, b, c, t))  (k : Run X d mi nx lv (.long (x >>> (y.toInt64 &&& 63)) :: st) h o) : Run X d mi pc lv (.int y :: .long x :: st) h o := rs_go hf rfl k
theorem rs_lushr {y : Int32} {x : Int64} (hf : fetch mi pc = some (.lushr, nx, a, b, c, t))  (k : Run X d mi nx lv (.long (x.toUInt64 >>> (y.toInt64.toUInt64 &&& Int64.toUInt64 63)).toInt64 :: st) h o) : Run X d mi pc lv (.int y :: .long x :: st) h o := rs_go hf rfl k
theorem rs_ineg {x : Int32} (hf : fetch mi pc = some (.ineg, nx, a, b, c, t))  (k : Run X d mi nx lv (.int (-x) :: st) h o) : Run X d mi pc lv (.int x :: st) h o := rs_go hf rfl k
theorem rs_lneg {x : Int64} (hf : fetch mi pc = some (.lneg, nx, a, b, c, t))  (k : Run X d mi nx lv (.long (-x) :: st) h o) : Run X d mi pc lv (.long x :: st) h o := rs_go hf rfl k
theorem rs_lcmp {x y : Int64} (hf : fetch mi pc = some (.lcmp, nx, a, b, c, t))  (k : Run X d mi nx lv (.int (lg_cmp x y) :: st) h o) : Run X d mi pc lv (.long y :: .long x :: st) h o := rs_go hf rfl k
theorem rs_i2l {x : Int32} (hf : fetch mi pc = some (.i2l, nx, a, b, c, t))  (k : Run X d mi nx lv (.long x.toInt64 :: st) h o) : Run X d mi pc lv (.int x :: st) h o := rs_go hf rfl k
theorem rs_l2i {x : Int64} (hf : fetch mi pc = some (.l2i, nx, a, b, c, t))  (k : Run X d mi nx lv (.int x.toInt32 :: st) h o) : Run X d mi pc lv (.long x :: st) h o := rs_go hf rfl k
theorem rs_i2b {x : Int32} (hf : fetch mi pc = some (.i2b, nx, a, b, c, t))  (k : Run X d mi nx lv (.int x.toInt8.toInt32 :: st) h o) : Run X d mi pc lv (.int x :: st) h o := rs_go hf rfl k
theorem rs_i2s {x : Int32} (hf : fetch mi pc = some (.i2s, nx, a, b, c, t))  (k : Run X d mi nx lv (.int x.toInt16.toInt32 :: st) h o) : Run X d mi pc lv (.int x :: st) h o := rs_go hf rfl k
theorem rs_i2c {x : Int32} (hf : fetch mi pc = some (.i2c, nx, a, b, c, t))  (k : Run X d mi nx lv (.int (x.toUInt32 % 65536).toInt32 :: st) h o) : Run X d mi pc lv (.int x :: st) h o := rs_go hf rfl k
theorem rs_idiv {x y : Int32} (hf : fetch mi pc = some (.idiv, nx, a, b, c, t)) (hy : ¬ y = 0) (k : Run X d mi nx lv (.int (x / y) :: st) h o) : Run X d mi pc lv (.int y :: .int x :: st) h o := rs_go hf (by simp only [astep, a_go]; rw [if_neg hy]; try rfl) k
theorem rs_irem {x y : Int32} (hf : fetch mi pc = some (.irem, nx, a, b, c, t)) (hy : ¬ y = 0) (k : Run X d mi nx lv (.int (x - x / y * y) :: st) h o) : Run X d mi pc lv (.int y :: .int x :: st) h o := rs_go hf (by simp only [astep, a_go]; rw [if_neg hy]; try rfl) k
theorem rs_ldiv {x y : Int64} (hf : fetch mi pc = some (.ldiv, nx, a, b, c, t)) (hy : ¬ y = 0) (k : Run X d mi nx lv (.long (x / y) :: st) h o) : Run X d mi pc lv (.long y :: .long x :: st) h o := rs_go hf (by simp only [astep, a_go]; rw [if_neg hy]; try rfl) k
theorem rs_lrem {x y : Int64} (hf : fetch mi pc = some (.lrem, nx, a, b, c, t)) (hy : ¬ y = 0) (k : Run X d mi nx lv (.long (x - x / y * y) :: st) h o) : Run X d mi pc lv (.long y :: .long x :: st) h o := rs_go hf (by simp only [astep, a_go]; rw [if_neg hy]; try rfl) k
theorem rs_iconst {z : Int} {v : Int32} (hf : fetch mi pc = some (.iconst z, nx, a, b, c, t)) (hv : Int32.ofInt z = v) (k : Run X d mi nx lv (.int v :: st) h o) : Run X d mi pc lv st h o := rs_go hf (by subst hv; rfl) k
theorem rs_bipush {z : Int} {v : Int32} (hf : fetch mi pc = some (.bipush z, nx, a, b, c, t)) (hv : (Int8.ofInt z).toInt32 = v) (k : Run X d mi nx lv (.int v :: st) h o) : Run X d mi pc lv st h o := rs_go hf (by subst hv; rfl) k
theorem rs_sipush {z : Int} {v : Int32} (hf : fetch mi pc = some (.sipush z, nx, a, b, c, t)) (hv : (Int16.ofInt z).toInt32 = v) (k : Run X d mi nx lv (.int v :: st) h o) : Run X d mi pc lv st h o := rs_go hf (by subst hv; rfl) k
theorem rs_lconst {z : Fin 2} {v : Int64} (hf : fetch mi pc = some (.lconst z, nx, a, b, c, t)) (hv : Int64.ofNat z.val = v) (k : Run X d mi nx lv (.long v :: st) h o) : Run X d mi pc lv st h o := rs_go hf (by subst hv; rfl) k
theorem rs_ldc {z : Nat} {v : Int32} (hf : fetch mi pc = some (.ldc z, nx, 0, b, c, t)) (hv : Int32.ofInt c = v) (k : Run X d mi nx lv (.int v :: st) h o) : Run X d mi pc lv st h o := rs_go hf (by subst hv; rfl) k
theorem rs_ldcS {z : Nat} (hf : fetch mi pc = some (.ldc z, nx, a, b, c, t)) (ha : a ≠ 0) (k : Run X d mi nx lv (.ref a :: st) h o) : Run X d mi pc lv st h o := rs_go hf (by simp only [astep, a_go]; rw [if_neg ha]; try rfl) k
theorem rs_ldcw {z : Nat} {v : Int32} (hf : fetch mi pc = some (.ldc_w z, nx, a, b, c, t)) (hv : Int32.ofInt c = v) (k : Run X d mi nx lv (.int v :: st) h o) : Run X d mi pc lv st h o := rs_go hf (by subst hv; rfl) k
theorem rs_ldc2 {z : Nat} {v : Int64} (hf : fetch mi pc = some (.ldc2_w z, nx, a, b, c, t)) (hv : Int64.ofInt c = v) (k : Run X d mi nx lv (.long v :: st) h o) : Run X d mi pc lv st h o := rs_go hf (by subst hv; rfl) k
theorem rs_iload {z : Nat} {x : Int32} (hf : fetch mi pc = some (.iload z, nx, a, b, c, t)) (hl : lv.getD z none = some (.int x)) (k : Run X d mi nx lv (.int x :: st) h o) : Run X d mi pc lv st h o := rs_go hf (by simp only [astep, a_go]; rw [hl]; try rfl) k
theorem rs_iload_n {z : Fin 4} {x : Int32} (hf : fetch mi pc = some (.iload_n z, nx, a, b, c, t)) (hl : lv.getD z.val none = some (.int x)) (k : Run X d mi nx lv (.int x :: st) h o) : Run X d mi pc lv st h o := rs_go hf (by simp only [astep, a_go]; rw [hl]; try rfl) k
theorem rs_lload {z : Nat} {x : Int64} (hf : fetch mi pc = some (.lload z, nx, a, b, c, t)) (hl : lv.getD z none = some (.long x)) (k : Run X d mi nx lv (.long x :: st) h o) : Run X d mi pc lv st h o := rs_go hf (by simp only [astep, a_go]; rw [hl]; try rfl) k
theorem rs_lload_n {z : Fin 4} {x : Int64} (hf : fetch mi pc = some (.lload_n z, nx, a, b, c, t)) (hl : lv.getD z.val none = some (.long x)) (k : Run X d mi nx lv (.long x :: st) h o) : Run X d mi pc lv st h o := rs_go hf (by simp only [astep, a_go]; rw [hl]; try rfl) k
theorem rs_aload {z : Nat} {x : Nat} (hf : fetch mi pc = some (.aload z, nx, a, b, c, t)) (hl : lv.getD z none = some (.ref x)) (k : Run X d mi nx lv (.ref x :: st) h o) : Run X d mi pc lv st h o := rs_go hf (by simp only [astep, a_go]; rw [hl]; try rfl) k
theorem rs_aload_n {z : Fin 4} {x : Nat} (hf : fetch mi pc = some (.aload_n z, nx, a, b, c, t)) (hl : lv.getD z.val none = some (.ref x)) (k : Run X d mi nx lv (.ref x :: st) h o) : Run X d mi pc lv st h o := rs_go hf (by simp only [astep, a_go]; rw [hl]; try rfl) k
theorem rs_istore {z : Nat} {x : Int32} (hf : fetch mi pc = some (.istore z, nx, a, b, c, t)) (hz : z < lv.length) (hl : lset1 lv z (.int x) = lv') (k : Run X d mi nx lv' st h o) : Run X d mi pc lv (.int x :: st) h o := rs_go hf (by simp only [astep, a_go]; rw [if_pos hz, hl]; try rfl) k
theorem rs_istore_n {z : Fin 4} {x : Int32} (hf : fetch mi pc = some (.istore_n z, nx, a, b, c, t)) (hz : z.val < lv.length) (hl : lset1 lv z.val (.int x) = lv') (k : Run X d mi nx lv' st h o) : Run X d mi pc lv (.int x :: st) h o := rs_go hf (by simp only [astep, a_go]; rw [if_pos hz, hl]; try rfl) k
theorem rs_lstore {z : Nat} {x : Int64} (hf : fetch mi pc = some (.lstore z, nx, a, b, c, t)) (hz : z + 1 < lv.length) (hl : lset2 lv z (.long x) = lv') (k : Run X d mi nx lv' st h o) : Run X d mi pc lv (.long x :: st) h o := rs_go hf (by simp only [astep, a_go]; rw [if_pos hz, hl]; try rfl) k
theorem rs_lstore_n {z : Fin 4} {x : Int64} (hf : fetch mi pc = some (.lstore_n z, nx, a, b, c, t)) (hz : z.val + 1 < lv.length) (hl : lset2 lv z.val (.long x) = lv') (k : Run X d mi nx lv' st h o) : Run X d mi pc lv (.long x :: st) h o := rs_go hf (by simp only [astep, a_go]; rw [if_pos hz, hl]; try rfl) k
theorem rs_astore {z : Nat} {x : Nat} (hf : fetch mi pc = some (.astore z, nx, a, b, c, t)) (hz : z < lv.length) (hl : lset1 lv z (.ref x) = lv') (k : Run X d mi nx lv' st h o) : Run X d mi pc lv (.ref x :: st) h o := rs_go hf (by simp only [astep, a_go]; rw [if_pos hz, hl]; try rfl) k
theorem rs_astore_n {z : Fin 4} {x : Nat} (hf : fetch mi pc = some (.astore_n z, nx, a, b, c, t)) (hz : z.val < lv.length) (hl : lset1 lv z.val (.ref x) = lv') (k : Run X d mi nx lv' st h o) : Run X d mi pc lv (.ref x :: st) h o := rs_go hf (by simp only [astep, a_go]; rw [if_pos hz, hl]; try rfl) k
theorem rs_iinc {z : Nat} {n : Int} {x v : Int32} (hf : fetch mi pc = some (.iinc z n, nx, a, b, c, t)) (hg : lv.getD z none = some (.int x)) (hv : x + Int32.ofInt n = v) (hz : z < lv.length) (hl : lset1 lv z (.int v) = lv') (k : Run X d mi nx lv' st h o) : Run X d mi pc lv st h o := rs_go hf (by subst hv; simp only [astep, a_go]; rw [hg]; dsimp only; rw [if_pos hz, hl]) k
theorem rs_dup {v : Value} (hf : fetch mi pc = some (.dup, nx, a, b, c, t)) (hv : v.category = 1) (k : Run X d mi nx lv (v :: v :: st) h o) : Run X d mi pc lv (v :: st) h o := rs_go hf (by simp only [astep, a_go]; rw [if_pos hv]; try rfl) k
theorem rs_dup2 {v w : Value} (hf : fetch mi pc = some (.dup2, nx, a, b, c, t)) (hv : v.category = 1 ∧ w.category = 1) (k : Run X d mi nx lv (v :: w :: v :: w :: st) h o) : Run X d mi pc lv (v :: w :: st) h o := rs_go hf (by simp only [astep, a_go]; rw [if_pos hv]; try rfl) k
theorem rs_pop {v : Value} (hf : fetch mi pc = some (.pop, nx, a, b, c, t)) (hv : v.category = 1) (k : Run X d mi nx lv st h o) : Run X d mi pc lv (v :: st) h o := rs_go hf (by simp only [astep, a_go]; rw [if_pos hv]; try rfl) k
theorem rs_pop2 {v : Value} (hf : fetch mi pc = some (.pop2, nx, a, b, c, t)) (hv : v.category = 2) (k : Run X d mi nx lv st h o) : Run X d mi pc lv (v :: st) h o := rs_go hf (by simp only [astep, a_go]; rw [if_pos hv]; try rfl) k
theorem jmp_to {pc tg : Nat} {off : Int} {lv : Lv} {st : List Value} {h : Hp} (ht : (pc : Int) + off = (tg : Int)) : a_jmp pc off lv st h = some (.inl (tg, lv, st, h)) := by
  unfold a_jmp
  rw [ht, if_pos (by omega)]
  rfl
theorem rs_goto {off : Int} {tg : Nat} (hf : fetch mi pc = some (.goto off, nx, a, b, c, t)) (ht : (pc : Int) + off = (tg : Int)) (k : Run X d mi tg lv st h o) : Run X d mi pc lv st h o := rs_go hf (by simp only [astep]; exact jmp_to ht) k
theorem rs_ifT {cd : ClassFile.Cond} {off : Int} {x : Int32} {tg : Nat} (hf : fetch mi pc = some (.ifCond cd off, nx, a, b, c, t)) (hc : cc_t cd x 0 = true) (ht : (pc : Int) + off = (tg : Int)) (k : Run X d mi tg lv st h o) : Run X d mi pc lv (.int x :: st) h o := rs_go hf (by simp only [astep]; rw [if_pos hc]; exact jmp_to ht) k
theorem rs_ifF {cd : ClassFile.Cond} {off : Int} {x : Int32} (hf : fetch mi pc = some (.ifCond cd off, nx, a, b, c, t)) (hc : cc_t cd x 0 = false) (k : Run X d mi nx lv st h o) : Run X d mi pc lv (.int x :: st) h o := rs_go hf (by simp only [astep, a_go]; rw [if_neg (by rw [hc]; decide)]; try rfl) k
theorem rs_icT {cd : ClassFile.Cond} {off : Int} {x y : Int32} {tg : Nat} (hf : fetch mi pc = some (.if_icmp cd off, nx, a, b, c, t)) (hc : cc_t cd x y = true) (ht : (pc : Int) + off = (tg : Int)) (k : Run X d mi tg lv st h o) : Run X d mi pc lv (.int y :: .int x :: st) h o := rs_go hf (by simp only [astep]; rw [if_pos hc]; exact jmp_to ht) k
theorem rs_icF {cd : ClassFile.Cond} {off : Int} {x y : Int32} (hf : fetch mi pc = some (.if_icmp cd off, nx, a, b, c, t)) (hc : cc_t cd x y = false) (k : Run X d mi nx lv st h o) : Run X d mi pc lv (.int y :: .int x :: st) h o := rs_go hf (by simp only [astep, a_go]; rw [if_neg (by rw [hc]; decide)]; try rfl) k
theorem rs_tsw {df lo hi off : Int} {offs : Array Int} {x : Int32} {tg : Nat} (hf : fetch mi pc = some (.tableswitch df lo hi offs, nx, a, b, c, t)) (hx : swt df lo hi offs x = off) (ht : (pc : Int) + off = (tg : Int)) (k : Run X d mi tg lv st h o) : Run X d mi pc lv (.int x :: st) h o := rs_go hf (by simp only [astep]; rw [hx]; exact jmp_to ht) k
theorem rs_lsw {df off : Int} {ps : Array (Int × Int)} {x : Int32} {tg : Nat} (hf : fetch mi pc = some (.lookupswitch df ps, nx, a, b, c, t)) (hx : Op.lookupswitch.offset ps.toList df x.toInt = off) (ht : (pc : Int) + off = (tg : Int)) (k : Run X d mi tg lv st h o) : Run X d mi pc lv (.int x :: st) h o := rs_go hf (by simp only [astep]; rw [hx]; exact jmp_to ht) k
theorem swt_df {df lo hi : Int} {offs : Array Int} {x : Int32} (hx : x.toInt < lo ∨ hi < x.toInt) : swt df lo hi offs x = df := by unfold swt; rw [if_pos hx]
theorem ne_ti {x v : Int32} (h : ¬ x = v) : ¬ x.toInt = v.toInt := fun e => h (Int32.toInt_inj.mp e)
theorem lc_eq (x y : Int64) : cc_t .eq (lg_cmp x y) 0 = decide (x = y) := by
  unfold lg_cmp cc_t
  simp only [gt_iff_lt, Int64.lt_iff_toInt_lt, Int64.le_iff_toInt_le, ← Int64.toInt_inj, ne_eq]
  by_cases h1 : y.toInt < x.toInt
  · rw [if_pos h1]
    simp
    omega
  · rw [if_neg h1]
    by_cases h2 : x.toInt = y.toInt
    · rw [if_pos h2]
      simp
      omega
    · rw [if_neg h2]
      simp
      omega
theorem lc_ne (x y : Int64) : cc_t .ne (lg_cmp x y) 0 = decide (x ≠ y) := by
  unfold lg_cmp cc_t
  simp only [gt_iff_lt, Int64.lt_iff_toInt_lt, Int64.le_iff_toInt_le, ← Int64.toInt_inj, ne_eq]
  by_cases h1 : y.toInt < x.toInt
  · rw [if_pos h1]
    simp
    omega
  · rw [if_neg h1]
    by_cases h2 : x.toInt = y.toInt
    · rw [if_pos h2]
      simp
      omega
    · rw [if_neg h2]
      simp
      omega
theorem lc_lt (x y : Int64) : cc_t .lt (lg_cmp x y) 0 = decide (x < y) := by
  unfold lg_cmp cc_t
  simp only [gt_iff_lt, Int64.lt_iff_toInt_lt, Int64.le_iff_toInt_le, ← Int64.toInt_inj, ne_eq]
  by_cases h1 : y.toInt < x.toInt
  · rw [if_pos h1]
    simp
    omega
  · rw [if_neg h1]
    by_cases h2 : x.toInt = y.toInt
    · rw [if_pos h2]
      simp
      omega
    · rw [if_neg h2]
      simp
      omega
theorem lc_ge (x y : Int64) : cc_t .ge (lg_cmp x y) 0 = decide (y ≤ x) := by
  unfold lg_cmp cc_t
  simp only [gt_iff_lt, Int64.lt_iff_toInt_lt, Int64.le_iff_toInt_le, ← Int64.toInt_inj, ne_eq]
  by_cases h1 : y.toInt < x.toInt
  · rw [if_pos h1]
    simp
    omega
  · rw [if_neg h1]
    by_cases h2 : x.toInt = y.toInt
    · rw [if_pos h2]
      simp
      omega
    · rw [if_neg h2]
      simp
      omega
theorem lc_gt (x y : Int64) : cc_t .gt (lg_cmp x y) 0 = decide (y < x) := by
  unfold lg_cmp cc_t
  simp only [gt_iff_lt, Int64.lt_iff_toInt_lt, Int64.le_iff_toInt_le, ← Int64.toInt_inj, ne_eq]
  by_cases h1 : y.toInt < x.toInt
  · rw [if_pos h1]
    simp
    omega
  · rw [if_neg h1]
    by_cases h2 : x.toInt = y.toInt
    · rw [if_pos h2]
      simp
      omega
    · rw [if_neg h2]
      simp
      omega
theorem lc_le (x y : Int64) : cc_t .le (lg_cmp x y) 0 = decide (x ≤ y) := by
  unfold lg_cmp cc_t
  simp only [gt_iff_lt, Int64.lt_iff_toInt_lt, Int64.le_iff_toInt_le, ← Int64.toInt_inj, ne_eq]
  by_cases h1 : y.toInt < x.toInt
  · rw [if_pos h1]
    simp
    omega
  · rw [if_neg h1]
    by_cases h2 : x.toInt = y.toInt
    · rw [if_pos h2]
      simp
      omega
    · rw [if_neg h2]
      simp
      omega
theorem rs_getI {z r : Nat} (hf : fetch mi pc = some (.getfield z, nx, a, b, c, t)) (h20 : ¬ a = 20) (hfk : ¬ fk (tyf a b) = 1 ∧ ¬ fk (tyf a b) = 2) (hO : okO h r a) (k : Run X d mi nx lv (.int (gI h r b) :: st) h o) : Run X d mi pc lv (.ref r :: st) h o := rs_go hf (by
  have e : agetf h r a b = some (.int (gI h r b)) := by
    unfold agetf
    rw [if_neg h20, if_pos hO]
    split
    · next z => exact absurd z hfk.1
    · next z => exact absurd z hfk.2
    · rfl
  simp only [astep, a_go]; rw [e]) k
theorem rs_getL {z r : Nat} (hf : fetch mi pc = some (.getfield z, nx, a, b, c, t)) (h20 : ¬ a = 20) (hfk : fk (tyf a b) = 1) (hO : okO h r a) (k : Run X d mi nx lv (.long (gL' h r b) :: st) h o) : Run X d mi pc lv (.ref r :: st) h o := rs_go hf (by
  have e : agetf h r a b = some (.long (gL' h r b)) := by
    unfold agetf
    rw [if_neg h20, if_pos hO, hfk]
    rfl
  simp only [astep, a_go]; rw [e]) k
theorem rs_getR {z r x : Nat} (hf : fetch mi pc = some (.getfield z, nx, a, b, c, t)) (h20 : ¬ a = 20) (hfk : fk (tyf a b) = 2) (hO : okO h r a) (hx : gR h r b = some x) (k : Run X d mi nx lv (.ref x :: st) h o) : Run X d mi pc lv (.ref r :: st) h o := rs_go hf (by
  have e : agetf h r a b = some (.ref x) := by
    unfold agetf
    have hx : h.2.2.2 r b = some x := hx
    rw [if_neg h20, if_pos hO, hfk, hx]
    rfl
  simp only [astep, a_go]; rw [e]) k
theorem rs_getSv {z r : Nat} (hf : fetch mi pc = some (.getfield z, nx, 20, 0, c, t)) (hO : hk h r = (20, 2)) (k : Run X d mi nx lv (.ref (r + 3) :: st) h o) : Run X d mi pc lv (.ref r :: st) h o := rs_go hf (by
  have e : agetf h r 20 0 = some (.ref (r + 3)) := by
    unfold agetf
    rw [if_pos rfl, if_pos hO, if_pos rfl]
  simp only [astep, a_go]; rw [e]) k
theorem rs_getSc {z r : Nat} (hf : fetch mi pc = some (.getfield z, nx, 20, 1, c, t)) (hO : hk h r = (20, 2)) (k : Run X d mi nx lv (.int 0 :: st) h o) : Run X d mi pc lv (.ref r :: st) h o := rs_go hf (by
  have e : agetf h r 20 1 = some (.int 0) := by
    unfold agetf
    rw [if_pos rfl, if_pos hO, if_neg (by decide)]
  simp only [astep, a_go]; rw [e]) k
theorem rs_putI {z r : Nat} {x : Int32} (hf : fetch mi pc = some (.putfield z, nx, a, b, c, t)) (hfk : fk (tyf a b) = 0) (hO : okO h r a) (k : Run X d mi nx lv st (hsi h r b x) o) : Run X d mi pc lv (.int x :: .ref r :: st) h o := rs_go hf (by
  have e : aputf h r a b (.int x) = some (hsi h r b x) := by
    unfold aputf
    rw [if_pos hO]
    dsimp only
    rw [if_pos hfk]
  simp only [astep, a_go]; rw [e]) k
theorem rs_putZ {z r : Nat} {x : Int32} (hf : fetch mi pc = some (.putfield z, nx, a, b, c, t)) (hfk : fk (tyf a b) = 3) (hx : x = 0 ∨ x = 1) (hO : okO h r a) (k : Run X d mi nx lv st (hsi h r b x) o) : Run X d mi pc lv (.int x :: .ref r :: st) h o := rs_go hf (by
  have e : aputf h r a b (.int x) = some (hsi h r b x) := by
    unfold aputf
    rw [if_pos hO]
    dsimp only
    rw [if_neg (by rw [hfk]; decide), if_pos ⟨hfk, hx⟩]
  simp only [astep, a_go]; rw [e]) k
theorem rs_putL {z r : Nat} {x : Int64} (hf : fetch mi pc = some (.putfield z, nx, a, b, c, t)) (hfk : fk (tyf a b) = 1) (hO : okO h r a) (k : Run X d mi nx lv st (hsl h r b x) o) : Run X d mi pc lv (.long x :: .ref r :: st) h o := rs_go hf (by
  have e : aputf h r a b (.long x) = some (hsl h r b x) := by
    unfold aputf
    rw [if_pos hO]
    dsimp only
    rw [if_pos hfk]
  simp only [astep, a_go]; rw [e]) k
theorem rs_putR {z r x : Nat} (hf : fetch mi pc = some (.putfield z, nx, a, b, c, t)) (hfk : fk (tyf a b) = 2) (hx : 16 ≤ x) (hO : okO h r a) (k : Run X d mi nx lv st (hsr h r b (some x)) o) : Run X d mi pc lv (.ref x :: .ref r :: st) h o := rs_go hf (by
  have e : aputf h r a b (.ref x) = some (hsr h r b (some x)) := by
    unfold aputf
    rw [if_pos hO]
    dsimp only
    rw [if_pos ⟨hfk, hx⟩]
  simp only [astep, a_go]; rw [e]) k
theorem rs_iald {r : Nat} {i : Int32} (hf : fetch mi pc = some (.iaload, nx, a, b, c, t)) (hc : okI h r i) (k : Run X d mi nx lv (.int (gI h r (ix i)) :: st) h o) : Run X d mi pc lv (.int i :: .ref r :: st) h o := rs_go hf (by simp only [astep, a_go]; rw [if_pos hc.2, if_pos hc.1]; try rfl) k
theorem rs_ialdA {i : Int32} (hf : fetch mi pc = some (.iaload, nx, a, b, c, t)) (hc : okC h 0 i) (k : Run X d mi nx lv (.int (roC 0 (ix i)) :: st) h o) : Run X d mi pc lv (.int i :: .ref 0 :: st) h o := rs_go hf (by simp only [astep, a_go]; rw [if_pos hc.2, if_neg (by rw [hc.1]; decide), if_pos hc.1, roC_eq (X := X) 0 _ (by decide)]; try rfl) k
theorem rs_ialdS {i : Int32} (hf : fetch mi pc = some (.iaload, nx, a, b, c, t)) (hc : okC h 14 i) (k : Run X d mi nx lv (.int (X (ix i)) :: st) h o) : Run X d mi pc lv (.int i :: .ref 14 :: st) h o := rs_go hf (by simp only [astep, a_go]; rw [if_pos hc.2, if_neg (by rw [hc.1]; decide), if_pos hc.1]; rfl) k
theorem rs_bald {r : Nat} {i : Int32} (hf : fetch mi pc = some (.baload, nx, a, b, c, t)) (hc : okB h r i) (hr : ¬ r = 14) (k : Run X d mi nx lv (.int (roC r (ix i)) :: st) h o) : Run X d mi pc lv (.int i :: .ref r :: st) h o := rs_go hf (by simp only [astep, a_go]; rw [if_pos ⟨hc.2, hc.1⟩, roC_eq (X := X) r _ hr]; try rfl) k
theorem rs_lald {r : Nat} {i : Int32} (hf : fetch mi pc = some (.laload, nx, a, b, c, t)) (hc : okL h r i) (k : Run X d mi nx lv (.long (gL' h r (ix i)) :: st) h o) : Run X d mi pc lv (.int i :: .ref r :: st) h o := rs_go hf (by simp only [astep, a_go]; rw [if_pos ⟨hc.2, hc.1⟩]; try rfl) k
theorem rs_aald {r x : Nat} {i : Int32} (hf : fetch mi pc = some (.aaload, nx, a, b, c, t)) (hc : okR h r i) (hx : gR h r (ix i) = some x) (k : Run X d mi nx lv (.ref x :: st) h o) : Run X d mi pc lv (.int i :: .ref r :: st) h o := rs_go hf (by have hx : h.2.2.2 r i.toNatClampNeg = some x := hx; simp only [astep, a_go]; rw [if_pos ⟨hc.2, hc.1⟩, hx]) k
theorem rs_iast {r : Nat} {i x : Int32} (hf : fetch mi pc = some (.iastore, nx, a, b, c, t)) (hc : okI h r i) (k : Run X d mi nx lv st (hsi h r (ix i) x) o) : Run X d mi pc lv (.int x :: .int i :: .ref r :: st) h o := rs_go hf (by simp only [astep, a_go]; rw [if_pos ⟨hc.2, hc.1⟩]; try rfl) k
theorem rs_last {r : Nat} {i : Int32} {x : Int64} (hf : fetch mi pc = some (.lastore, nx, a, b, c, t)) (hc : okL h r i) (k : Run X d mi nx lv st (hsl h r (ix i) x) o) : Run X d mi pc lv (.long x :: .int i :: .ref r :: st) h o := rs_go hf (by simp only [astep, a_go]; rw [if_pos ⟨hc.2, hc.1⟩]; try rfl) k
theorem rs_aast {r x : Nat} {i : Int32} (hf : fetch mi pc = some (.aastore, nx, a, b, c, t)) (hc : okR h r i) (hx : hk h x = (comps (hk h r).1, nFf (comps (hk h r).1))) (k : Run X d mi nx lv st (hsr h r (ix i) (some x)) o) : Run X d mi pc lv (.ref x :: .int i :: .ref r :: st) h o := rs_go hf (by simp only [astep, a_go]; rw [if_pos ⟨hc.2, hc.1, hx⟩]; try rfl) k
theorem rs_alI {r : Nat} (hf : fetch mi pc = some (.arraylength, nx, a, b, c, t)) (hc : (hk h r).1 = 9) (k : Run X d mi nx lv (.int (Int32.ofNat (hk h r).2) :: st) h o) : Run X d mi pc lv (.ref r :: st) h o := rs_go hf (by simp only [astep, a_go]; rw [hc]; try rfl) k
theorem rs_alB {r : Nat} (hf : fetch mi pc = some (.arraylength, nx, a, b, c, t)) (hc : (hk h r).1 = 21) (k : Run X d mi nx lv (.int (Int32.ofNat (hk h r).2) :: st) h o) : Run X d mi pc lv (.ref r :: st) h o := rs_go hf (by simp only [astep, a_go]; rw [hc]; try rfl) k
theorem rs_alC {r : Nat} (hf : fetch mi pc = some (.arraylength, nx, a, b, c, t)) (hc : (hk h r).1 = 22) (k : Run X d mi nx lv (.int (Int32.ofNat (hk h r).2) :: st) h o) : Run X d mi pc lv (.ref r :: st) h o := rs_go hf (by simp only [astep, a_go]; rw [hc]; try rfl) k
theorem rs_gst0 {z : Nat} (hf : fetch mi pc = some (.getstatic z, nx, a, b, c, t)) (ha : a = 0) (k : Run X d mi nx lv (.ref 0 :: st) h o) : Run X d mi pc lv st h o := rs_go hf (by subst ha; rfl) k
theorem rs_gst1 {z : Nat} (hf : fetch mi pc = some (.getstatic z, nx, a, b, c, t)) (ha : a = 1) (k : Run X d mi nx lv (.int 1 :: st) h o) : Run X d mi pc lv st h o := rs_go hf (by subst ha; rfl) k
theorem rs_gst2 {z : Nat} (hf : fetch mi pc = some (.getstatic z, nx, a, b, c, t)) (ha : a = 2) (k : Run X d mi nx lv (.retAddr 0 :: st) h o) : Run X d mi pc lv st h o := rs_go hf (by subst ha; rfl) k
theorem rs_newa {z : ArrayType} {n : Int32} (hf : fetch mi pc = some (.newarray z, nx, a, b, c, t)) (hn : 0 ≤ n.toInt ∧ n.toInt ≤ 100000 ∧ a < 14) (k : Run X d mi nx lv (.ref h.1.length :: st) (hnew h (a, ix n)) o) : Run X d mi pc lv (.int n :: st) h o := rs_go hf (by simp only [astep, a_go]; rw [if_pos hn]; try rfl) k
theorem rs_newq {z : Nat} {n : Int32} (hf : fetch mi pc = some (.anewarray z, nx, a, b, c, t)) (hn : 0 ≤ n.toInt ∧ n.toInt ≤ 100000 ∧ a < 14) (k : Run X d mi nx lv (.ref h.1.length :: st) (hnew h (a, ix n)) o) : Run X d mi pc lv (.int n :: st) h o := rs_go hf (by simp only [astep, a_go]; rw [if_pos hn]; try rfl) k
theorem rs_new {z : Nat} (hf : fetch mi pc = some (.new z, nx, a, b, c, t)) (ha : a < 14) (k : Run X d mi nx lv (.ref h.1.length :: st) (hnew h (a, nFf a)) o) : Run X d mi pc lv st h o := rs_go hf (by simp only [astep, a_go]; rw [if_pos ha]; try rfl) k
theorem rs_objI {z r : Nat} (hf : fetch mi pc = some (.invokespecial z, nx, 1000, b, c, t)) (hs : (st.map (fun v => v.category)).sum ≤ 8) (k : Run X d mi nx lv st h o) : Run X d mi pc lv (.ref r :: st) h o := rs_go hf (by simp only [astep, a_go, if_pos]; rw [if_pos hs]; try rfl) k
noncomputable abbrev okCp (h : Hp) (x : Nat) (s : Int32) (y : Nat) (e n : Int32) : Prop := 0 ≤ n.toInt ∧ 0 ≤ e.toInt ∧ 0 ≤ s.toInt ∧ ix s + ix n ≤ (hk h x).2 ∧ ix e + ix n ≤ (hk h y).2 ∧ (hk h x).1 = 9 ∧ (hk h y).1 = 9
theorem rs_acp {z x y : Nat} {n e s : Int32} (hf : fetch mi pc = some (.invokestatic z, nx, 1001, b, c, t)) (hc : okCp h x s y e n) (hs : (st.map (fun v => v.category)).sum ≤ 8) (k : Run X d mi nx lv st (hcp h x (ix s) y (ix e) (ix n)) o) : Run X d mi pc lv (.int n :: .int e :: .ref y :: .int s :: .ref x :: st) h o := rs_go hf (by
  simp only [astep, a_go, if_pos]
  obtain ⟨h1, h2, h3, h4, h5, h6, h7⟩ := hc
  rw [if_pos ⟨h1, h2, h3, h4, h5, h6, h7, hs⟩]) k
theorem rs_abs {z : Nat} {x : Int32} (hf : fetch mi pc = some (.invokestatic z, nx, 1002, b, c, t)) (hs : (st.map (fun v => v.category)).sum ≤ 8) (k : Run X d mi nx lv (.int (if 0 ≤ x then x else 0 - x) :: st) h o) : Run X d mi pc lv (.int x :: st) h o := rs_go hf (by simp only [astep]; rw [if_neg (by decide), if_pos (by decide)]; simp only [a_math, a_go]; rw [if_pos hs]) k
theorem rs_max {z : Nat} {x y : Int32} (hf : fetch mi pc = some (.invokestatic z, nx, 1003, b, c, t)) (hs : (st.map (fun v => v.category)).sum ≤ 8) (k : Run X d mi nx lv (.int (if x < y then y else x) :: st) h o) : Run X d mi pc lv (.int y :: .int x :: st) h o := rs_go hf (by simp only [astep]; rw [if_neg (by decide), if_pos (by decide)]; simp only [a_math, a_go]; rw [if_pos hs]) k
theorem rs_maxl {z : Nat} {x y : Int64} (hf : fetch mi pc = some (.invokestatic z, nx, 1004, b, c, t)) (hs : (st.map (fun v => v.category)).sum ≤ 8) (k : Run X d mi nx lv (.long (if y < x then x else y) :: st) h o) : Run X d mi pc lv (.long y :: .long x :: st) h o := rs_go hf (by simp only [astep]; rw [if_neg (by decide), if_pos (by decide)]; simp only [a_math, a_go]; rw [if_pos hs]) k
theorem rs_min {z : Nat} {x y : Int32} (hf : fetch mi pc = some (.invokestatic z, nx, 1005, b, c, t)) (hs : (st.map (fun v => v.category)).sum ≤ 8) (k : Run X d mi nx lv (.int (if y < x then y else x) :: st) h o) : Run X d mi pc lv (.int y :: .int x :: st) h o := rs_go hf (by simp only [astep]; rw [if_neg (by decide), if_pos (by decide)]; simp only [a_math, a_go]; rw [if_pos hs]) k
theorem rs_minl {z : Nat} {x y : Int64} (hf : fetch mi pc = some (.invokestatic z, nx, 1006, b, c, t)) (hs : (st.map (fun v => v.category)).sum ≤ 8) (k : Run X d mi nx lv (.long (if y < x then y else x) :: st) h o) : Run X d mi pc lv (.long y :: .long x :: st) h o := rs_go hf (by simp only [astep]; rw [if_neg (by decide), if_pos (by decide)]; simp only [a_math, a_go]; rw [if_pos hs]) k
theorem rs_inS {z cal : Nat} {N : MI} {As rest : List Value} {rv : Option Value} {h1 : Hp} (hf : fetch mi pc = some (.invokestatic z, nx, cal, b, c, t)) (hcl : cal < 1000) (hM : minf[cal]? = some N) (hk0 : N.2.2.2.2.2.2.1 = 0) (hst : st = As.reverse ++ rest) (hlen : As.length = N.2.2.2.2.2.2.2.1) (hsum : (rest.map (fun v => v.category)).sum ≤ 8) (hc : Calls X d cal As h (rv, h1)) (hst2 : rv.toList ++ rest = st') (k : Run X (d + 1) mi nx lv st' h1 o) : Run X (d + 1) mi pc lv st h o := by
  subst hst2
  refine rs_call (vs := As) (rest := rest) hf ?_ hc k
  simp only [astep]
  rw [if_neg (by omega), if_neg (by omega)]
  unfold a_call
  rw [hM]
  dsimp only
  subst hst
  have hl : As.reverse.length = N.2.2.2.2.2.2.2.1 := by rw [List.length_reverse]; exact hlen
  rw [if_neg (by rw [List.length_append, hl]; omega), if_pos hk0, ← hl, List.drop_left, if_pos ⟨hsum, rfl⟩, List.take_left, List.reverse_reverse]
theorem rs_inV {z cal r : Nat} {N : MI} {As rest : List Value} {rv : Option Value} {h1 : Hp} (hf : fetch mi pc = some (.invokevirtual z, nx, cal, b, c, t)) (hM : minf[cal]? = some N) (hk0 : N.2.2.2.2.2.2.1 = 1) (hst : st = As.reverse ++ .ref r :: rest) (hlen : As.length = N.2.2.2.2.2.2.2.1) (hsum : (rest.map (fun v => v.category)).sum ≤ 8) (hO : okO h r N.2.1) (hc : Calls X d cal (.ref r :: As) h (rv, h1)) (hst2 : rv.toList ++ rest = st') (k : Run X (d + 1) mi nx lv st' h1 o) : Run X (d + 1) mi pc lv st h o := by
  subst hst2
  refine rs_call (vs := .ref r :: As) (rest := rest) hf ?_ hc k
  simp only [astep]
  unfold a_call
  rw [hM]
  dsimp only
  subst hst
  have hl : As.reverse.length = N.2.2.2.2.2.2.2.1 := by rw [List.length_reverse]; exact hlen
  rw [if_neg (by rw [List.length_append, hl]; omega), if_neg (by omega), ← hl, List.drop_left]
  dsimp only
  rw [if_pos ⟨hsum, hO, by rw [hk0]; decide⟩, List.take_left, List.reverse_reverse]
theorem rs_inI {z cal r : Nat} {N : MI} {As rest : List Value} {rv : Option Value} {h1 : Hp} (hf : fetch mi pc = some (.invokespecial z, nx, cal, b, c, t)) (hcl : cal < 1000) (hM : minf[cal]? = some N) (hk0 : N.2.2.2.2.2.2.1 = 2) (hst : st = As.reverse ++ .ref r :: rest) (hlen : As.length = N.2.2.2.2.2.2.2.1) (hsum : (rest.map (fun v => v.category)).sum ≤ 8) (hO : okO h r N.2.1) (hc : Calls X d cal (.ref r :: As) h (rv, h1)) (hst2 : rv.toList ++ rest = st') (k : Run X (d + 1) mi nx lv st' h1 o) : Run X (d + 1) mi pc lv st h o := by
  subst hst2
  refine rs_call (vs := .ref r :: As) (rest := rest) hf ?_ hc k
  simp only [astep]
  rw [if_neg (by omega)]
  unfold a_call
  rw [hM]
  dsimp only
  subst hst
  have hl : As.reverse.length = N.2.2.2.2.2.2.2.1 := by rw [List.length_reverse]; exact hlen
  rw [if_neg (by rw [List.length_append, hl]; omega), if_neg (by omega), ← hl, List.drop_left]
  dsimp only
  rw [if_pos ⟨hsum, hO, by rw [hk0]; decide⟩, List.take_left, List.reverse_reverse]
theorem rs_iret {v : Int32} {N : MI} (hf : fetch mi pc = some (.ireturn, nx, a, b, c, t)) (hM : minf[mi]? = some N) (hv : okret N.2.2.2.2.2.1 v = true) : Run X d mi pc lv [.int v] h (some (.int v), h) := rs_ret hf (by simp only [astep]; rw [hM]; dsimp only; rw [if_pos hv])
theorem rs_lret {v : Int64} {N : MI} (hf : fetch mi pc = some (.lreturn, nx, a, b, c, t)) (hM : minf[mi]? = some N) (hv : N.2.2.2.2.2.1 = some .long) : Run X d mi pc lv [.long v] h (some (.long v), h) := rs_ret hf (by simp only [astep]; rw [hM]; dsimp only; rw [if_pos hv])
theorem rs_vret {N : MI} (hf : fetch mi pc = some (.return_, nx, a, b, c, t)) (hM : minf[mi]? = some N) (hv : N.2.2.2.2.2.1 = none) : Run X d mi pc lv [] h (none, h) := rs_ret hf (by simp only [astep]; rw [hM]; dsimp only; rw [if_pos hv])
end RS
theorem m_L_law : minf[0]? = some M_L_law := rfl
theorem m_X0_init : minf[1]? = some M_X0_init := rfl
theorem m_X0_become : minf[2]? = some M_X0_become := rfl
theorem m_X1_init : minf[3]? = some M_X1_init := rfl
theorem m_X1_wander : minf[4]? = some M_X1_wander := rfl
theorem m_X1_ease : minf[5]? = some M_X1_ease := rfl
theorem m_X1_tears : minf[6]? = some M_X1_tears := rfl
theorem m_X1_sticks : minf[7]? = some M_X1_sticks := rfl
theorem m_X1_says : minf[8]? = some M_X1_says := rfl
theorem m_X2_init : minf[9]? = some M_X2_init := rfl
theorem m_X2_add : minf[10]? = some M_X2_add := rfl
theorem m_X2_empty : minf[11]? = some M_X2_empty := rfl
theorem m_X2_read : minf[12]? = some M_X2_read := rfl
theorem m_X2_readEither : minf[13]? = some M_X2_readEither := rfl
theorem m_X2_readBoth : minf[14]? = some M_X2_readBoth := rfl
theorem m_X2_readNot : minf[15]? = some M_X2_readNot := rfl
theorem m_X2_readCompared : minf[16]? = some M_X2_readCompared := rfl
theorem m_X2_readSum : minf[17]? = some M_X2_readSum := rfl
theorem m_X2_readProduct : minf[18]? = some M_X2_readProduct := rfl
theorem m_X2_readOne : minf[19]? = some M_X2_readOne := rfl
theorem m_X2_advance : minf[20]? = some M_X2_advance := rfl
theorem m_X2_byteAt : minf[21]? = some M_X2_byteAt := rfl
theorem m_X2_isLetter : minf[22]? = some M_X2_isLetter := rfl
theorem m_X2_isDigit : minf[23]? = some M_X2_isDigit := rfl
theorem m_X2_readNumber : minf[24]? = some M_X2_readNumber := rfl
theorem m_X2_readWord : minf[25]? = some M_X2_readWord := rfl
theorem m_X2_isWord : minf[26]? = some M_X2_isWord := rfl
theorem m_X3_init : minf[27]? = some M_X3_init := rfl
theorem m_X3_begin : minf[28]? = some M_X3_begin := rfl
theorem m_X3_become : minf[29]? = some M_X3_become := rfl
theorem m_X3_make : minf[30]? = some M_X3_make := rfl
theorem m_X3_relax : minf[31]? = some M_X3_relax := rfl
theorem m_X3_draw : minf[32]? = some M_X3_draw := rfl
theorem m_X3_lengthen : minf[33]? = some M_X3_lengthen := rfl
theorem m_X3_bounce : minf[34]? = some M_X3_bounce := rfl
theorem m_X3_fold : minf[35]? = some M_X3_fold := rfl
theorem m_X3_foldRow : minf[36]? = some M_X3_foldRow := rfl
theorem m_X3_powder : minf[37]? = some M_X3_powder := rfl
theorem m_X3_cutEnd : minf[38]? = some M_X3_cutEnd := rfl
theorem m_X3_thick : minf[39]? = some M_X3_thick := rfl
theorem m_X3_thinnest : minf[40]? = some M_X3_thinnest := rfl
theorem m_X3_thickest : minf[41]? = some M_X3_thickest := rfl
theorem m_X3_spread : minf[42]? = some M_X3_spread := rfl
theorem m_X3_isMoreEvenThan : minf[43]? = some M_X3_isMoreEvenThan := rfl
theorem m_X3_allLength : minf[44]? = some M_X3_allLength := rfl
theorem m_X3_tenths : minf[45]? = some M_X3_tenths := rfl
theorem m_X3_goodParts : minf[46]? = some M_X3_goodParts := rfl
theorem m_X3_cooked : minf[47]? = some M_X3_cooked := rfl
theorem m_X3_firstOff : minf[48]? = some M_X3_firstOff := rfl
theorem m_X3_isAsTold : minf[49]? = some M_X3_isAsTold := rfl
theorem m_X4_init : minf[50]? = some M_X4_init := rfl
theorem m_X4_become : minf[51]? = some M_X4_become := rfl
theorem m_X4_has : minf[52]? = some M_X4_has := rfl
theorem m_X4_put : minf[53]? = some M_X4_put := rfl
theorem m_X5_init : minf[54]? = some M_X5_init := rfl
theorem m_X5_become : minf[55]? = some M_X5_become := rfl
theorem m_X5_takes : minf[56]? = some M_X5_takes := rfl
theorem m_X5_isA : minf[57]? = some M_X5_isA := rfl
theorem m_X6_init : minf[58]? = some M_X6_init := rfl
theorem m_X6_clear : minf[59]? = some M_X6_clear := rfl
theorem m_X6_nameCode : minf[60]? = some M_X6_nameCode := rfl
theorem m_X6_add : minf[61]? = some M_X6_add := rfl
theorem m_X6_endSection : minf[62]? = some M_X6_endSection := rfl
theorem m_X6_value : minf[63]? = some M_X6_value := rfl
theorem m_X6_named : minf[64]? = some M_X6_named := rfl
theorem m_X6_joined : minf[65]? = some M_X6_joined := rfl
theorem m_X7_init : minf[66]? = some M_X7_init := rfl
theorem m_X7_roll : minf[67]? = some M_X7_roll := rfl
theorem m_X7_set : minf[68]? = some M_X7_set := rfl
theorem m_X7_count : minf[69]? = some M_X7_count := rfl
theorem m_X7_feed : minf[70]? = some M_X7_feed := rfl
theorem m_X7_text : minf[71]? = some M_X7_text := rfl
theorem m_X7_force : minf[72]? = some M_X7_force := rfl
theorem m_X7_step : minf[73]? = some M_X7_step := rfl
theorem m_X7_forget : minf[74]? = some M_X7_forget := rfl
theorem m_X7_stepTold : minf[75]? = some M_X7_stepTold := rfl
theorem m_X7_rope : minf[76]? = some M_X7_rope := rfl
theorem m_X7_state : minf[77]? = some M_X7_state := rfl
theorem m_X7_whole : minf[78]? = some M_X7_whole := rfl
theorem m_X7_stop : minf[79]? = some M_X7_stop := rfl
theorem m_X7_worst : minf[80]? = some M_X7_worst := rfl
theorem m_X7_window : minf[81]? = some M_X7_window := rfl
theorem m_X7_pace : minf[82]? = some M_X7_pace := rfl
theorem m_X7_rest : minf[83]? = some M_X7_rest := rfl
theorem m_X7_dust : minf[84]? = some M_X7_dust := rfl
theorem m_X7_doublings : minf[85]? = some M_X7_doublings := rfl
theorem m_X7_judge : minf[86]? = some M_X7_judge := rfl
theorem m_X7_film : minf[87]? = some M_X7_film := rfl
theorem m_X7_serves : minf[88]? = some M_X7_serves := rfl
theorem m_X7_which : minf[89]? = some M_X7_which := rfl
theorem m_X7_fault : minf[90]? = some M_X7_fault := rfl
theorem m_X7_uneven : minf[91]? = some M_X7_uneven := rfl
theorem m_X7_cooks : minf[92]? = some M_X7_cooks := rfl
theorem m_X7_pot : minf[93]? = some M_X7_pot := rfl
theorem m_X7_place : minf[94]? = some M_X7_place := rfl
theorem m_X7_apart : minf[95]? = some M_X7_apart := rfl
theorem m_X7_parted : minf[96]? = some M_X7_parted := rfl
theorem m_X7_round : minf[97]? = some M_X7_round := rfl
theorem m_X7_colours : minf[98]? = some M_X7_colours := rfl
theorem m_X7_thin : minf[99]? = some M_X7_thin := rfl
theorem m_X7_odds : minf[100]? = some M_X7_odds := rfl
theorem m_X7_record : minf[101]? = some M_X7_record := rfl
theorem m_X7_drawn : minf[102]? = some M_X7_drawn := rfl
theorem m_X7_image : minf[103]? = some M_X7_image := rfl
theorem m_X7_back : minf[104]? = some M_X7_back := rfl
theorem m_X7_sheet : minf[105]? = some M_X7_sheet := rfl
theorem m_X7_cell : minf[106]? = some M_X7_cell := rfl
theorem m_X7_copy : minf[107]? = some M_X7_copy := rfl
theorem m_X7_stepsBy : minf[108]? = some M_X7_stepsBy := rfl
theorem m_X7_taken : minf[109]? = some M_X7_taken := rfl
theorem m_X7_within : minf[110]? = some M_X7_within := rfl
theorem m_X7_quotient : minf[111]? = some M_X7_quotient := rfl
theorem m_X7_isStep : minf[112]? = some M_X7_isStep := rfl
theorem m_X7_areSteps : minf[113]? = some M_X7_areSteps := rfl
theorem m_X7_isSheet : minf[114]? = some M_X7_isSheet := rfl
theorem m_X7_isPlace : minf[115]? = some M_X7_isPlace := rfl
theorem m_X7_areOdds : minf[116]? = some M_X7_areOdds := rfl
theorem m_X7_refusalOfTest : minf[117]? = some M_X7_refusalOfTest := rfl
theorem m_X7_make : minf[118]? = some M_X7_make := rfl
theorem m_X7_tryDrawing : minf[119]? = some M_X7_tryDrawing := rfl
theorem m_X7_allTake : minf[120]? = some M_X7_allTake := rfl
theorem m_X7_placeBehind : minf[121]? = some M_X7_placeBehind := rfl
theorem m_X7_colour : minf[122]? = some M_X7_colour := rfl
theorem m_X7_multiplied : minf[123]? = some M_X7_multiplied := rfl
theorem m_X7_inLowestTerms : minf[124]? = some M_X7_inLowestTerms := rfl
theorem m_X8_init : minf[125]? = some M_X8_init := rfl
theorem m_X8_in : minf[126]? = some M_X8_in := rfl
theorem m_X8_isCell : minf[127]? = some M_X8_isCell := rfl
theorem m_X8_areSteps : minf[128]? = some M_X8_areSteps := rfl
theorem m_X8_size : minf[129]? = some M_X8_size := rfl
theorem m_X8_within : minf[130]? = some M_X8_within := rfl
theorem m_X8_roll : minf[131]? = some M_X8_roll := rfl
theorem m_X8_set : minf[132]? = some M_X8_set := rfl
theorem m_X8_holds0 : minf[133]? = some M_X8_holds0 := rfl
theorem m_X8_count : minf[134]? = some M_X8_count := rfl
theorem m_X8_feed : minf[135]? = some M_X8_feed := rfl
theorem m_X8_wordFrom : minf[136]? = some M_X8_wordFrom := rfl
theorem m_X8_next : minf[137]? = some M_X8_next := rfl
theorem m_X8_rank : minf[138]? = some M_X8_rank := rfl
theorem m_X8_puts : minf[139]? = some M_X8_puts := rfl
theorem m_X8_unwinds : minf[140]? = some M_X8_unwinds := rfl
theorem m_X8_holds : minf[141]? = some M_X8_holds := rfl
theorem m_X8_opensOne : minf[142]? = some M_X8_opensOne := rfl
theorem m_X8_between : minf[143]? = some M_X8_between := rfl
theorem m_X8_signOf : minf[144]? = some M_X8_signOf := rfl
theorem m_X8_eRead : minf[145]? = some M_X8_eRead := rfl
theorem m_X8_text : minf[146]? = some M_X8_text := rfl
theorem m_X8_two : minf[147]? = some M_X8_two := rfl
theorem m_X8_worth : minf[148]? = some M_X8_worth := rfl
theorem m_X8_force : minf[149]? = some M_X8_force := rfl
theorem m_X8_step : minf[150]? = some M_X8_step := rfl
theorem m_X8_forget : minf[151]? = some M_X8_forget := rfl
theorem m_X8_takesOf : minf[152]? = some M_X8_takesOf := rfl
theorem m_X8_stepTold : minf[153]? = some M_X8_stepTold := rfl
theorem m_X8_thickOf : minf[154]? = some M_X8_thickOf := rfl
theorem m_X8_asks : minf[155]? = some M_X8_asks := rfl
theorem m_X8_allLength : minf[156]? = some M_X8_allLength := rfl
theorem m_X8_drawsMore : minf[157]? = some M_X8_drawsMore := rfl
theorem m_X8_draws : minf[158]? = some M_X8_draws := rfl
theorem m_X8_keepsRow : minf[159]? = some M_X8_keepsRow := rfl
theorem m_X8_bounces : minf[160]? = some M_X8_bounces := rfl
theorem m_X8_doubles : minf[161]? = some M_X8_doubles := rfl
theorem m_X8_cuts : minf[162]? = some M_X8_cuts := rfl
theorem m_X8_rests : minf[163]? = some M_X8_rests := rfl
theorem m_X8_dusts : minf[164]? = some M_X8_dusts := rfl
theorem m_X8_makes : minf[165]? = some M_X8_makes := rfl
theorem m_X8_begins : minf[166]? = some M_X8_begins := rfl
theorem m_X8_goesBut : minf[167]? = some M_X8_goesBut := rfl
theorem m_X8_goes : minf[168]? = some M_X8_goes := rfl
theorem m_X8_rope : minf[169]? = some M_X8_rope := rfl
theorem m_X8_least : minf[170]? = some M_X8_least := rfl
theorem m_X8_greatest : minf[171]? = some M_X8_greatest := rfl
theorem m_X8_spread : minf[172]? = some M_X8_spread := rfl
theorem m_X8_doubled : minf[173]? = some M_X8_doubled := rfl
theorem m_X8_state : minf[174]? = some M_X8_state := rfl
theorem m_X8_both : minf[175]? = some M_X8_both := rfl
theorem m_X8_whole : minf[176]? = some M_X8_whole := rfl
theorem m_X8_stop : minf[177]? = some M_X8_stop := rfl
theorem m_X8_worst : minf[178]? = some M_X8_worst := rfl
theorem m_X8_some : minf[179]? = some M_X8_some := rfl
theorem m_X8_window : minf[180]? = some M_X8_window := rfl
theorem m_X8_pace : minf[181]? = some M_X8_pace := rfl
theorem m_X8_rest : minf[182]? = some M_X8_rest := rfl
theorem m_X8_dust : minf[183]? = some M_X8_dust := rfl
theorem m_X8_doublings : minf[184]? = some M_X8_doublings := rfl
theorem m_X8_sheetWrong : minf[185]? = some M_X8_sheetWrong := rfl
theorem m_X8_offFrom : minf[186]? = some M_X8_offFrom := rfl
theorem m_X8_judge : minf[187]? = some M_X8_judge := rfl
theorem m_X8_film : minf[188]? = some M_X8_film := rfl
theorem m_X8_serves : minf[189]? = some M_X8_serves := rfl
theorem m_X8_which : minf[190]? = some M_X8_which := rfl
theorem m_X8_fault : minf[191]? = some M_X8_fault := rfl
theorem m_X8_uneven : minf[192]? = some M_X8_uneven := rfl
theorem m_X8_cooked : minf[193]? = some M_X8_cooked := rfl
theorem m_X8_cooks : minf[194]? = some M_X8_cooks := rfl
theorem m_X8_pot : minf[195]? = some M_X8_pot := rfl
theorem m_X8_isSpot : minf[196]? = some M_X8_isSpot := rfl
theorem m_X8_doubledOnce : minf[197]? = some M_X8_doubledOnce := rfl
theorem m_X8_behind : minf[198]? = some M_X8_behind := rfl
theorem m_X8_place : minf[199]? = some M_X8_place := rfl
theorem m_X8_apart : minf[200]? = some M_X8_apart := rfl
theorem m_X8_parted : minf[201]? = some M_X8_parted := rfl
theorem m_X8_round : minf[202]? = some M_X8_round := rfl
theorem m_X8_colours : minf[203]? = some M_X8_colours := rfl
theorem m_X8_lowest : minf[204]? = some M_X8_lowest := rfl
theorem m_X8_power : minf[205]? = some M_X8_power := rfl
theorem m_X8_thin : minf[206]? = some M_X8_thin := rfl
theorem m_X8_areOdds : minf[207]? = some M_X8_areOdds := rfl
theorem m_X8_odds : minf[208]? = some M_X8_odds := rfl
theorem m_X8_record : minf[209]? = some M_X8_record := rfl
theorem m_X8_drawn : minf[210]? = some M_X8_drawn := rfl
theorem m_X8_image : minf[211]? = some M_X8_image := rfl
theorem m_X8_back : minf[212]? = some M_X8_back := rfl
theorem m_X8_sheet : minf[213]? = some M_X8_sheet := rfl
theorem m_X8_cell : minf[214]? = some M_X8_cell := rfl
theorem m_X8_copy : minf[215]? = some M_X8_copy := rfl
theorem m_X8_stepsBy : minf[216]? = some M_X8_stepsBy := rfl
theorem m_X8_isUnder : minf[217]? = some M_X8_isUnder := rfl
theorem m_X8_taken : minf[218]? = some M_X8_taken := rfl
theorem m_J0_length_8abf5 : minf[219]? = some M_J0_length_8abf5 := rfl
theorem m_J0_charAt_5068e : minf[220]? = some M_J0_charAt_5068e := rfl
theorem m_J0_indexOf_0f7a4 : minf[221]? = some M_J0_indexOf_0f7a4 := rfl
theorem m_J0_indexOf_7cf53 : minf[222]? = some M_J0_indexOf_7cf53 := rfl
theorem m_J0_coder_7d493 : minf[223]? = some M_J0_coder_7d493 := rfl
theorem m_J0_isLatin1_aae02 : minf[224]? = some M_J0_isLatin1_aae02 := rfl
theorem m_J0_checkIndex_df160 : minf[225]? = some M_J0_checkIndex_df160 := rfl
theorem m_J1_charAt_3b067 : minf[226]? = some M_J1_charAt_3b067 := rfl
theorem m_J1_canEncode_9a6ad : minf[227]? = some M_J1_canEncode_9a6ad := rfl
theorem m_J1_indexOf_4cfef : minf[228]? = some M_J1_indexOf_4cfef := rfl
theorem m_J1_indexOfChar_4cfef : minf[229]? = some M_J1_indexOfChar_4cfef := rfl
theorem m_J3_checkIndex_8e157 : minf[230]? = some M_J3_checkIndex_8e157 := rfl
