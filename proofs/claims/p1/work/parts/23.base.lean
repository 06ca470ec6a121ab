/-! NUMBERS: small counters as ints, sums that don't wrap -/
noncomputable def iN (k : Nat) : Int32 := Int32.ofNat k
theorem iN_t {k : Nat} (h : k < 2147483648) : (iN k).toInt = (k : Int) := Int32.toInt_ofNat_of_lt h
theorem iN_ix {k : Nat} (h : k < 2147483648) : ix (iN k) = k := by
  show (iN k).toInt.toNat = k
  rw [iN_t h]; omega
theorem iN_inb {k n : Nat} (h : k < n) (hn : n < 2147483648) : inb (iN k) n = true := by
  unfold inb; rw [iN_t (by omega)]
  simp only [Bool.and_eq_true, decide_eq_true_eq]; omega
theorem e32 {a b : Int32} : a = b ↔ a.toInt = b.toInt := Int32.toInt_inj.symm
theorem e64 {a b : Int64} : a = b ↔ a.toInt = b.toInt := Int64.toInt_inj.symm
theorem l32 {a b : Int32} : a < b ↔ a.toInt < b.toInt := Int32.lt_iff_toInt_lt
theorem le32 {a b : Int32} : a ≤ b ↔ a.toInt ≤ b.toInt := Int32.le_iff_toInt_le
theorem l64 {a b : Int64} : a < b ↔ a.toInt < b.toInt := Int64.lt_iff_toInt_lt
theorem le64 {a b : Int64} : a ≤ b ↔ a.toInt ≤ b.toInt := Int64.le_iff_toInt_le
theorem bm32 {n : Int} (h1 : -2147483648 ≤ n) (h2 : n < 2147483648) : n.bmod (2 ^ 32) = n := Int.bmod_eq_of_le (by omega) (by omega)
theorem bm64 {n : Int} (h1 : -9223372036854775808 ≤ n) (h2 : n < 9223372036854775808) : n.bmod (2 ^ 64) = n := Int.bmod_eq_of_le (by omega) (by omega)
theorem ta {a b : Int32} (h1 : -2147483648 ≤ a.toInt + b.toInt) (h2 : a.toInt + b.toInt < 2147483648) : (a + b).toInt = a.toInt + b.toInt := by
  rw [Int32.toInt_add, bm32 h1 h2]
theorem ts {a b : Int32} (h1 : -2147483648 ≤ a.toInt - b.toInt) (h2 : a.toInt - b.toInt < 2147483648) : (a - b).toInt = a.toInt - b.toInt := by
  rw [Int32.toInt_sub, bm32 h1 h2]
theorem tm {a b : Int32} (h1 : -2147483648 ≤ a.toInt * b.toInt) (h2 : a.toInt * b.toInt < 2147483648) : (a * b).toInt = a.toInt * b.toInt := by
  rw [Int32.toInt_mul, bm32 h1 h2]
theorem tn {a : Int32} (h : a.toInt ≠ -2147483648) : (-a).toInt = -a.toInt := by
  have := a.le_toInt
  have := a.toInt_lt
  rw [Int32.toInt_neg, bm32 (by omega) (by omega)]
theorem tda {a b : Int64} (h1 : -9223372036854775808 ≤ a.toInt + b.toInt) (h2 : a.toInt + b.toInt < 9223372036854775808) : (a + b).toInt = a.toInt + b.toInt := by
  rw [Int64.toInt_add, bm64 h1 h2]
theorem tds {a b : Int64} (h1 : -9223372036854775808 ≤ a.toInt - b.toInt) (h2 : a.toInt - b.toInt < 9223372036854775808) : (a - b).toInt = a.toInt - b.toInt := by
  rw [Int64.toInt_sub, bm64 h1 h2]
theorem tdm {a b : Int64} (h1 : -9223372036854775808 ≤ a.toInt * b.toInt) (h2 : a.toInt * b.toInt < 9223372036854775808) : (a * b).toInt = a.toInt * b.toInt := by
  rw [Int64.toInt_mul, bm64 h1 h2]
/-- a quotient of what is not below 0 by what is above 0 -/
theorem td {a b : Int32} (h1 : 0 ≤ a.toInt) (h2 : 0 < b.toInt) : (a / b).toInt = a.toInt / b.toInt := by
  have h3 := a.toInt_lt
  rw [Int32.toInt_div, Int.tdiv_eq_ediv_of_nonneg h1, bm32]
  · have := Int.ediv_nonneg h1 (Int.le_of_lt h2); omega
  · have := Int.ediv_le_self b.toInt h1; omega
theorem tdd {a b : Int64} (h1 : 0 ≤ a.toInt) (h2 : 0 < b.toInt) : (a / b).toInt = a.toInt / b.toInt := by
  have h3 := a.toInt_lt
  rw [Int64.toInt_div, Int.tdiv_eq_ediv_of_nonneg h1, bm64]
  · have := Int.ediv_nonneg h1 (Int.le_of_lt h2); omega
  · have := Int.ediv_le_self b.toInt h1; omega
theorem tw (a : Int32) : (Int32.toInt64 a).toInt = a.toInt := Int32.toInt_toInt64 a
theorem tnw {a : Int64} (h1 : -2147483648 ≤ a.toInt) (h2 : a.toInt < 2147483648) : (Int64.toInt32 a).toInt = a.toInt := by
  rw [Int64.toInt_toInt32, bm32 h1 h2]
theorem iN_add {k : Nat} (h : k < 2147483647) : iN k + 1 = iN (k + 1) := by
  rw [e32, ta, iN_t (by omega), iN_t (by omega)]
  · rfl
  · rw [iN_t (by omega)]; show (-2147483648 : Int) ≤ k + 1; omega
  · rw [iN_t (by omega)]; show (k + 1 : Int) < _; omega
theorem iN_sub {k : Nat} (h : k < 2147483647) (h1 : 1 ≤ k) : iN k - 1 = iN (k - 1) := by
  rw [e32, ts, iN_t (by omega), iN_t (by omega)]
  · show (k : Int) - 1 = _; omega
  · rw [iN_t (by omega)]; show (-2147483648 : Int) ≤ k - 1; omega
  · rw [iN_t (by omega)]; show (k - 1 : Int) < _; omega
theorem iN_le {a b : Nat} (ha : a < 2147483648) (hb : b < 2147483648) : (iN a ≤ iN b) ↔ a ≤ b := by
  rw [le32, iN_t ha, iN_t hb]; omega
theorem iN_lt {a b : Nat} (ha : a < 2147483648) (hb : b < 2147483648) : (iN a < iN b) ↔ a < b := by
  rw [l32, iN_t ha, iN_t hb]; omega
theorem iN_eq {a b : Nat} (ha : a < 2147483648) (hb : b < 2147483648) : (iN a = iN b) ↔ a = b := by
  rw [e32, iN_t ha, iN_t hb]; omega
/-- an int within bounds is a counter -/
theorem iN_ex {v : Int32} {n : Nat} (h1 : 0 ≤ v.toInt) (h2 : v.toInt < n) : ∃ k, k < n ∧ v = iN k := by
  have := v.toInt_lt
  refine ⟨v.toInt.toNat, by omega, ?_⟩
  rw [e32, iN_t (by omega)]; omega
theorem inb_ex {v : Int32} {n : Nat} (h : inb v n = true) : ∃ k, k < n ∧ v = iN k := by
  unfold inb at h
  simp only [Bool.and_eq_true, decide_eq_true_eq] at h
  exact iN_ex h.1 h.2
/-! HEAPS -/
theorem gI_hsi (h : Hp) (a j : Nat) (x : Int32) (b k : Nat) : gI (hsi h a j x) b k = if b = a ∧ k = j then x else gI h b k := rfl
theorem gI_hsl (h : Hp) (a j : Nat) (x : Int64) (b k : Nat) : gI (hsl h a j x) b k = gI h b k := rfl
theorem gI_hsr (h : Hp) (a j : Nat) (x : Option Nat) (b k : Nat) : gI (hsr h a j x) b k = gI h b k := rfl
theorem gL_hsi (h : Hp) (a j : Nat) (x : Int32) (b k : Nat) : gL' (hsi h a j x) b k = gL' h b k := rfl
theorem gL_hsl (h : Hp) (a j : Nat) (x : Int64) (b k : Nat) : gL' (hsl h a j x) b k = if b = a ∧ k = j then x else gL' h b k := rfl
theorem gL_hsr (h : Hp) (a j : Nat) (x : Option Nat) (b k : Nat) : gL' (hsr h a j x) b k = gL' h b k := rfl
theorem gR_hsi (h : Hp) (a j : Nat) (x : Int32) (b k : Nat) : gR (hsi h a j x) b k = gR h b k := rfl
theorem gR_hsl (h : Hp) (a j : Nat) (x : Int64) (b k : Nat) : gR (hsl h a j x) b k = gR h b k := rfl
theorem gR_hsr (h : Hp) (a j : Nat) (x : Option Nat) (b k : Nat) : gR (hsr h a j x) b k = if b = a ∧ k = j then x else gR h b k := rfl
theorem gI_hcp (h : Hp) (b s a d n c k : Nat) : gI (hcp h b s a d n) c k = if c = a then (if d ≤ k ∧ k < d + n then gI h b (s + (k - d)) else gI h a k) else gI h c k := by
  show (if c = a then (fun k => if d ≤ k ∧ k < d + n then h.2.1 b (s + (k - d)) else h.2.1 a k) else h.2.1 c) k = _
  split <;> rfl
theorem gL_hcp (h : Hp) (b s a d n c k : Nat) : gL' (hcp h b s a d n) c k = gL' h c k := rfl
theorem gR_hcp (h : Hp) (b s a d n c k : Nat) : gR (hcp h b s a d n) c k = gR h c k := rfl
/-- what lies outside of S stays -/
noncomputable def Fr (S : Nat → Nat → Prop) (h h' : Hp) : Prop := h'.1 = h.1 ∧ ∀ a k, ¬ S a k → gI h' a k = gI h a k ∧ gL' h' a k = gL' h a k ∧ gR h' a k = gR h a k
theorem Fr.rfl' (S : Nat → Nat → Prop) (h : Hp) : Fr S h h := ⟨rfl, fun _ _ _ => ⟨rfl, rfl, rfl⟩⟩
theorem Fr.tr {S : Nat → Nat → Prop} {h h1 h2 : Hp} (a : Fr S h h1) (b : Fr S h1 h2) : Fr S h h2 := ⟨b.1.trans a.1, fun x k c =>
  ⟨(b.2 x k c).1.trans (a.2 x k c).1, (b.2 x k c).2.1.trans (a.2 x k c).2.1, (b.2 x k c).2.2.trans (a.2 x k c).2.2⟩⟩
theorem Fr.mono {S S' : Nat → Nat → Prop} {h h1 : Hp} (a : Fr S h h1) (hS : ∀ x k, S x k → S' x k) : Fr S' h h1 := ⟨a.1, fun x k c => a.2 x k (fun d => c (hS x k d))⟩
theorem Fr.si {S : Nat → Nat → Prop} {h h1 : Hp} (f : Fr S h h1) {a j : Nat} (x : Int32) (c : S a j) : Fr S h (hsi h1 a j x) := ⟨f.1, fun b k d => by
  refine ⟨?_, (f.2 b k d).2⟩
  rw [gI_hsi, if_neg]
  · exact (f.2 b k d).1
  · intro e; rw [e.1, e.2] at d; exact d c⟩
theorem Fr.sl {S : Nat → Nat → Prop} {h h1 : Hp} (f : Fr S h h1) {a j : Nat} (x : Int64) (c : S a j) : Fr S h (hsl h1 a j x) := ⟨f.1, fun b k d => by
  refine ⟨(f.2 b k d).1, ?_, (f.2 b k d).2.2⟩
  rw [gL_hsl, if_neg]
  · exact (f.2 b k d).2.1
  · intro e; rw [e.1, e.2] at d; exact d c⟩
theorem Fr.sr {S : Nat → Nat → Prop} {h h1 : Hp} (f : Fr S h h1) {a j : Nat} (x : Option Nat) (c : S a j) : Fr S h (hsr h1 a j x) := ⟨f.1, fun b k d => by
  refine ⟨(f.2 b k d).1, (f.2 b k d).2.1, ?_⟩
  rw [gR_hsr, if_neg]
  · exact (f.2 b k d).2.2
  · intro e; rw [e.1, e.2] at d; exact d c⟩
theorem Fr.cp {S : Nat → Nat → Prop} {h h1 : Hp} (f : Fr S h h1) {b s a d n : Nat} (c : ∀ k, d ≤ k → k < d + n → S a k) : Fr S h (hcp h1 b s a d n) := ⟨f.1, fun x k q => by
  refine ⟨?_, (f.2 x k q).2⟩
  rw [gI_hcp]
  split
  · rename_i e; rw [e] at q ⊢
    rw [if_neg (fun z => q (c k z.1 z.2))]
    exact (f.2 a k q).1
  · exact (f.2 x k q).1⟩
theorem Fr.i {S : Nat → Nat → Prop} {h h1 : Hp} (f : Fr S h h1) {a k : Nat} (c : ¬ S a k) : gI h1 a k = gI h a k := (f.2 a k c).1
theorem Fr.l {S : Nat → Nat → Prop} {h h1 : Hp} (f : Fr S h h1) {a k : Nat} (c : ¬ S a k) : gL' h1 a k = gL' h a k := (f.2 a k c).2.1
theorem Fr.r {S : Nat → Nat → Prop} {h h1 : Hp} (f : Fr S h h1) {a k : Nat} (c : ¬ S a k) : gR h1 a k = gR h a k := (f.2 a k c).2.2
