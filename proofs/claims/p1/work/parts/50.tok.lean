/-! TOKENS of a tape (B, n) -/
noncomputable def isBk (c : Int32) : Bool := c == 32 || c == 10
noncomputable def isLt (c : Int32) : Bool := decide (97 ≤ c ∧ c ≤ 122)
noncomputable def isDg (c : Int32) : Bool := decide (48 ≤ c ∧ c ≤ 57)
/-- from p on as long as Q holds -/
noncomputable def rn (B : Nat → Int32) (n : Nat) (Q : Int32 → Bool) : Nat → Nat → Nat
  | 0, p => p
  | j + 1, p => if p < n ∧ Q (B p) = true then rn B n Q j (p + 1) else p
theorem rn_b {B : Nat → Int32} {n : Nat} {Q : Int32 → Bool} (j : Nat) : ∀ p, p ≤ n → p ≤ rn B n Q j p ∧ rn B n Q j p ≤ n := by
  induction j with
  | zero => intro p hp; exact ⟨Nat.le_refl _, hp⟩
  | succ j ih =>
    intro p hp
    unfold rn
    by_cases c : p < n ∧ Q (B p) = true
    · rw [if_pos c]; have := ih (p + 1) (by omega); omega
    · rw [if_neg c]; omega
theorem rn_all {B : Nat → Int32} {n : Nat} {Q : Int32 → Bool} (j : Nat) : ∀ p, ∀ i, p ≤ i → i < rn B n Q j p → i < n ∧ Q (B i) = true := by
  induction j with
  | zero => intro p i h1 h2; unfold rn at h2; omega
  | succ j ih =>
    intro p i h1 h2
    unfold rn at h2
    by_cases c : p < n ∧ Q (B p) = true
    · rw [if_pos c] at h2
      by_cases e : i = p
      · rw [e]; exact c
      · exact ih (p + 1) i (by omega) h2
    · rw [if_neg c] at h2; omega
theorem rn_end {B : Nat → Int32} {n : Nat} {Q : Int32 → Bool} (j : Nat) : ∀ p, n ≤ p + j → ¬ (rn B n Q j p < n ∧ Q (B (rn B n Q j p)) = true) := by
  induction j with
  | zero => intro p h; unfold rn; omega
  | succ j ih =>
    intro p h
    unfold rn
    by_cases c : p < n ∧ Q (B p) = true
    · rw [if_pos c]; exact ih (p + 1) (by omega)
    · rw [if_neg c]; exact c
/-- one step of it, whatever is left -/
theorem rn_step {B : Nat → Int32} {n : Nat} {Q : Int32 → Bool} {p : Nat} (hp : p < n) (hn : n ≤ 160) (hq : Q (B p) = true) : rn B n Q (160 - p) p = rn B n Q (160 - (p + 1)) (p + 1) := by
  rw [show 160 - p = (160 - (p + 1)) + 1 by omega, rn, if_pos ⟨hp, hq⟩]
theorem rnx_stop {B : Nat → Int32} {n : Nat} {Q : Int32 → Bool} {p : Nat} (h : ¬ (p < n ∧ Q (B p) = true)) (j : Nat) : rn B n Q j p = p := by
  cases j with
  | zero => rfl
  | succ j => rw [rn, if_neg h]
noncomputable def upto (B : Nat → Int32) (n : Nat) (Q : Int32 → Bool) (p : Nat) : Nat := rn B n Q (160 - p) p
/-- does the word w stand in s .. e? -/
noncomputable def mw (B : Nat → Int32) (w s e : Nat) : Bool := decide (e - s ≤ 8) && (List.range 8).all (fun i => wordsT.getD (8 * w + i) 0 == (if s + i < e then B (s + i) else 32))
noncomputable def fw (B : Nat → Int32) (s e : Nat) : Nat → Nat → Nat
  | 0, w => w
  | j + 1, w => if mw B w s e = true then w else fw B s e j (w + 1)
noncomputable def wix (B : Nat → Int32) (s e : Nat) : Nat := fw B s e 12 0
noncomputable def kw (w : Nat) : Int32 := if w < 3 then iN (10 + w) else if w < 9 then 3 else if w < 12 then iN (4 + w) else 1
noncomputable def numv (B : Nat → Int32) : Nat → Nat → Int32 → Int32
  | 0, _, a => a
  | j + 1, s, a => numv B j (s + 1) (a * 10 + B s - 48)
noncomputable def st (B : Nat → Int32) (n p : Nat) : Nat := upto B n isBk p
noncomputable def kd0 (B : Nat → Int32) (n s : Nat) : Int32 := if s < n then (if isLt (B s) = true then kw (wix B s (upto B n isLt s)) else if isDg (B s) = true then (if upto B n isDg s - s ≤ 4 then 2 else 1) else if isS (B s) = true then B s else 1) else 0
noncomputable def en0 (B : Nat → Int32) (n s : Nat) : Nat := if s < n then (if isLt (B s) = true then upto B n isLt s else if isDg (B s) = true then upto B n isDg s else s + 1) else s
noncomputable def vl0 (B : Nat → Int32) (n s : Nat) : Int32 := if isLt (B s) = true then iN (wix B s (upto B n isLt s) - 3) else numv B (upto B n isDg s - s) s 0
noncomputable def kd (B : Nat → Int32) (n p : Nat) : Int32 := kd0 B n (st B n p)
noncomputable def en (B : Nat → Int32) (n p : Nat) : Nat := en0 B n (st B n p)
noncomputable def vl (B : Nat → Int32) (n p : Nat) : Int32 := vl0 B n (st B n p)
noncomputable def okB2 (B : Nat → Int32) (n : Nat) : Prop := n ≤ 160 ∧ ∀ k, k < n → 0 ≤ B k ∧ B k ≤ 255
theorem upto_b {B : Nat → Int32} {n p : Nat} {Q : Int32 → Bool} (hp : p ≤ n) : p ≤ upto B n Q p ∧ upto B n Q p ≤ n := rn_b _ _ hp
theorem upto_s {B : Nat → Int32} {n p : Nat} {Q : Int32 → Bool} (hn : n ≤ 160) (hp : p < n) (hq : Q (B p) = true) : p < upto B n Q p := by
  have := rn_step (B := B) hp hn hq
  have h2 := rn_b (B := B) (n := n) (Q := Q) (160 - (p + 1)) (p + 1) hp
  unfold upto; omega
theorem en_b {B : Nat → Int32} {n p : Nat} (O : okB2 B n) (hp : p ≤ n) : p ≤ st B n p ∧ st B n p ≤ en B n p ∧ en B n p ≤ n := by
  have h1 := upto_b (B := B) (Q := isBk) hp
  unfold en en0 st
  refine ⟨h1.1, ?_⟩
  by_cases c : upto B n isBk p < n
  · rw [if_pos c]
    by_cases d : isLt (B (upto B n isBk p)) = true
    · rw [if_pos d]; have := upto_b (B := B) (Q := isLt) h1.2; omega
    · rw [if_neg d]
      by_cases d : isDg (B (upto B n isBk p)) = true
      · rw [if_pos d]; have := upto_b (B := B) (Q := isDg) h1.2; omega
      · rw [if_neg d]; omega
  · rw [if_neg c]; omega
/-- a token takes a place -/
theorem en_s {B : Nat → Int32} {n p : Nat} (O : okB2 B n) (hp : p ≤ n) (h : kd B n p ≠ 0) : p < en B n p := by
  have h1 := upto_b (B := B) (Q := isBk) hp
  unfold kd kd0 at h
  unfold en en0
  have c : st B n p < n := by
    by_cases c : st B n p < n
    · exact c
    · rw [if_neg c] at h; exact absurd rfl h
  rw [if_pos c]
  unfold st at *
  by_cases d : isLt (B (upto B n isBk p)) = true
  · rw [if_pos d]; have := upto_s O.1 c d; omega
  · rw [if_neg d]
    by_cases d : isDg (B (upto B n isBk p)) = true
    · rw [if_pos d]; have := upto_s O.1 c d; omega
    · rw [if_neg d]; omega
