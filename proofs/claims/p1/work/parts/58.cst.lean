/-! THE CLASS's reader and the machine: what both stand on -/
noncomputable def topr (r : Nat) (s : List Int32) : Prop := ∀ x s', s = x :: s' → rnk x < r
theorem uw_top {r : Nat} {s o : List Int32} {c : Int32} (h : topr r s) : uw r s o c = (s, o, c) := by
  cases s with
  | nil => rfl
  | cons x s => rw [uw, if_pos (h x s rfl)]
theorem uw_uw {r r' : Nat} (hr : r ≤ r') (s : List Int32) : ∀ o c, uw r (uw r' s o c).1 (uw r' s o c).2.1 (uw r' s o c).2.2 = uw r s o c := by
  induction s with
  | nil => intro o c; rfl
  | cons x s ih =>
    intro o c
    by_cases d : rnk x < r'
    · rw [show uw r' (x :: s) o c = (x :: s, o, c) by rw [uw, if_pos d]]
    · rw [show uw r' (x :: s) o c = uw r' s (o ++ [x]) (if x = 13 ∨ x = 19 then c - 1 else c) by rw [uw, if_neg d], ih, show uw r (x :: s) o c = uw r s (o ++ [x]) (if x = 13 ∨ x = 19 then c - 1 else c) by rw [uw, if_neg (by omega)]]
theorem uw_low {r r' : Nat} (hr : r ≤ r') {s1 o1 s o : List Int32} {c1 c : Int32} (h : uw r' s1 o1 c1 = uw r' s o c) : uw r s1 o1 c1 = uw r s o c := by
  rw [← uw_uw hr s1 o1 c1, h, uw_uw hr]
theorem topr_mono {r r' : Nat} (hr : r ≤ r') {s : List Int32} (h : topr r s) : topr r' s := fun x s' e => Nat.lt_of_lt_of_le (h x s' e) hr
theorem topr_cons {r : Nat} {x : Int32} {s : List Int32} (h : rnk x < r) : topr r (x :: s) := fun y s' e => by cases e; exact h
noncomputable def NoOp (B : Nat → Int32) (n r p : Nat) (s o : List Int32) (c : Int32) : Prop := sgn (kd B n p) ≠ -1 → r ≤ rnk (sgn (kd B n p)) → rnk (sgn (kd B n p)) = 4 ∧ top4 (uw 5 s o c).1 = true
theorem sgn_ne {k : Int32} (h : sgn k ≠ -1) : k ≠ 59 ∧ k ≠ 41 ∧ k ≠ 0 := ⟨fun z => h (by rw [z]; decide), fun z => h (by rw [z]; decide), fun z => h (by rw [z]; decide)⟩
/-- an operator -/
theorem m_op {B : Nat → Int32} {n p : Nat} {g : Bool} {s1 o1 s o : List Int32} {c1 c : Int32} (hs : sgn (kd B n p) ≠ -1) (hu : uw (bw (sgn (kd B n p))) s1 o1 c1 = (s, o, c)) (h4 : ¬ (rnk (sgn (kd B n p)) = 4 ∧ top4 s = true)) (m : Nat) : mrun B n (m + 1) false g s1 o1 c1 p = mrun B n m true (decide (¬ 12 < sgn (kd B n p))) (sgn (kd B n p) :: s) o c (en B n p) := by
  have k := sgn_ne hs
  rw [mrun, if_pos rfl, if_neg k.1, if_neg k.2.1, if_neg hs, hu, if_neg h4]
/-- what is no operator, and none that ends -/
theorem m_bad {B : Nat → Int32} {n p : Nat} {g : Bool} {s1 o1 : List Int32} {c1 : Int32} (h59 : kd B n p ≠ 59) (h41 : kd B n p ≠ 41) (hn : NoOp B n 1 p s1 o1 c1) (m : Nat) : mrun B n (m + 1) false g s1 o1 c1 p = some (none, p) := by
  rw [mrun, if_pos rfl, if_neg h59, if_neg h41]
  by_cases hs : sgn (kd B n p) = -1
  · rw [if_pos hs]
  · rw [if_neg hs]
    have r1 : ∀ k ∈ KL, sgn k ≠ -1 → 1 ≤ rnk (sgn k) := by decide +kernel
    have q := hn hs (r1 _ (kd_KL B n p) hs)
    rw [if_pos ⟨q.1, by unfold bw; rw [if_pos q.1]; exact q.2⟩]
noncomputable def CC (t : Nat) (o : List Int32) (h : Hp) : Prop := gI h (48 + 4 * t) 3 = iN o.length ∧ ∀ i, i < o.length → gI h (49 + 4 * t) i = cmap (o.getD i 0)
noncomputable def SCd (t a k : Nat) : Prop := S31 a k ∨ (a = 48 + 4 * t ∧ k = 3) ∨ a = 49 + 4 * t
theorem CC_fr {t : Nat} {o : List Int32} {h h1 : Hp} (f : Fr S31 h h1) (C : CC t o h) : CC t o h1 := by
  refine ⟨?_, fun i hi => ?_⟩
  · rw [f.i (by omega)]; exact C.1
  · rw [f.i (by omega)]; exact C.2 i hi
theorem c_add {B : Nat → Int32} {n t p : Nat} {o : List Int32} {v : Int32} {h : Hp} (hl : o.length < 160) (C : CC t o h) (A : CAt B n p h) (x : Int32) (hx : cmap x = v) : ∃ h', g_X6_add (48 + 4 * t) v h = some h' ∧ CC t (o ++ [x]) h' ∧ CAt B n p h' ∧ Fr (SCd t) h h' := by
  unfold g_X6_add g_X6_add_0 g_X6_add_20
  rw [C.1, if_neg (show ¬ (160 : Int32) ≤ iN o.length by rw [show (160 : Int32) = iN 160 from rfl, iN_le (by omega) (by omega)]; omega), if_pos (iN_inb hl (by decide)), iN_ix (by omega), show 48 + 4 * t + 1 = 49 + 4 * t by omega, show gI (hsi h (49 + 4 * t) o.length v) (48 + 4 * t) 3 = iN o.length by rw [gI_hsi, if_neg (by omega)]; exact C.1, iN_add (by omega)]
  refine ⟨_, rfl, ⟨?_, fun i hi => ?_⟩, ⟨?_, ?_, ?_, fun z => ?_⟩, ((Fr.rfl' _ _).si _ (Or.inr (Or.inr rfl))).si _ (Or.inr (Or.inl ⟨rfl, rfl⟩))⟩
  · rw [gI_hsi, if_pos ⟨rfl, rfl⟩]; simp
  · rw [List.length_append] at hi
    have hi' : i < o.length + 1 := hi
    rw [gI_hsi, if_neg (by omega), gI_hsi]
    by_cases d : i = o.length
    · rw [if_pos ⟨rfl, by omega⟩, d, ← hx]; simp
    · rw [if_neg (by omega), C.2 i (by omega)]
      rw [List.getD_eq_getElem?_getD, List.getD_eq_getElem?_getD, List.getElem?_append_left (by omega)]
  · rw [gI_hsi, if_neg (by omega), gI_hsi, if_neg (by omega)]; exact A.1
  · rw [gI_hsi, if_neg (by omega), gI_hsi, if_neg (by omega)]; exact A.2.1
  · rw [gI_hsi, if_neg (by omega), gI_hsi, if_neg (by omega)]; exact A.2.2.1
  · rw [gI_hsi, if_neg (by omega), gI_hsi, if_neg (by omega)]; exact A.2.2.2 z
/-! numbers and names -/
theorem numv_b {B : Nat → Int32} (j : Nat) : ∀ (s i A : Nat), i + j ≤ 4 → A < 10 ^ i → (∀ q, s ≤ q → q < s + j → isDg (B q) = true) → ∃ R, R < 10 ^ (i + j) ∧ numv B j s (iN A) = iN R := by
  induction j with
  | zero => intro s i A hi hA hd; exact ⟨A, hA, rfl⟩
  | succ j ih =>
    intro s i A hi hA hd
    have d0 := hd s (by omega) (by omega)
    unfold isDg at d0
    rw [decide_eq_true_eq] at d0
    obtain ⟨b, hb, eb⟩ := iex (n := 58) (v := B s) (by decide) (by lia) (by show B s < 58; lia)
    have hb2 : 48 ≤ b := by
      have h1 : iN 48 ≤ iN b := by rw [← eb]; exact d0.1
      rw [iN_le (by omega) (by omega)] at h1; exact h1
    have h4 : (10 : Nat) ^ i ≤ 10 ^ 3 := Nat.pow_le_pow_right (by omega) (by omega)
    have hA' : A < 1000 := by have : (10 : Nat) ^ 3 = 1000 := rfl; omega
    have e : iN A * 10 + B s - 48 = iN (A * 10 + b - 48) := by
      rw [eb, show (10 : Int32) = iN 10 from rfl, mul_iN (by omega) (by omega) (by omega), add_iN (by omega) (by omega), show (48 : Int32) = iN 48 from rfl, e32, ts] <;> rw [iN_t (by omega), iN_t (by omega)]
      · rw [iN_t (by omega)]; omega
      · omega
      · omega
    have h5 : A * 10 + b - 48 < 10 ^ (i + 1) := by
      rw [Nat.pow_succ]; omega
    obtain ⟨R, r1, r2⟩ := ih (s + 1) (i + 1) (A * 10 + b - 48) (by omega) h5 (fun q h1 h2 => hd q (by omega) (by omega))
    refine ⟨R, by rw [show i + (j + 1) = i + 1 + j by omega]; exact r1, ?_⟩
    rw [numv, e]; exact r2
theorem vl_2 {B : Nat → Int32} {n p : Nat} (h : kd B n p = 2) : okCode (100000 + vl B n p) ∧ isOp (100000 + vl B n p) = true ∧ cmap (100000 + vl B n p) = vl B n p := by
  have key : ∃ R, R < 10000 ∧ vl B n p = iN R := by
    unfold kd kd0 at h
    unfold vl vl0
    by_cases c : st B n p < n
    · rw [if_pos c] at h
      by_cases d : isLt (B (st B n p)) = true
      · rw [if_pos d] at h; exact absurd h (kw_facts _ (wix_lt _ _ _)).2.1
      · rw [if_neg d] at h
        rw [if_neg d]
        by_cases g : isDg (B (st B n p)) = true
        · rw [if_pos g] at h
          by_cases w : upto B n isDg (st B n p) - st B n p ≤ 4
          · obtain ⟨R, r1, r2⟩ := numv_b (B := B) (upto B n isDg (st B n p) - st B n p) (st B n p) 0 0 (by omega) (by decide) (fun q h1 h2 => by
              have h3 : q < upto B n isDg (st B n p) := by omega
              exact (rn_all (B := B) (n := n) (Q := isDg) (160 - st B n p) (st B n p) q h1 h3).2)
            refine ⟨R, Nat.lt_of_lt_of_le r1 ?_, r2⟩
            have : (10 : Nat) ^ (0 + (upto B n isDg (st B n p) - st B n p)) ≤ 10 ^ 4 := Nat.pow_le_pow_right (by omega) (by omega)
            exact this
          · rw [if_neg w] at h; exact absurd h (by decide)
        · rw [if_neg g] at h
          by_cases t : isS (B (st B n p)) = true
          · rw [if_pos t] at h; rw [h] at t; exact absurd t (by decide)
          · rw [if_neg t] at h; exact absurd h (by decide)
    · rw [if_neg c] at h; exact absurd h (by decide)
  obtain ⟨R, r1, r2⟩ := key
  have b1 := iN0 (k := R) (n := 10000) r1 (by decide)
  have b2 : iN R < 10000 := b1.2
  rw [r2]
  refine ⟨Or.inl ⟨by lia, by lia⟩, isOp_t.mpr (Or.inl (by lia)), ?_⟩
  unfold cmap
  rw [if_pos (by lia)]; lia
theorem vl_3 {B : Nat → Int32} {n p : Nat} (h : kd B n p = 3) : okCode (vl B n p) ∧ isOp (vl B n p) = true ∧ cmap (vl B n p) = -1 - vl B n p := by
  have key : ∃ w, w < 13 ∧ kw w = 3 ∧ vl B n p = iN (w - 3) := by
    unfold kd kd0 at h
    unfold vl vl0
    by_cases c : st B n p < n
    · rw [if_pos c] at h
      by_cases d : isLt (B (st B n p)) = true
      · rw [if_pos d] at h
        rw [if_pos d]
        exact ⟨_, wix_lt _ _ _, h, rfl⟩
      · rw [if_neg d] at h
        by_cases g : isDg (B (st B n p)) = true
        · rw [if_pos g] at h
          by_cases w : upto B n isDg (st B n p) - st B n p ≤ 4
          · rw [if_pos w] at h; exact absurd h (by decide)
          · rw [if_neg w] at h; exact absurd h (by decide)
        · rw [if_neg g] at h
          by_cases t : isS (B (st B n p)) = true
          · rw [if_pos t] at h; rw [h] at t; exact absurd t (by decide)
          · rw [if_neg t] at h; exact absurd h (by decide)
    · rw [if_neg c] at h; exact absurd h (by decide)
  obtain ⟨w, w1, w2, w3⟩ := key
  rw [w3]
  have f1 : ∀ w, w < 13 → kw w = 3 → (0 ≤ iN (w - 3) ∧ iN (w - 3) ≤ 5) ∧ cmap (iN (w - 3)) = -1 - iN (w - 3) := by decide +kernel
  obtain ⟨f2, f3⟩ := f1 w w1 w2
  exact ⟨Or.inr (Or.inl f2), isOp_t.mpr (Or.inr (by have := f2.2; lia)), f3⟩
