theorem c_isA (k w : Int32) (hk : 0 ≤ k ∧ k ≤ 5) (hw : 0 ≤ w ∧ w ≤ 5) (h : Hp) : g_X5_isA_7 4000 4000 w k 0 h = some (if w = 0 ∨ k = w ∨ (w = 1 ∧ k = 2) ∨ (w = 3 ∧ k = 5) then 1 else 0, h) := by
  have hk2 : k = 0 ∨ k = 1 ∨ k = 2 ∨ k = 3 ∨ k = 4 ∨ k = 5 := by lia
  have hw2 : w = 0 ∨ w = 1 ∨ w = 2 ∨ w = 3 ∨ w = 4 ∨ w = 5 := by lia
  rcases hk2 with rfl | rfl | rfl | rfl | rfl | rfl <;> rcases hw2 with rfl | rfl | rfl | rfl | rfl | rfl <;> rfl
theorem r_isU (k w : Int32) (h : Hp) : g_X8_isUnder k w h = some (if w = 0 ∨ k = w ∨ (w = 1 ∧ k = 2) ∨ (w = 3 ∧ k = 5) then 1 else 0, h) := by
  simp only [g_X8_isUnder_29, g_X8_isUnder_19, g_X8_isUnder_0, g_X8_isUnder]
  by_cases a : w = 0
  · simp [a]
  by_cases b : k = w
  · simp [b]
  by_cases c : w = 1
  · by_cases d : k = 2
    · simp [c, d]
    · rw [c] at b; simp [c, d, b]
  · by_cases d : w = 3
    · by_cases e : k = 5
      · simp [d, e]
      · rw [d] at b; simp [d, e, b]
    · simp [a, b, c, d]
theorem pr_taken {L : Nat} {h : Hp} (R : Rel L h) (a b : Int32) : Pair L (g_X7_taken 4000 a b) (g_X8_taken a b) h := by
  have hS := R.2.2.2.2.1
  unfold RSt at hS
  have p1 := hS.2.1
  have p2 := hS.2.2.1
  by_cases hb : 0 ≤ b ∧ b ≤ 6
  case neg => exact Pair.pure (-2) R (by simp [g_X7_taken_0, g_X7_taken, wC, if_neg hb]) (by simp [g_X8_taken_0, g_X8_taken, wI, if_neg hb])
  by_cases ha : 0 ≤ a ∧ a ≤ 23
  case neg => exact Pair.pure (-12) R (by simp [g_X7_taken_0, g_X7_taken, wC, if_pos hb, if_neg ha]) (by simp [g_X8_taken_0, g_X8_taken, wI, if_pos hb, if_neg ha])
  by_cases h12 : 12 ≤ a
  case neg =>
    obtain ⟨j, hj, rfl⟩ := iex (n := 12) (by decide) ha.1 (by show a < 12; lia)
    have hin := iN_inb hj (by decide)
    have hix := iN_ix (k := j) (by omega)
    by_cases b6 : b = 6
    · subst b6
      exact Pair.pure (gI h 97 j) R (by simp [g_X7_taken_0, g_X7_taken, wC, if_pos hb, if_pos ha, h12, hin, hix, (R.1 j hj).1]) (by simp [g_X8_taken_0, g_X8_taken, wI, if_pos hb, if_pos ha, h12, hin, hix])
    · exact Pair.pure (-13) R (by simp [g_X7_taken_0, g_X7_taken, wC, if_pos hb, if_pos ha, h12, b6]) (by simp [g_X8_taken_0, g_X8_taken, wI, if_pos hb, if_pos ha, h12, b6])
  by_cases hn : a - 12 < gI h 96 5
  case neg =>
    have : ¬ (0 ≤ a - 12 ∧ a - 12 ≤ gI h 96 5 - 1) := by lia
    exact Pair.pure (-11) R (by simp [g_X7_taken_0, g_X7_taken, g_X7_isStep_0, g_X7_isStep, wC, if_pos hb, if_pos ha, h12, hS.1, if_neg this]) (by simp [g_X8_taken_0, g_X8_taken, wI, if_pos hb, if_pos ha, h12, hn])
  have h0 : 0 ≤ a - 12 ∧ a - 12 ≤ gI h 96 5 - 1 := by
    clear hS
    have q1 := ha.1
    have q2 := ha.2
    exact ⟨by lia, by lia⟩
  have h11 : ¬ 12 ≤ a - 12 := by
    clear hS
    have q2 := ha.2
    lia
  obtain ⟨j, hj, hj2⟩ := iex (n := 12) (by decide) h0.1 (by show a - 12 < 12; lia)
  have hin := iN_inb hj (by decide)
  have hix := iN_ix (k := j) (by omega)
  by_cases b6 : 6 ≤ b
  · exact Pair.pure (-13) R (by simp [g_X7_taken_0, g_X7_taken, g_X7_isStep_0, g_X7_isStep, wC, if_pos hb, if_pos ha, h12, hS.1, if_pos h0, h11, b6]) (by simp [g_X8_taken_0, g_X8_taken, wI, if_pos hb, if_pos ha, h12, hn, b6])
  rw [hj2] at hn h0 h11
  have hT := hS.2.2.2 j hj hn
  have hA := c_isA (gI h 99 j) b ⟨hT.2.1, hT.2.2.1⟩ ⟨hb.1, by clear hT; lia⟩ h
  refine Pair.pure (if b = 0 ∨ gI h 99 j = b ∨ (b = 1 ∧ gI h 99 j = 2) ∨ (b = 3 ∧ gI h 99 j = 5) then iN j else -13) R ?_ ?_
  · simp only [g_X7_taken_0, g_X7_taken, g_X7_isStep_0, g_X7_isStep, g_X5_isA_0, g_X5_isA, wC, if_pos hb, if_pos ha, hj2, hS.1, if_pos h0, Option.bind_some, ne10, eq10, if_pos h12, hin, hix, hA, hT.1, if_neg b6, if_neg h11, ne_eq, not_false_eq_true, if_true, if_false]
    by_cases c : b = 0 ∨ gI h 99 j = b ∨ (b = 1 ∧ gI h 99 j = 2) ∨ (b = 3 ∧ gI h 99 j = 5)
    · rw [if_pos c, if_pos c]; simp
    · rw [if_neg c, if_neg c]; simp
  · simp only [g_X8_taken_0, g_X8_taken, wI, if_pos hb, if_pos ha, hj2, Option.bind_some, ne10, eq10, if_pos h12, hin, hix, r_isU, if_pos hn, if_neg b6, ne_eq, not_false_eq_true, if_true, if_false]
    by_cases c : b = 0 ∨ gI h 99 j = b ∨ (b = 1 ∧ gI h 99 j = 2) ∨ (b = 3 ∧ gI h 99 j = 5)
    · rw [if_pos c, if_pos c]; simp
    · rw [if_neg c, if_neg c]; simp
/-! steps out of a sheet -/
noncomputable def sby (r : Nat → Int32) (z : Nat) : Nat → Int32 → Int32 → SS → Int32 × SS
  | 0, came, _, s => (came, s)
  | j + 1, came, i, s => if 0 ≤ i ∧ i.toInt + 3 ≤ (z : Int) then sby r z j (if (stp s (r (ix i)) (r (ix i + 1)) (r (ix i + 2))).1 < 0 then came else came + 1) (i + 3) (stp s (r (ix i)) (r (ix i + 1)) (r (ix i + 2))).2 else (-12, s)
theorem okS_sby (r : Nat → Int32) (z : Nat) : ∀ (j : Nat) (came i : Int32) (s : SS), okS s → okS (sby r z j came i s).2 := by
  intro j
  induction j with
  | zero => intro came i s H; exact H
  | succ j ih =>
    intro came i s H
    unfold sby
    split
    · exact ih _ _ _ (okS_stp H _ _ _)
    · exact H
theorem c_stepsBy (s z N : Nat) (hs : s < 4) (hz : z ≤ 40) (hN : N ≤ 12) (r : Nat → Int32) (n j : Nat) : ∀ (k m : Nat) (came i : Int32) (σ : SS) (h : Hp), k + j = N → j < m → okS σ → CS σ h → gI h (72 + 2 * s) 2 = iN z → (∀ q, q < 40 → gI h (73 + 2 * s) q = r q) → ∃ h', g_X7_stepsBy_71 n m (iN s) (iN N) came i (iN k) h = some ((sby r z j came i σ).1, h') ∧ CS (sby r z j came i σ).2 h' ∧ Fr Scs h h' := by
  induction j with
  | zero =>
    intro k m came i σ h e hm O C hz2 hr
    obtain ⟨m, rfl⟩ : ∃ z, m = z + 1 := ⟨m - 1, by omega⟩
    obtain rfl : k = N := by omega
    refine ⟨h, ?_, C, Fr.rfl' _ _⟩
    rw [g_X7_stepsBy_71, if_pos (by lia)]; rfl
  | succ j ih =>
    intro k m came i σ h e hm O C hz2 hr
    obtain ⟨m, rfl⟩ : ∃ z, m = z + 1 := ⟨m - 1, by omega⟩
    rw [g_X7_stepsBy_71, if_neg (by rw [iN_le (by omega) (by omega)]; omega), if_pos (iN_inb hs (by decide)), iN_ix (by omega)]
    have hz0 : 0 ≤ gI h (72 + 2 * s) 2 ∧ gI h (72 + 2 * s) 2 ≤ 40 := by
      rw [hz2]; exact ⟨(iN0 (n := 41) (by omega) (by decide)).1, by show iN z ≤ iN 40; rw [iN_le (by omega) (by omega)]; exact hz⟩
    rw [chas s i 3 h hz0, hz2]
    unfold sby
    by_cases c : 0 ≤ i ∧ i.toInt + 3 ≤ (z : Int)
    case neg =>
      rw [if_neg, if_neg c]
      · exact ⟨h, by simp, C, Fr.rfl' _ _⟩
      · rintro ⟨a1, -, a3, a4⟩
        refine c ⟨a1, ?_⟩
        rw [le32] at a1 a3 a4
        have k0 : (0 : Int32).toInt = 0 := rfl
        have k3 : (3 : Int32).toInt = 3 := rfl
        rw [ts (by rw [iN_t (by omega)] at *; omega) (by rw [iN_t (by omega)] at *; omega), iN_t (by omega)] at a4
        omega
    have c0 := le32.mp c.1
    have k0 : (0 : Int32).toInt = 0 := rfl
    have k3 : (3 : Int32).toInt = 3 := rfl
    obtain ⟨x, hx, rfl⟩ := iN_ex (v := i) (n := 38) (by omega) (by omega)
    have hxt := iN_t (k := x) (by omega)
    rw [if_pos c, if_pos (by
      refine ⟨c.1, by decide, ?_, ?_⟩
      · rw [iN_le (by omega) (by omega)]; omega
      · rw [le32, ts (by rw [hxt, iN_t (by omega)]; omega) (by rw [hxt, iN_t (by omega)]; omega), hxt, iN_t (by omega)]; omega)]
    have x1 : iN x + 1 = iN (x + 1) := iN_add (by omega)
    have x2 : iN x + 2 = iN (x + 2) := by
      rw [e32, ta] <;> rw [hxt] <;> (have k2 : (2 : Int32).toInt = 2 := rfl) <;> (try rw [iN_t (by omega)]) <;> omega
    have x3 : iN x + 3 = iN (x + 3) := by
      rw [e32, ta] <;> rw [hxt] <;> (try rw [iN_t (by omega)]) <;> omega
    simp only [Option.bind_some, ne10, eq10, ne_eq, not_false_eq_true, if_true, if_false, x1, x2, iN_inb (show x < 40 by omega) (by decide), iN_inb (show x + 1 < 40 by omega) (by decide), iN_inb (show x + 2 < 40 by omega) (by decide), iN_ix (show x < 2147483648 by omega), iN_ix (show x + 1 < 2147483648 by omega), iN_ix (show x + 2 < 2147483648 by omega), show 72 + 2 * s + 1 = 73 + 2 * s by omega, hr x (by omega), hr (x + 1) (by omega), hr (x + 2) (by omega)]
    obtain ⟨h1, e1, C1, f1⟩ := c_step O C (r x) (r (x + 1)) (r (x + 2))
    rw [e1]
    have hz1 : gI h1 (72 + 2 * s) 2 = iN z := by rw [f1.i (by unfold Scs; omega)]; exact hz2
    have hr1 : ∀ q, q < 40 → gI h1 (73 + 2 * s) q = r q := fun q hq => by rw [f1.i (by unfold Scs; omega)]; exact hr q hq
    obtain ⟨h2, e2, C2, f2⟩ := ih (k + 1) m (if (stp σ (r x) (r (x + 1)) (r (x + 2))).1 < 0 then came else came + 1) (iN x + 3) _ h1 (by omega) (by omega) (okS_stp O _ _ _) C1 hz1 hr1
    refine ⟨h2, ?_, C2, f1.tr f2⟩
    rw [← e2, Option.bind_some, g_X7_stepsBy_136, g_X7_stepsBy_136, iN_add (by omega)]
    by_cases d : (stp σ (r x) (r (x + 1)) (r (x + 2))).1 < 0
    · rw [if_pos d, if_pos d]
    · rw [if_neg d, if_neg d]
theorem r_stepsBy (s z N : Nat) (hs : s < 4) (hz : z ≤ 40) (hN : N ≤ 12) (r : Nat → Int32) (v3 : Int32) (n j : Nat) : ∀ (k m : Nat) (came i : Int32) (σ : SS) (h : Hp), k + j = N → j < m → (0 < k → 0 ≤ v3 ∧ v3 ≤ 37) → (i = v3 + 3 * iN k) → okS σ → RS σ h → gI h 108 s = iN z → (∀ q, q < 40 → gI h 109 (40 * s + q) = r q) → ∃ h', g_X8_stepsBy_64 n m (iN s) v3 (iN N) came (iN k) h = some ((sby r z j came i σ).1, h') ∧ RS (sby r z j came i σ).2 h' ∧ Fr Srs h h' := by
  induction j with
  | zero =>
    intro k m came i σ h e hm hp hi O C hz2 hr
    obtain ⟨m, rfl⟩ : ∃ z, m = z + 1 := ⟨m - 1, by omega⟩
    obtain rfl : k = N := by omega
    refine ⟨h, ?_, C, Fr.rfl' _ _⟩
    rw [g_X8_stepsBy_64, if_pos (by lia)]; rfl
  | succ j ih =>
    intro k m came i σ h e hm hp hi O C hz2 hr
    obtain ⟨m, rfl⟩ : ∃ z, m = z + 1 := ⟨m - 1, by omega⟩
    have k0 : (0 : Int32).toInt = 0 := rfl
    have k3 : (3 : Int32).toInt = 3 := rfl
    have k37 : (37 : Int32).toInt = 37 := rfl
    have h3k : ((3 : Int32) * iN k).toInt = 3 * (k : Int) := by
      rw [tm] <;> rw [k3, iN_t (by omega)] <;> omega
    rw [g_X8_stepsBy_64, if_neg (by rw [iN_le (by omega) (by omega)]; omega), ← hi, iN_ix (k := s) (by omega), hz2]
    unfold sby
    have hzt := iN_t (k := z) (by omega)
    have hz3 : (iN z - 3).toInt = (z : Int) - 3 := by
      rw [ts] <;> rw [hzt, k3] <;> omega
    -- where the next row begins
    have hit : 0 ≤ v3 → v3 ≤ 100 → i.toInt = v3.toInt + 3 * (k : Int) := by
      intro a b
      rw [le32] at a b
      have k100 : (100 : Int32).toInt = 100 := rfl
      rw [hi, ta] <;> rw [h3k] <;> omega
    by_cases c : 0 ≤ i ∧ i.toInt + 3 ≤ (z : Int)
    case neg =>
      rw [if_neg c]
      have : ∀ x : Option (Int32 × Hp), (if v3 < 0 then some (-12, h) else if i < v3 then some (-12, h) else if inb (iN s) 4 = true then (if i ≤ iN z - 3 then x else some (-12, h)) else none) = some (-12, h) := by
        intro x
        by_cases a1 : v3 < 0
        · rw [if_pos a1]
        rw [if_neg a1]
        by_cases a2 : i < v3
        · rw [if_pos a2]
        rw [if_neg a2, if_pos (iN_inb hs (by decide)), if_neg]
        intro a3
        rw [le32, hz3] at a3
        refine c ⟨?_, by omega⟩
        rw [l32] at a1 a2
        rw [le32]; omega
      exact ⟨h, this _, C, Fr.rfl' _ _⟩
    have c0 := le32.mp c.1
    have hv : 0 ≤ v3 ∧ v3 ≤ 37 := by
      by_cases hk : 0 < k
      · exact hp hk
      · obtain rfl : k = 0 := by omega
        have : i = v3 := by
          rw [hi]
          show v3 + 3 * 0 = v3
          rw [Int32.mul_zero, Int32.add_zero]
        rw [← this]
        refine ⟨c.1, ?_⟩
        rw [le32]; omega
    have hit2 := hit hv.1 (by have := hv.2; lia)
    obtain ⟨x, hx, hxe⟩ := iN_ex (v := i) (n := 38) (by omega) (by omega)
    have hxt := iN_t (k := x) (by omega)
    have hv0 := le32.mp hv.1
    rw [if_pos c, if_neg (by rw [l32]; omega), if_neg (by rw [l32]; omega), if_pos (iN_inb hs (by decide)), if_pos (by rw [le32, hz3]; omega)]
    rw [hxe] at hi hit2 c ⊢
    obtain ⟨m1, m2, m3⟩ := m40 (k := x) hs (by omega)
    have n1 : iN (40 * s + x) + 1 = iN (40 * s + x + 1) := iN_add (by omega)
    have n2 : iN (40 * s + x) + 2 = iN (40 * s + x + 2) := by
      rw [e32, ta] <;> rw [iN_t (by omega)] <;> (have k2 : (2 : Int32).toInt = 2 := rfl) <;> (try rw [iN_t (by omega)]) <;> omega
    have x3 : iN x + 3 = iN (x + 3) := by
      rw [e32, ta] <;> rw [hxt] <;> (try rw [iN_t (by omega)]) <;> omega
    have r0 := hr x (by omega)
    have r1 := hr (x + 1) (by omega)
    have r2 := hr (x + 2) (by omega)
    rw [← Nat.add_assoc] at r1 r2
    rw [m1, n1, n2, if_pos m2, if_pos (iN_inb (by omega) (by decide)), if_pos (iN_inb (by omega) (by decide)), m3, iN_ix (by omega), iN_ix (by omega), r0, r1, r2, iN_ix (by omega)]
    obtain ⟨h1, e1, C1, f1⟩ := r_step O C (r x) (r (x + 1)) (r (x + 2))
    rw [e1]
    have hz1 : gI h1 108 s = iN z := by rw [f1.i (by unfold Srs; omega)]; exact hz2
    have hr1 : ∀ q, q < 40 → gI h1 109 (40 * s + q) = r q := fun q hq => by rw [f1.i (by unfold Srs; omega)]; exact hr q hq
    have hi1 : iN x + 3 = v3 + 3 * iN (k + 1) := by
      have a1 : ((3 : Int32) * iN (k + 1)).toInt = 3 * ((k + 1 : Nat) : Int) := by
        rw [tm] <;> rw [k3, iN_t (by omega)] <;> omega
      have b := le32.mp hv.2
      rw [x3, e32, iN_t (by omega), ta] <;> rw [a1] <;> omega
    obtain ⟨h2, e2, C2, f2⟩ := ih (k + 1) m (if (stp σ (r x) (r (x + 1)) (r (x + 2))).1 < 0 then came else came + 1) (iN x + 3) _ h1 (by omega) (by omega) (fun _ => hv) hi1 (okS_stp O _ _ _) C1 hz1 hr1
    refine ⟨h2, ?_, C2, f1.tr f2⟩
    rw [← e2, Option.bind_some, g_X8_stepsBy_153, g_X8_stepsBy_153, iN_add (by omega)]
    by_cases d : (stp σ (r x) (r (x + 1)) (r (x + 2))).1 < 0
    · rw [if_pos d, if_pos d, Int32.add_zero]
    · rw [if_neg d, if_neg d]
theorem pr_stepsBy {L : Nat} {h : Hp} (R : Rel L h) (a b i c : Int32) : Pair L (g_X7_stepsBy 4000 a b i c) (g_X8_stepsBy 4000 a b i c) h := by
  by_cases ha : 0 ≤ a ∧ a ≤ 3
  case neg => exact Pair.pure (-2) R (by simp [g_X7_stepsBy_136, g_X7_stepsBy_0, g_X7_stepsBy, csheet, if_neg ha]) (by simp [g_X8_stepsBy_153, g_X8_stepsBy_0, g_X8_stepsBy, wI, if_neg ha])
  by_cases hb : 0 ≤ b ∧ b ≤ 2
  case neg => exact Pair.pure (-2) R (by simp [g_X7_stepsBy_136, g_X7_stepsBy_0, g_X7_stepsBy, csheet, wC, if_neg hb, if_pos ha]) (by simp [g_X8_stepsBy_153, g_X8_stepsBy_0, g_X8_stepsBy, wI, if_neg hb, if_pos ha])
  by_cases hc : 0 ≤ c ∧ c ≤ 12
  case neg => exact Pair.pure (-2) R (by simp [g_X7_stepsBy_136, g_X7_stepsBy_0, g_X7_stepsBy, csheet, wC, if_neg hc, if_pos hb, if_pos ha]) (by simp [g_X8_stepsBy_153, g_X8_stepsBy_0, g_X8_stepsBy, wI, if_neg hc, if_pos hb, if_pos ha])
  obtain ⟨s, hs, rfl⟩ := iex (n := 4) (by decide) ha.1 (by show a < 4; lia)
  obtain ⟨N, hN, rfl⟩ := iex (n := 13) (by decide) hc.1 (by show c < 13; lia)
  have hin := iN_inb hs (by decide)
  have hix := iN_ix (k := s) (by omega)
  have r := R.2.2.2.2.2.2.2.1 s hs
  rcases r.2 with hm | ⟨q1, q2, q3, q4, q5, q6⟩
  · exact Pair.pure (-11) R (by simp [g_X7_stepsBy_136, g_X7_stepsBy_0, g_X7_stepsBy, csheet, wC, if_pos ha, if_pos hb, if_pos hc, hin, hix, r.1, hm]) (by simp [g_X8_stepsBy_153, g_X8_stepsBy_0, g_X8_stepsBy, wI, if_pos ha, if_pos hb, if_pos hc, hin, hix, hm])
  have hm : ¬ gI h 107 s = -1 := by lia
  by_cases hu : gI h 107 s = b
  case neg => exact Pair.pure (-13) R (by simp [g_X7_stepsBy_136, g_X7_stepsBy_0, g_X7_stepsBy, csheet, wC, if_pos ha, if_pos hb, if_pos hc, hin, hix, r.1, hm, hu]) (by simp [g_X8_stepsBy_153, g_X8_stepsBy_0, g_X8_stepsBy, wI, if_pos ha, if_pos hb, if_pos hc, hin, hix, hm, hu])
  obtain ⟨z, hz, hz2⟩ := iex (n := 41) (by decide) q4 (by show _ < (41 : Int32); lia)
  obtain ⟨σ, O, C, D⟩ := RSt_s.mp R.2.2.2.2.1
  obtain ⟨h1, e1, C1, f1⟩ := c_stepsBy s z N hs (by omega) (by omega) (fun q => gI h 109 (40 * s + q)) 4000 N 0 4000 0 i σ h (by omega) (by omega) O C (q3.trans hz2) q6
  obtain ⟨h2, e2, D2, f2⟩ := r_stepsBy s z N hs (by omega) (by omega) (fun q => gI h 109 (40 * s + q)) i 4000 N 0 4000 0 i σ h1 (by omega) (by omega) (fun z => absurd z (by decide)) (by show i = i + 3 * 0; rw [Int32.mul_zero, Int32.add_zero]) O (RS_fr f1 (fun a k => by unfold Scs Srs; omega) D) (by rw [f1.i (by unfold Scs; omega)]; exact hz2) (fun q hq => by rw [f1.i (by unfold Scs; omega)])
  have g1 : gI h1 107 s = gI h 107 s := f1.i (by unfold Scs; omega)
  refine ⟨(sby (fun q => gI h 109 (40 * s + q)) z N 0 i σ).1, h1, h2, ?_, ?_, Rel_steps R f1 f2 (okS_sby _ _ _ _ _ _ O) C1 D2⟩
  rotate_left
  · rw [hu] at hm
    simp only [g_X8_stepsBy_153, g_X8_stepsBy_0, g_X8_stepsBy, wI, if_pos ha, if_pos hb, if_pos hc, hin, hix, g1, hu, ne_eq, hm, Option.bind_some, ne10, eq10, not_false_eq_true, if_true, if_false]
    exact e2
  · rw [hu] at hm
    simp only [g_X7_stepsBy_136, g_X7_stepsBy_0, g_X7_stepsBy, csheet, wC, if_pos ha, if_pos hb, if_pos hc, hin, hix, r.1, hu, ne_eq, hm, Option.bind_some, ne10, eq10, not_false_eq_true, if_true, if_false]
    exact e1
