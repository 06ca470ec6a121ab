/-! CALLS on the rope -/
theorem neg1 : Int32.toInt64 (-1) + 1 = 0 := by decide
theorem pr_rope {L : Nat} {h : Hp} (R : Rel L h) (a b c : Int32) : Pair L (g_X7_rope 4000 a b c) (g_X8_rope 4000 a b c) h := by
  obtain ⟨σ, T, M, Ln, w, wm, t, E⟩ := EN_of R
  by_cases hn : 0 ≤ a ∧ a ≤ σ.1
  case neg => exact Pair.pure (-5) R (by simp [g_X7_rope_0, g_X7_rope, cAre E, if_neg hn]) (by simp [g_X8_rope_0, g_X8_rope, rAre E, if_neg hn])
  by_cases hb : 0 ≤ b ∧ b ≤ 11
  case neg => exact Pair.pure (-7) R (by simp [g_X7_rope_0, g_X7_rope, cAre E, if_pos hn, wC, if_neg hb]) (by simp [g_X8_rope_0, g_X8_rope, rAre E, if_pos hn, g_X8_isCell_0, g_X8_isCell, wI, if_neg hb])
  by_cases hc : 0 ≤ c ∧ c ≤ 2
  case neg => exact Pair.pure (-7) R (by simp [g_X7_rope_0, g_X7_rope, cAre E, if_pos hn, wC, if_pos hb, if_neg hc]) (by simp [g_X8_rope_0, g_X8_rope, rAre E, if_pos hn, g_X8_isCell_0, g_X8_isCell, wI, if_pos hb, if_neg hc])
  obtain ⟨N, hN, rfl, hN2⟩ := nOf E.1 hn
  obtain ⟨j, hj, rfl⟩ := iex (n := 12) (by decide) hb.1 (by show b < 12; lia)
  have hin := iN_inb hj (by decide)
  have hix := iN_ix (k := j) (by omega)
  have H := EN_ok E 0 0 (-1) hN hN2
  obtain ⟨h1, e1, c1, -, f1⟩ := mkC E (-1) hN hN2
  obtain ⟨h2, e2, c2, -, f2⟩ := mkG (EN_fr f1 E) hN hN2
  have E1 := EN_fr f1 E
  have t1 := c_thick c1 H hj
  have t2 := r_thick c2 H hj
  have q1 := c1.1 j hj
  have q2 := c2.1 j hj
  generalize (4000 : Nat) = n at *
  refine ⟨if c = 0 then thk (gr0 σ T M Ln w wm (-1) N) j else if c = 1 then rL (gr0 σ T M Ln w wm (-1) N) j else rS (gr0 σ T M Ln w wm (-1) N) j, h1, h2, ?_, ?_, Rel_fr (f1.tr f2) R⟩
  · simp only [g_X7_rope_0, g_X7_rope, cAre E, if_pos hn, wC, if_pos hb, if_pos hc, Option.bind_some, ne10, eq10, ne_eq, not_false_eq_true, if_true, if_false, e1, hin, hix, t1, q1.2.1, q1.2.2]
    by_cases z : c = 0
    · simp [z]
    · by_cases y : c = 1
      · simp [y]
      · simp [z, y]
  · simp only [g_X8_rope_0, g_X8_rope, g_X8_isCell_0, g_X8_isCell, rAre E1, if_pos hn, wI, if_pos hb, if_pos hc, Option.bind_some, ne10, eq10, ne_eq, not_false_eq_true, if_true, if_false, true_or, or_true, e2, hin, hix, t2, q2.2.1, q2.2.2]
    by_cases z : c = 0
    · simp [z]
    · by_cases y : c = 1
      · simp [y]
      · simp [z, y]
theorem pr_whole {L : Nat} {h : Hp} (R : Rel L h) (a c : Int32) : Pair L (g_X7_whole 4000 a c) (g_X8_whole 4000 a c) h := by
  obtain ⟨σ, T, M, Ln, w, wm, t, E⟩ := EN_of R
  by_cases hn : 0 ≤ a ∧ a ≤ σ.1
  case neg => exact Pair.pure (-4611686018427387904) R (by simp [g_X7_whole_0, g_X7_whole, cAre E, if_neg hn]) (by simp [g_X8_whole_0, g_X8_whole, rAre E, if_neg hn])
  by_cases hc : 0 ≤ c ∧ c ≤ 2
  case neg => exact Pair.pure (-4611686018427387904) R (by simp [g_X7_whole_0, g_X7_whole, cAre E, if_pos hn, wC, if_neg hc]) (by simp [g_X8_whole_0, g_X8_whole, rAre E, if_pos hn, wI, if_neg hc])
  obtain ⟨N, hN, rfl, hN2⟩ := nOf E.1 hn
  have H := EN_ok E 0 0 (-1) hN hN2
  obtain ⟨h1, e1, c1, -, f1⟩ := mkC E (-1) hN hN2
  obtain ⟨h2, e2, c2, -, f2⟩ := mkG (EN_fr f1 E) hN hN2
  have E1 := EN_fr f1 E
  have q1 := c1.2.2.2.2
  have q2 := c2.2.2.2.2
  generalize (4000 : Nat) = n at *
  refine ⟨if c = 0 then rW (gr0 σ T M Ln w wm (-1) N) else if c = 1 then rE (gr0 σ T M Ln w wm (-1) N) else rW (gr0 σ T M Ln w wm (-1) N) * rE (gr0 σ T M Ln w wm (-1) N) / 1000000000, h1, h2, ?_, ?_, Rel_fr (f1.tr f2) R⟩
  · simp only [g_X7_whole_0, g_X7_whole, g_X3_goodParts_0, g_X3_goodParts, cAre E, if_pos hn, wC, if_pos hc, Option.bind_some, ne10, eq10, ne_eq, not_false_eq_true, if_true, if_false, e1, q1.1, q1.2]
    by_cases z : c = 0
    · simp [z]
    · by_cases y : c = 1
      · simp [y]
      · simp [z, y]
  · simp only [g_X8_whole_0, g_X8_whole, g_X8_both_0, g_X8_both, rAre E1, if_pos hn, wI, if_pos hc, Option.bind_some, ne10, eq10, ne_eq, not_false_eq_true, if_true, if_false, e2, q2.1, q2.2]
    by_cases z : c = 0
    · simp [z]
    · by_cases y : c = 1
      · simp [y]
      · simp [z, y]
theorem pr_cooks {L : Nat} {h : Hp} (R : Rel L h) (a b c : Int32) : Pair L (g_X7_cooks 4000 a b c) (g_X8_cooks 4000 a b c) h := by
  obtain ⟨σ, T, M, Ln, w, wm, t, E⟩ := EN_of R
  by_cases hn : 0 ≤ a ∧ a ≤ σ.1
  case neg => exact Pair.pure (-5) R (by simp [g_X7_cooks_0, g_X7_cooks, cAre E, if_neg hn]) (by simp [g_X8_cooks_0, g_X8_cooks, rAre E, if_neg hn])
  by_cases hb : 0 ≤ b ∧ b ≤ 9999
  case neg => exact Pair.pure (-7) R (by simp [g_X7_cooks_0, g_X7_cooks, cAre E, if_pos hn, wC, if_neg hb]) (by simp [g_X8_cooks_0, g_X8_cooks, rAre E, if_pos hn, wI, if_neg hb])
  by_cases hc : 0 ≤ c ∧ c ≤ 2
  case neg => exact Pair.pure (-7) R (by simp [g_X7_cooks_0, g_X7_cooks, cAre E, if_pos hn, wC, if_pos hb, if_neg hc]) (by simp [g_X8_cooks_0, g_X8_cooks, rAre E, if_pos hn, wI, if_pos hb, if_neg hc])
  obtain ⟨N, hN, rfl, hN2⟩ := nOf E.1 hn
  have H := EN_ok E 0 0 (-1) hN hN2
  obtain ⟨h1, e1, c1, -, f1⟩ := mkC E (-1) hN hN2
  obtain ⟨h2, e2, c2, -, f2⟩ := mkG (EN_fr f1 E) hN hN2
  have E1 := EN_fr f1 E
  have k1 := c_cook c1 H b c
  have k2 := r_cook c2 H b c
  generalize (4000 : Nat) = n at *
  refine ⟨ckd (gr0 σ T M Ln w wm (-1) N) b c 12, h1, h2, ?_, ?_, Rel_fr (f1.tr f2) R⟩
  · simp only [g_X7_cooks_0, g_X7_cooks, cAre E, if_pos hn, wC, if_pos hb, if_pos hc, Option.bind_some, ne10, eq10, ne_eq, not_false_eq_true, if_true, if_false, e1, k1]
  · simp only [g_X8_cooks_0, g_X8_cooks, rAre E1, if_pos hn, wI, if_pos hb, if_pos hc, Option.bind_some, ne10, eq10, ne_eq, not_false_eq_true, if_true, if_false, e2, k2]
/-- the pot's loop -/
noncomputable def ptl (r : RP) : Nat → Nat → Int32 → Int32 → Int32
  | 0, _, a, _ => a
  | j + 1, k, a, m => if m < ckd r (thk r k) 1 12 then ptl r j (k + 1) (thk r k) (ckd r (thk r k) 1 12) else if ckd r (thk r k) 1 12 ≠ m then ptl r j (k + 1) a m else if a ≤ thk r k then ptl r j (k + 1) a m else ptl r j (k + 1) (thk r k) (ckd r (thk r k) 1 12)
theorem l_cpot {r : RP} {h : Hp} (R : CR 82 r h) (H : okP r) (j : Nat) : ∀ (k m : Nat) (a x : Int32), k + j = 12 → j < m → g_X7_pot_29 4000 m a x (iN k) h = some (ptl r j k a x, h) := by
  induction j with
  | zero =>
    intro k m a x ek hm
    obtain ⟨m, rfl⟩ : ∃ z, m = z + 1 := ⟨m - 1, by omega⟩
    obtain rfl : k = 12 := by omega
    rw [g_X7_pot_29, if_pos i12e]; rfl
  | succ j ih =>
    intro k m a x ek hm
    obtain ⟨m, rfl⟩ : ∃ z, m = z + 1 := ⟨m - 1, by omega⟩
    rw [g_X7_pot_29, if_neg (i12 (by omega)), c_thick R H (by omega), Option.bind_some, c_cook R H, Option.bind_some]
    unfold ptl
    dsimp only
    by_cases c : x < ckd r (thk r k) 1 12
    · rw [if_pos c, if_pos c, g_X7_pot_77, g_X7_pot_83, iN_add (by omega)]; exact ih (k + 1) m _ _ (by omega) (by omega)
    · rw [if_neg c, if_neg c]
      by_cases d : ckd r (thk r k) 1 12 ≠ x
      · rw [if_pos d, if_pos d, g_X7_pot_83, iN_add (by omega)]; exact ih (k + 1) m _ _ (by omega) (by omega)
      · rw [if_neg d, if_neg d]
        by_cases e : a ≤ thk r k
        · rw [if_pos e, if_pos e, g_X7_pot_83, iN_add (by omega)]; exact ih (k + 1) m _ _ (by omega) (by omega)
        · rw [if_neg e, if_neg e, g_X7_pot_77, g_X7_pot_83, iN_add (by omega)]; exact ih (k + 1) m _ _ (by omega) (by omega)
theorem l_rpot {r : RP} {h : Hp} (R : RR r h) (H : okP r) (j : Nat) : ∀ (k m : Nat) (a x : Int32), k + j = 12 → j < m → g_X8_pot_23 4000 m a x (iN k) h = some (ptl r j k a x, h) := by
  induction j with
  | zero =>
    intro k m a x ek hm
    obtain ⟨m, rfl⟩ : ∃ z, m = z + 1 := ⟨m - 1, by omega⟩
    obtain rfl : k = 12 := by omega
    rw [g_X8_pot_23, if_pos i12e]; rfl
  | succ j ih =>
    intro k m a x ek hm
    obtain ⟨m, rfl⟩ : ∃ z, m = z + 1 := ⟨m - 1, by omega⟩
    rw [g_X8_pot_23, if_neg (i12 (by omega)), r_thick R H (by omega), Option.bind_some, r_cook R H, Option.bind_some]
    unfold ptl
    dsimp only
    by_cases c : x < ckd r (thk r k) 1 12
    · rw [if_pos c, if_pos c, g_X8_pot_65, g_X8_pot_71, iN_add (by omega)]; exact ih (k + 1) m _ _ (by omega) (by omega)
    · rw [if_neg c, if_neg c]
      by_cases d : ckd r (thk r k) 1 12 ≠ x
      · rw [if_pos d, if_pos d, g_X8_pot_71, iN_add (by omega)]; exact ih (k + 1) m _ _ (by omega) (by omega)
      · rw [if_neg d, if_neg d]
        by_cases e : a ≤ thk r k
        · rw [if_pos e, if_pos e, g_X8_pot_71, iN_add (by omega)]; exact ih (k + 1) m _ _ (by omega) (by omega)
        · rw [if_neg e, if_neg e, g_X8_pot_65, g_X8_pot_71, iN_add (by omega)]; exact ih (k + 1) m _ _ (by omega) (by omega)
theorem pr_pot {L : Nat} {h : Hp} (R : Rel L h) (a : Int32) : Pair L (g_X7_pot 4000 a) (g_X8_pot 4000 a) h := by
  obtain ⟨σ, T, M, Ln, w, wm, t, E⟩ := EN_of R
  by_cases hn : 0 ≤ a ∧ a ≤ σ.1
  case neg => exact Pair.pure (-5) R (by simp [g_X7_pot_83, g_X7_pot_77, g_X7_pot_0, g_X7_pot, cAre E, if_neg hn]) (by simp [g_X8_pot_71, g_X8_pot_65, g_X8_pot_0, g_X8_pot, rAre E, if_neg hn])
  obtain ⟨N, hN, rfl, hN2⟩ := nOf E.1 hn
  have H := EN_ok E 0 0 (-1) hN hN2
  obtain ⟨h1, e1, c1, -, f1⟩ := mkC E (-1) hN hN2
  obtain ⟨h2, e2, c2, -, f2⟩ := mkG (EN_fr f1 E) hN hN2
  have E1 := EN_fr f1 E
  have k1 := l_cpot c1 H 12 0 4000 0 0 rfl (by omega)
  have k2 := l_rpot c2 H 12 0 4000 0 0 rfl (by omega)
  rw [show iN 0 = (0 : Int32) from rfl] at k1 k2
  generalize (4000 : Nat) = n at *
  refine ⟨ptl (gr0 σ T M Ln w wm (-1) N) 12 0 0 0, h1, h2, ?_, ?_, Rel_fr (f1.tr f2) R⟩
  rotate_left
  · simp only [g_X8_pot_71, g_X8_pot_65, g_X8_pot_0, g_X8_pot, rAre E1, if_pos hn, Option.bind_some, ne10, eq10, ne_eq, not_false_eq_true, if_true, if_false, e2]
    exact k2
  · simp only [g_X7_pot_83, g_X7_pot_77, g_X7_pot_0, g_X7_pot, cAre E, if_pos hn, Option.bind_some, ne10, eq10, ne_eq, not_false_eq_true, if_true, if_false, e1]
    exact k1
/-- sheets as tests -/
noncomputable def wr (h : Hp) (s : Int32) : Int32 := if 0 ≤ s ∧ s ≤ 3 then (if gI h 107 (ix s) = -1 then -11 else if gI h 108 (ix s) = 12 then 0 else -2) else -2
theorem r_wrong (h : Hp) (s : Int32) : g_X8_sheetWrong s h = some (wr h s, h) := by
  unfold wr
  by_cases hs : 0 ≤ s ∧ s ≤ 3
  case neg => simp [g_X8_sheetWrong_0, g_X8_sheetWrong, wI, if_neg hs]
  obtain ⟨k, hk, rfl⟩ := iex (n := 4) (by decide) hs.1 (by show s < 4; lia)
  have hin := iN_inb hk (show 4 < 2147483648 by decide)
  have hix := iN_ix (k := k) (by omega)
  rw [if_pos hs]
  by_cases hm : gI h 107 k = -1
  · simp [g_X8_sheetWrong_0, g_X8_sheetWrong, wI, if_pos hs, hin, hix, hm]
  · by_cases h12 : gI h 108 k = 12
    · simp [g_X8_sheetWrong_0, g_X8_sheetWrong, wI, if_pos hs, hin, hix, hm, h12]
    · simp [g_X8_sheetWrong_0, g_X8_sheetWrong, wI, if_pos hs, hin, hix, hm, h12]
theorem wr_fr {h h1 : Hp} (f : Fr SX h h1) (s : Int32) : wr h1 s = wr h s := by
  unfold wr
  rw [f.i (by unfold SX; omega), f.i (by unfold SX; omega)]
theorem c_wrong {σ : SS} {T : Nat → List Int32} {M Ln : Nat → Int32} {w wm : Int32} {t L : Nat} {h : Hp} (E : EN σ T M Ln w wm t h) (R : Rel L h) {a : Int32} (s : Int32) (hn : 0 ≤ a ∧ a ≤ σ.1) : g_X7_refusalOfTest a s h = some (wr h s, h) := by
  unfold wr
  by_cases hs : 0 ≤ s ∧ s ≤ 3
  case neg => simp [g_X7_refusalOfTest_0, g_X7_refusalOfTest, cAre E, if_pos hn, csheet, if_neg hs]
  obtain ⟨k, hk, rfl⟩ := iex (n := 4) (by decide) hs.1 (by show s < 4; lia)
  have hin := iN_inb hk (show 4 < 2147483648 by decide)
  have hix := iN_ix (k := k) (by omega)
  have r := R.2.2.2.2.2.2.2.1 k hk
  rw [if_pos hs]
  rcases r.2 with hm | ⟨q1, q2, q3, q4, q5, q6⟩
  · simp [g_X7_refusalOfTest_0, g_X7_refusalOfTest, cAre E, if_pos hn, csheet, if_pos hs, hin, hix, r.1, hm]
  have hm : ¬ gI h 107 k = -1 := by lia
  by_cases h12 : gI h 108 k = 12
  · simp [g_X7_refusalOfTest_0, g_X7_refusalOfTest, cAre E, if_pos hn, csheet, if_pos hs, hin, hix, r.1, hm, q3, h12]
  · simp [g_X7_refusalOfTest_0, g_X7_refusalOfTest, cAre E, if_pos hn, csheet, if_pos hs, hin, hix, r.1, hm, q3, h12]
theorem wr_0 {L : Nat} {h : Hp} (R : Rel L h) {s : Int32} (hw : wr h s = 0) : ∃ k, k < 4 ∧ s = iN k ∧ (∀ i, i < 12 → gI h (73 + 2 * k) i = gI h 109 (40 * k + i)) := by
  unfold wr at hw
  by_cases hs : 0 ≤ s ∧ s ≤ 3
  case neg => rw [if_neg hs] at hw; exact absurd hw (by decide)
  obtain ⟨k, hk, rfl⟩ := iex (n := 4) (by decide) hs.1 (by show s < 4; lia)
  rw [if_pos hs, iN_ix (by omega)] at hw
  have r := R.2.2.2.2.2.2.2.1 k hk
  refine ⟨k, hk, rfl, fun i hi => ?_⟩
  rcases r.2 with hm | q
  · rw [if_pos hm] at hw; exact absurd hw (by decide)
  · exact q.2.2.2.2.2 i (by omega)
theorem c_wrong5 {σ : SS} {T : Nat → List Int32} {M Ln : Nat → Int32} {w wm : Int32} {t : Nat} {h : Hp} (E : EN σ T M Ln w wm t h) {a s : Int32} (hn : ¬ (0 ≤ a ∧ a ≤ σ.1)) : g_X7_refusalOfTest a s h = some (-5, h) := by simp [g_X7_refusalOfTest_0, g_X7_refusalOfTest, cAre E, if_neg hn]
theorem pr_judge {L : Nat} {h : Hp} (R : Rel L h) (a s c : Int32) : Pair L (g_X7_judge 4000 a s c) (g_X8_judge 4000 a s c) h := by
  obtain ⟨σ, T, M, Ln, w, wm, t, E⟩ := EN_of R
  by_cases hn : 0 ≤ a ∧ a ≤ σ.1
  case neg => exact Pair.pure (-5) R (by simp [g_X7_judge_0, g_X7_judge, c_wrong5 E hn]) (by simp [g_X8_judge_0, g_X8_judge, rAre E, if_neg hn])
  have v1 := c_wrong E R s hn
  have v2 := r_wrong h s
  by_cases hv : wr h s = 0
  case neg => exact Pair.pure (wr h s) R (by simp [g_X7_judge_0, g_X7_judge, v1, hv]) (by simp [g_X8_judge_0, g_X8_judge, rAre E, if_pos hn, v2, hv])
  rw [hv] at v1 v2
  by_cases hc : 0 ≤ c ∧ c ≤ 9999
  case neg => exact Pair.pure (-7) R (by simp [g_X7_judge_0, g_X7_judge, v1, wC, if_neg hc]) (by simp [g_X8_judge_0, g_X8_judge, rAre E, if_pos hn, v2, wI, if_neg hc])
  obtain ⟨k, hk, rfl, hrow⟩ := wr_0 R hv
  obtain ⟨N, hN, rfl, hN2⟩ := nOf E.1 hn
  have H := EN_ok E 0 0 (-1) hN hN2
  obtain ⟨h1, e1, c1, -, f1⟩ := mkC E (-1) hN hN2
  obtain ⟨h2, e2, c2, -, f2⟩ := mkG (EN_fr f1 E) hN hN2
  have E1 := EN_fr f1 E
  have w2 := r_wrong h1 (iN k)
  rw [wr_fr f1, hv] at w2
  have k1 := c_off c1 H (s := k) (row := fun i => gI h 109 (40 * k + i)) (fun i hi => by rw [f1.i (by unfold SX; omega)]; exact hrow i hi) (off := c) (le32.mp hc.1)
  have k2 := r_off c2 H hk (row := fun i => gI h 109 (40 * k + i)) (fun i hi => by rw [f2.i (by unfold SX; omega), f1.i (by unfold SX; omega)]) c
  have hin := iN_inb hk (show 4 < 2147483648 by decide)
  have hix := iN_ix (k := k) (by omega)
  generalize (4000 : Nat) = n at *
  refine ⟨fof (gr0 σ T M Ln w wm (-1) N) (fun i => gI h 109 (40 * k + i)) c 12 0, h1, h2, ?_, ?_, Rel_fr (f1.tr f2) R⟩
  rotate_left
  · simp only [g_X8_judge_0, g_X8_judge, rAre E1, if_pos hn, w2, wI, if_pos hc, Option.bind_some, ne10, eq10, ne_eq, not_false_eq_true, if_true, if_false, e2, k2]
  · simp only [g_X7_judge_0, g_X7_judge, v1, wC, if_pos hc, Option.bind_some, ne10, eq10, ne_eq, not_false_eq_true, if_true, if_false, e1, hin, hix, k1]
theorem pr_drawn {L : Nat} {h : Hp} (R : Rel L h) (a b d c : Int32) : PairW L (g_X7_drawn 4000 a b d c) (g_X8_drawn 4000 a b d c) h := by
  obtain ⟨σ, T, M, Ln, w, wm, t, E⟩ := EN_of R
  by_cases hn : 0 ≤ a ∧ a ≤ σ.1
  case neg => exact (Pair.pure (-5) R (by simp [g_X7_drawn_0, g_X7_drawn, cAre E, if_neg hn]) (by simp [g_X8_drawn_64, g_X8_drawn_54, g_X8_drawn_49, g_X8_drawn_0, g_X8_drawn, rAre E, if_neg hn])).w
  by_cases hb : 0 ≤ b ∧ b ≤ 11
  case neg => exact (Pair.pure (-7) R (by simp [g_X7_drawn_0, g_X7_drawn, cAre E, if_pos hn, wC, if_neg hb]) (by simp [g_X8_drawn_64, g_X8_drawn_54, g_X8_drawn_49, g_X8_drawn_0, g_X8_drawn, rAre E, if_pos hn, g_X8_isCell_0, g_X8_isCell, wI, if_neg hb])).w
  by_cases hd : 0 ≤ d ∧ d ≤ 99999
  case neg => exact (Pair.pure (-7) R (by simp [g_X7_drawn_0, g_X7_drawn, cAre E, if_pos hn, wC, if_pos hb, if_neg hd]) (by simp [g_X8_drawn_64, g_X8_drawn_54, g_X8_drawn_49, g_X8_drawn_0, g_X8_drawn, rAre E, if_pos hn, g_X8_isCell_0, g_X8_isCell, wI, if_pos hb, if_neg hd])).w
  by_cases hc : 0 ≤ c ∧ c ≤ 1
  case neg => exact (Pair.pure (-7) R (by simp [g_X7_drawn_0, g_X7_drawn, cAre E, if_pos hn, wC, if_pos hb, if_pos hd, if_neg hc]) (by simp [g_X8_drawn_64, g_X8_drawn_54, g_X8_drawn_49, g_X8_drawn_0, g_X8_drawn, rAre E, if_pos hn, g_X8_isCell_0, g_X8_isCell, wI, if_pos hb, if_pos hd, if_neg hc])).w
  obtain ⟨N, hN, rfl, hN2⟩ := nOf E.1 hn
  obtain ⟨j, hj, rfl⟩ := iex (n := 12) (by decide) hb.1 (by show b < 12; lia)
  have H1 := EN_ok E 1 (Int32.toInt64 d + 1) (-1) hN hN2
  have H2 := EN_ok E 2 (Int32.toInt64 d + 1) (-1) hN hN2
  obtain ⟨a1, a2, a3, a4, a5, a6, a7, a8, a9, a10, a11, a12, a13, a14, a15, a16⟩ := id E
  obtain ⟨h1, e1, c1, -, -, f1⟩ := c_go (T := T) (by omega) a1 (fun c hc => by have := a14 c hc; omega) a15 a16 a8 a5 a4 a6 a2 (-1) d 1 (Or.inr ⟨rfl, by have := hd.1; lia⟩) hN hN2
  have f1' : Fr SX h h1 := f1.mono (fun a k z => SM_SX z)
  have E1 := EN_fr f1' E
  obtain ⟨h2, q2⟩ : ∃ h2, h2 = hsi (hsl h1 96 46 (Int32.toInt64 d + 1)) 96 45 1 := ⟨_, rfl⟩
  have f2 : Fr (fun a k => a = 96 ∧ (k = 45 ∨ k = 46)) h1 h2 := by rw [q2]; exact ((Fr.rfl' _ _).sl _ (by omega)).si _ (by omega)
  obtain ⟨b1, b2, b3, b4, b5, b6, b7, b8, b9, b10, b11, b12, b13, b14, b15, b16⟩ := id E1
  have E2 : RE (2, T, w, wm) h2 := by
    refine ⟨Or.inr ⟨rfl, by rw [q2, gI_hsi, if_pos ⟨rfl, rfl⟩]⟩, ?_, ?_, b4, t, b5, ?_, TxR_c (fun a k q => f2.i (by omega)) b4 b7⟩
    · rw [f2.i (by omega)]; exact b10
    · rw [f2.i (by omega)]; exact b11
    · rw [f2.i (by omega)]; exact b12
  obtain ⟨h3, e3, c3, -, f3⟩ := r_go (e := (2, T, w, wm)) (M := M) (Ln := Ln) (lot := Int32.toInt64 d + 1) b1 (fun c hc => by have := b14 c hc; omega) b15 b16 E2 (fun z => by rw [q2, gL_hsi, gL_hsl, if_pos ⟨rfl, rfl⟩]) (RS_fr f2 (fun a k => by unfold Srs; omega) b3) (fun i hi => by rw [f2.i (by omega), f2.i (by omega)]; exact b9 i hi) (-1) hN hN2
  have e3' := r_goes e3
  obtain ⟨h4, q4⟩ : ∃ h4, h4 = hsi h3 96 45 0 := ⟨_, rfl⟩
  have c4 : RR (sGo (2, T, w, wm) σ M Ln (Int32.toInt64 d + 1) (-1) N) h4 := by
    rw [q4]; exact RR_fr ((Fr.rfl' (fun a k => a = 96 ∧ k = 45) _).si _ ⟨rfl, rfl⟩) (fun a k => by omega) c3
  have f4 : Fr SX h1 h4 := by
    refine ⟨?_, fun a k q => ?_⟩
    · rw [q4]; exact f3.1.trans f2.1
    · by_cases z : a = 96 ∧ k = 45
      · obtain ⟨rfl, rfl⟩ := z
        refine ⟨?_, ?_, ?_⟩
        · rw [q4, gI_hsi, if_pos ⟨rfl, rfl⟩]; exact b13.symm
        · rw [q4, gL_hsi, f3.l (by unfold SR; omega), q2, gL_hsi, gL_hsl, if_neg (by omega)]
        · rw [q4, gR_hsi, f3.r (by unfold SR; omega), q2, gR_hsi, gR_hsl]
      · have n3 : ¬ SR a k := fun y => q (SR_SX y)
        have n2 : ¬ (a = 96 ∧ (k = 45 ∨ k = 46)) := fun y => q (by unfold SX; omega)
        refine ⟨?_, ?_, ?_⟩
        · rw [q4, gI_hsi, if_neg z, f3.i n3, f2.i n2]
        · rw [q4, gL_hsi, f3.l n3, f2.l n2]
        · rw [q4, gR_hsi, f3.r n3, f2.r n2]
  have s1 := c_spread c1 H1
  have s2 := c_thick c1 H1 hj
  have s3 := r_spread c4 H2
  have s4 := r_thick c4 H2 hj
  rw [q2] at e3'
  rw [q4] at s3 s4
  generalize (4000 : Nat) = n at *
  refine ⟨if c ≠ 0 then spr (sGo (1, T, w, wm) σ M Ln (Int32.toInt64 d + 1) (-1) N) else thk (sGo (1, T, w, wm) σ M Ln (Int32.toInt64 d + 1) (-1) N) j, if c ≠ 0 then spr (sGo (2, T, w, wm) σ M Ln (Int32.toInt64 d + 1) (-1) N) else thk (sGo (2, T, w, wm) σ M Ln (Int32.toInt64 d + 1) (-1) N) j, h1, h4, ?_, ?_, Rel_fr (f1'.tr f4) R⟩
  · simp only [g_X7_drawn_0, g_X7_drawn, cAre E, if_pos hn, wC, if_pos hb, if_pos hd, if_pos hc, Option.bind_some, ne10, eq10, ne_eq, not_false_eq_true, if_true, if_false, e1, s1, s2]
    by_cases z : c = 0
    · simp [z]
    · simp [z]
  · simp only [g_X8_drawn_64, g_X8_drawn_54, g_X8_drawn_49, g_X8_drawn_0, g_X8_drawn, g_X8_isCell_0, g_X8_isCell, rAre E1, if_pos hn, wI, if_pos hb, if_pos hd, if_pos hc, Option.bind_some, ne10, eq10, ne_eq, not_false_eq_true, if_true, if_false, true_or, or_true, e3', s3, s4, q4]
    by_cases z : c = 0
    · simp [z]
    · simp [z]
