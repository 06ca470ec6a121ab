/-! stop, worst, state -/
noncomputable def good (r : RP) : Int64 := rW r * rE r / 1000000000
theorem ne_m1 {k : Nat} (hk : k < 2147483648) : ¬ iN k = (-1 : Int32) := by
  intro z
  have h1 := iN_t hk
  rw [z] at h1
  have : (-1 : Int32).toInt = -1 := rfl
  omega
theorem gr0_s {σ : SS} {T : Nat → List Int32} {M Ln : Nat → Int32} {w wm : Int32} {k : Nat} (hk : k < 2147483648) : gr0 σ T M Ln w wm (-1) (k + 1) = sMake (0, T, w, wm) (σ.2.1 k) (σ.2.2.1 k) (σ.2.2.2 k) (gr0 σ T M Ln w wm (-1) k) := by
  show (if iN k = -1 then _ else _) = _
  rw [if_neg (ne_m1 hk)]
theorem c_good {v : Nat} {r : RP} {h : Hp} (R : CR v r h) : g_X3_goodParts v h = some (good r, h) := by
  unfold g_X3_goodParts g_X3_goodParts_0
  rw [R.2.2.2.2.1, R.2.2.2.2.2]; rfl
theorem r_both {σ : SS} {T : Nat → List Int32} {M Ln : Nat → Int32} {w wm : Int32} {t : Nat} {h : Hp} (E : EN σ T M Ln w wm t h) {N : Nat} (hN : N ≤ 12) (hN2 : ∀ k, k < N → iN k < σ.1) : ∃ h1, g_X8_both 4000 (iN N) h = some (good (gr0 σ T M Ln w wm (-1) N), h1) ∧ Fr SX h h1 := by
  obtain ⟨h1, a, b, -, f⟩ := mkG E hN hN2
  refine ⟨h1, ?_, f⟩
  unfold g_X8_both g_X8_both_0
  rw [a, Option.bind_some, b.2.2.2.2.1, b.2.2.2.2.2]; rfl
/-- one more step of the class's rope -/
theorem c_next {σ : SS} {T : Nat → List Int32} {M Ln : Nat → Int32} {w wm : Int32} {t : Nat} {h : Hp} (E : EN σ T M Ln w wm t h) {k S : Nat} (hS : S ≤ 12) (hS2 : ∀ k, k < S → iN k < σ.1) (hk : k < S) (R : CR 82 (gr0 σ T M Ln w wm (-1) k) h) (C : CE (e0 T w wm) h) : ∃ h1, g_X3_make 4000 82 (36 + k) h = some h1 ∧ CR 82 (gr0 σ T M Ln w wm (-1) (k + 1)) h1 ∧ CE (e0 T w wm) h1 ∧ Fr SX h h1 := by
  obtain ⟨h1, a, b, -, f⟩ := c_makeStep (Or.inl rfl) R C CO0 (EN_ok E 0 0 (-1) (by omega) (fun i hi => hS2 i (by omega))) E.2.1 E.1 (s := k) (by omega) (hS2 k hk)
  exact ⟨h1, a, by rw [gr0_s (by omega)]; exact b, CE_fr (Or.inl rfl) f C, f.mono (fun a k z => SCr_SX (Or.inl rfl) z)⟩
noncomputable def stf (σ : SS) (T : Nat → List Int32) (M Ln : Nat → Int32) (w wm sure : Int32) : Nat → Nat
  | 0 => 0
  | k + 1 => if good (gr0 σ T M Ln w wm (-1) (k + 1)) * 100 < Int32.toInt64 sure * 1000000000 then stf σ T M Ln w wm sure k else k + 1
theorem l_cstop {σ : SS} {T : Nat → List Int32} {M Ln : Nat → Int32} {w wm : Int32} {t S : Nat} (hS : S ≤ 12) (hσ : σ.1 = iN S) (hS2 : ∀ k, k < S → iN k < σ.1) (sure : Int32) (j : Nat) : ∀ (k m : Nat) (h : Hp), k + j = S → j < m → EN σ T M Ln w wm t h → CR 82 (gr0 σ T M Ln w wm (-1) k) h → CE (e0 T w wm) h → ∃ h', g_X7_stop_28 4000 m sure (iN (stf σ T M Ln w wm sure k)) (iN k) h = some (iN (stf σ T M Ln w wm sure S), h') ∧ Fr SX h h' := by
  induction j with
  | zero =>
    intro k m h ek hm E R C
    obtain ⟨m, rfl⟩ : ∃ z, m = z + 1 := ⟨m - 1, by omega⟩
    obtain rfl : k = S := by omega
    exact ⟨h, by rw [g_X7_stop_28, E.2.1.1, hσ, if_pos (by lia)], Fr.rfl' _ _⟩
  | succ j ih =>
    intro k m h ek hm E R C
    obtain ⟨m, rfl⟩ : ∃ z, m = z + 1 := ⟨m - 1, by omega⟩
    have o1 : k + 1 + j = S := by omega
    have o2 : j < m := by omega
    have o3 : k < S := by omega
    have o4 : k < 2147483647 := by omega
    have o5 : ¬ iN S ≤ iN k := by rw [iN_le (by omega) (by omega)]; omega
    have o6 : k < 12 := by omega
    have o7 := iN_inb o6 (show 12 < 2147483648 by decide)
    have o8 := iN_ix (k := k) (by omega)
    obtain ⟨h1, a1, R1, C1, f1⟩ := c_next E hS hS2 o3 R C
    have g1 := c_good R1
    have hr : stf σ T M Ln w wm sure (k + 1) = if good (gr0 σ T M Ln w wm (-1) (k + 1)) * 100 < Int32.toInt64 sure * 1000000000 then stf σ T M Ln w wm sure k else k + 1 := rfl
    obtain ⟨h2, a2, f2⟩ := ih (k + 1) m h1 o1 o2 (EN_fr f1 E) R1 C1
    refine ⟨h2, ?_, f1.tr f2⟩
    rw [g_X7_stop_28, E.2.1.1, hσ, if_neg o5, if_neg (i12 o6), if_pos o7, o8, a1, Option.bind_some, g1, Option.bind_some, iN_add o4, ← a2, hr]
    by_cases z : good (gr0 σ T M Ln w wm (-1) (k + 1)) * 100 < Int32.toInt64 sure * 1000000000
    · rw [if_pos z, if_pos z, g_X7_stop_80, iN_add o4]
    · rw [if_neg z, if_neg z, g_X7_stop_80, iN_add o4]
theorem l_rstop {σ : SS} {T : Nat → List Int32} {M Ln : Nat → Int32} {w wm : Int32} {t S : Nat} (hS : S ≤ 12) (hS2 : ∀ k, k < S → iN k < σ.1) (sure : Int32) (k : Nat) : ∀ (m : Nat) (h : Hp), k ≤ S → k < m → EN σ T M Ln w wm t h → ∃ h', g_X8_stop_18 4000 m sure (iN k) h = some (iN (stf σ T M Ln w wm sure k), h') ∧ Fr SX h h' := by
  induction k with
  | zero =>
    intro m h ek hm E
    obtain ⟨m, rfl⟩ : ∃ z, m = z + 1 := ⟨m - 1, by omega⟩
    exact ⟨h, by rw [g_X8_stop_18, if_pos (by decide)]; rfl, Fr.rfl' _ _⟩
  | succ k ih =>
    intro m h ek hm E
    obtain ⟨m, rfl⟩ : ∃ z, m = z + 1 := ⟨m - 1, by omega⟩
    have o1 : k ≤ S := by omega
    have o2 : k < m := by omega
    have o3 : ¬ iN (k + 1) ≤ 0 := by show ¬ iN (k + 1) ≤ iN 0; rw [iN_le (by omega) (by omega)]; omega
    have o4 : iN (k + 1) + (-1) = iN k := by
      have := iN_sub (k := k + 1) (by omega) (by omega)
      rw [Nat.add_sub_cancel] at this
      rw [← this]; lia
    obtain ⟨h1, a1, f1⟩ := r_both E (N := k + 1) (by omega) (fun i hi => hS2 i (by omega))
    have hr : stf σ T M Ln w wm sure (k + 1) = if good (gr0 σ T M Ln w wm (-1) (k + 1)) * 100 < Int32.toInt64 sure * 1000000000 then stf σ T M Ln w wm sure k else k + 1 := rfl
    rw [g_X8_stop_18, if_neg o3, a1, Option.bind_some, hr]
    by_cases z : good (gr0 σ T M Ln w wm (-1) (k + 1)) * 100 < Int32.toInt64 sure * 1000000000
    · rw [if_pos z, if_pos z, o4]
      obtain ⟨h2, a2, f2⟩ := ih m h1 o1 o2 (EN_fr f1 E)
      exact ⟨h2, a2, f1.tr f2⟩
    · rw [if_neg z, if_neg z]
      exact ⟨h1, rfl, f1⟩
theorem cn_stop (n : Nat) {c v : Int32} {h h1 h2 : Hp} (hc : 0 ≤ c ∧ c ≤ 100) (e1 : g_X7_make n 17 0 (-1) (-1) h = some h1) (e2 : g_X7_stop_28 n n c 0 0 h1 = some (v, h2)) : g_X7_stop n c h = some (v, h2) := by
  simp only [g_X7_stop_80, g_X7_stop_0, g_X7_stop, wC, if_pos hc, Option.bind_some, ne10, eq10, ne_eq, not_false_eq_true, if_true, if_false, e1]
  exact e2
theorem rn_stop (n : Nat) {c v : Int32} {h h2 : Hp} (hc : 0 ≤ c ∧ c ≤ 100) (e2 : g_X8_stop_18 n n c (gI h 96 5) h = some (v, h2)) : g_X8_stop n c h = some (v, h2) := by
  simp only [g_X8_stop_0, g_X8_stop, wI, if_pos hc, Option.bind_some, ne10, eq10, ne_eq, not_false_eq_true, if_true, if_false]
  exact e2
theorem pr_stop {L : Nat} {h : Hp} (R : Rel L h) (c : Int32) : Pair L (g_X7_stop 4000 c) (g_X8_stop 4000 c) h := by
  obtain ⟨σ, T, M, Ln, w, wm, t, E⟩ := EN_of R
  by_cases hc : 0 ≤ c ∧ c ≤ 100
  case neg => exact Pair.pure (-2) R (by simp [g_X7_stop_80, g_X7_stop_0, g_X7_stop, wC, if_neg hc]) (by simp [g_X8_stop_0, g_X8_stop, wI, if_neg hc])
  obtain ⟨S, hS, hσ, hS2⟩ := nOf E.1 (v := σ.1) ⟨E.1.1, by lia⟩
  obtain ⟨h1, e1, c1, C1, f1⟩ := mkC E (-1) (N := 0) (by omega) (fun k hk => absurd hk (by omega))
  obtain ⟨h2, e2, f2⟩ := l_cstop hS hσ hS2 c S 0 4000 h1 (by omega) (by omega) (EN_fr f1 E) c1 C1
  have E2 := EN_fr (f1.tr f2) E
  obtain ⟨h4, e4, f4⟩ := l_rstop hS hS2 c S 4000 h2 (Nat.le_refl _) (by omega) E2
  exact ⟨_, h2, h4, cn_stop 4000 hc e1 e2, rn_stop 4000 hc (by rw [E2.2.2.1.1, hσ]; exact e4), Rel_fr ((f1.tr f2).tr f4) R⟩
noncomputable def wsf (σ : SS) (T : Nat → List Int32) (M Ln : Nat → Int32) (w wm : Int32) : Nat → Int32 × Int64
  | 0 => (-1, 0)
  | k + 1 => if good (gr0 σ T M Ln w wm (-1) k) - good (gr0 σ T M Ln w wm (-1) (k + 1)) ≤ (wsf σ T M Ln w wm k).2 then wsf σ T M Ln w wm k else (iN k, good (gr0 σ T M Ln w wm (-1) k) - good (gr0 σ T M Ln w wm (-1) (k + 1)))
theorem l_cworst {σ : SS} {T : Nat → List Int32} {M Ln : Nat → Int32} {w wm : Int32} {t S : Nat} (hS : S ≤ 12) (hσ : σ.1 = iN S) (hS2 : ∀ k, k < S → iN k < σ.1) (j : Nat) : ∀ (k m : Nat) (h : Hp), k + j = S → j < m → EN σ T M Ln w wm t h → CR 82 (gr0 σ T M Ln w wm (-1) k) h → CE (e0 T w wm) h → ∃ h', g_X7_worst_18 4000 m (wsf σ T M Ln w wm k).1 (wsf σ T M Ln w wm k).2 (iN k) h = some ((wsf σ T M Ln w wm S).1, h') ∧ Fr SX h h' := by
  induction j with
  | zero =>
    intro k m h ek hm E R C
    obtain ⟨m, rfl⟩ : ∃ z, m = z + 1 := ⟨m - 1, by omega⟩
    obtain rfl : k = S := by omega
    exact ⟨h, by rw [g_X7_worst_18, E.2.1.1, hσ, if_pos (by lia)], Fr.rfl' _ _⟩
  | succ j ih =>
    intro k m h ek hm E R C
    obtain ⟨m, rfl⟩ : ∃ z, m = z + 1 := ⟨m - 1, by omega⟩
    have o1 : k + 1 + j = S := by omega
    have o2 : j < m := by omega
    have o3 : k < S := by omega
    have o4 : k < 2147483647 := by omega
    have o5 : ¬ iN S ≤ iN k := by rw [iN_le (by omega) (by omega)]; omega
    have o6 : k < 12 := by omega
    have o7 := iN_inb o6 (show 12 < 2147483648 by decide)
    have o8 := iN_ix (k := k) (by omega)
    obtain ⟨h1, a1, R1, C1, f1⟩ := c_next E hS hS2 o3 R C
    have g0 := c_good R
    have g1 := c_good R1
    have hr : wsf σ T M Ln w wm (k + 1) = if good (gr0 σ T M Ln w wm (-1) k) - good (gr0 σ T M Ln w wm (-1) (k + 1)) ≤ (wsf σ T M Ln w wm k).2 then wsf σ T M Ln w wm k else (iN k, good (gr0 σ T M Ln w wm (-1) k) - good (gr0 σ T M Ln w wm (-1) (k + 1))) := rfl
    obtain ⟨h2, a2, f2⟩ := ih (k + 1) m h1 o1 o2 (EN_fr f1 E) R1 C1
    refine ⟨h2, ?_, f1.tr f2⟩
    rw [g_X7_worst_18, E.2.1.1, hσ, if_neg o5, if_neg (i12 o6), g0, Option.bind_some, if_pos o7, o8, a1, Option.bind_some, g1, Option.bind_some, ← a2, hr]
    by_cases z : good (gr0 σ T M Ln w wm (-1) k) - good (gr0 σ T M Ln w wm (-1) (k + 1)) ≤ (wsf σ T M Ln w wm k).2
    · rw [if_pos z, if_pos z, g_X7_worst_82, iN_add o4]
    · rw [if_neg z, if_neg z, g_X7_worst_82, iN_add o4]
theorem l_rworst {σ : SS} {T : Nat → List Int32} {M Ln : Nat → Int32} {w wm : Int32} {t S : Nat} (hS : S ≤ 12) (hσ : σ.1 = iN S) (hS2 : ∀ k, k < S → iN k < σ.1) (j : Nat) : ∀ (k m : Nat) (h : Hp), k + j = S → j < m → EN σ T M Ln w wm t h → ∃ h', g_X8_worst_7 4000 m (wsf σ T M Ln w wm k).1 (wsf σ T M Ln w wm k).2 (iN k) h = some ((wsf σ T M Ln w wm S).1, h') ∧ Fr SX h h' := by
  induction j with
  | zero =>
    intro k m h ek hm E
    obtain ⟨m, rfl⟩ : ∃ z, m = z + 1 := ⟨m - 1, by omega⟩
    obtain rfl : k = S := by omega
    exact ⟨h, by rw [g_X8_worst_7, E.2.2.1.1, hσ, if_pos (by lia)], Fr.rfl' _ _⟩
  | succ j ih =>
    intro k m h ek hm E
    obtain ⟨m, rfl⟩ : ∃ z, m = z + 1 := ⟨m - 1, by omega⟩
    have o1 : k + 1 + j = S := by omega
    have o2 : j < m := by omega
    have o4 : k < 2147483647 := by omega
    have o5 : ¬ iN S ≤ iN k := by rw [iN_le (by omega) (by omega)]; omega
    obtain ⟨h1, a1, f1⟩ := r_both E (N := k) (by omega) (fun i hi => hS2 i (by omega))
    obtain ⟨h1', a1', f1'⟩ := r_both (EN_fr f1 E) (N := k + 1) (by omega) (fun i hi => hS2 i (by omega))
    have hr : wsf σ T M Ln w wm (k + 1) = if good (gr0 σ T M Ln w wm (-1) k) - good (gr0 σ T M Ln w wm (-1) (k + 1)) ≤ (wsf σ T M Ln w wm k).2 then wsf σ T M Ln w wm k else (iN k, good (gr0 σ T M Ln w wm (-1) k) - good (gr0 σ T M Ln w wm (-1) (k + 1))) := rfl
    obtain ⟨h2, a2, f2⟩ := ih (k + 1) m h1' o1 o2 (EN_fr (f1.tr f1') E)
    refine ⟨h2, ?_, (f1.tr f1').tr f2⟩
    rw [g_X8_worst_7, E.2.2.1.1, hσ, if_neg o5, a1, Option.bind_some, iN_add o4, a1', Option.bind_some, ← a2, hr]
    by_cases z : good (gr0 σ T M Ln w wm (-1) k) - good (gr0 σ T M Ln w wm (-1) (k + 1)) ≤ (wsf σ T M Ln w wm k).2
    · rw [if_pos z, if_pos z, g_X8_worst_46, if_pos z, g_X8_worst_60, iN_add o4]
    · rw [if_neg z, if_neg z, g_X8_worst_46, if_neg z, g_X8_worst_60, iN_add o4]
theorem cn_worst (n : Nat) {v : Int32} {h h1 h2 : Hp} (e1 : g_X7_make n 17 0 (-1) (-1) h = some h1) (e2 : g_X7_worst_18 n n (-1) 0 0 h1 = some (v, h2)) : g_X7_worst n h = some (v, h2) := by
  simp only [g_X7_worst_82, g_X7_worst_0, g_X7_worst, Option.bind_some, ne10, eq10, e1]
  exact e2
theorem rn_worst (n : Nat) {v : Int32} {h h2 : Hp} (e2 : g_X8_worst_7 n n (-1) 0 0 h = some (v, h2)) : g_X8_worst n h = some (v, h2) := by
  simp only [g_X8_worst_60, g_X8_worst_46, g_X8_worst_0, g_X8_worst]
  exact e2
theorem pr_worst {L : Nat} {h : Hp} (R : Rel L h) : Pair L (g_X7_worst 4000) (g_X8_worst 4000) h := by
  obtain ⟨σ, T, M, Ln, w, wm, t, E⟩ := EN_of R
  obtain ⟨S, hS, hσ, hS2⟩ := nOf E.1 (v := σ.1) ⟨E.1.1, by lia⟩
  obtain ⟨h1, e1, c1, C1, f1⟩ := mkC E (-1) (N := 0) (by omega) (fun k hk => absurd hk (by omega))
  obtain ⟨h2, e2, f2⟩ := l_cworst hS hσ hS2 S 0 4000 h1 (by omega) (by omega) (EN_fr f1 E) c1 C1
  have E2 := EN_fr (f1.tr f2) E
  obtain ⟨h4, e4, f4⟩ := l_rworst hS hσ hS2 S 0 4000 h2 (by omega) (by omega) E2
  exact ⟨_, h2, h4, cn_worst 4000 e1 e2, rn_worst 4000 e4, Rel_fr ((f1.tr f2).tr f4) R⟩
/-! state -/
noncomputable def tkS (σ : SS) (k : Nat) : Int32 := if σ.2.1 k = 1 then 10 - σ.2.2.2 k else if σ.2.1 k = 2 then 12 - σ.2.2.2 k else if σ.2.1 k = 3 then 3 else if σ.2.1 k = 4 then σ.2.2.1 k + 1 else if σ.2.1 k = 5 then σ.2.2.1 k + 3 else 10 * σ.2.2.1 k
noncomputable def tks (σ : SS) : Nat → Int32
  | 0 => 0
  | k + 1 => tks σ k + tkS σ k
theorem l_callT {σ : SS} {h : Hp} (D : CS σ h) {N : Nat} (hN : N ≤ 12) (hN2 : ∀ k, k < N → iN k < σ.1) (n j : Nat) : ∀ (k m : Nat), k + j = N → j < m → g_X7_allTake_4 n m (iN N) (tks σ k) (iN k) h = some (tks σ N, h) := by
  induction j with
  | zero =>
    intro k m ek hm
    obtain ⟨m, rfl⟩ : ∃ z, m = z + 1 := ⟨m - 1, by omega⟩
    obtain rfl : k = N := by omega
    rw [g_X7_allTake_4, if_pos (by lia)]
  | succ j ih =>
    intro k m ek hm
    obtain ⟨m, rfl⟩ : ∃ z, m = z + 1 := ⟨m - 1, by omega⟩
    obtain ⟨d1, d2, d3⟩ := D.2 k (by omega) (hN2 k (by omega))
    rw [g_X7_allTake_4, if_neg (by rw [iN_le (by omega) (by omega)]; omega), if_neg (i12 (by omega)), if_pos (iN_inb (by omega) (by decide)), iN_ix (by omega), c_takes, Option.bind_some, d1, d2, d3, iN_add (by omega)]
    exact ih (k + 1) m (by omega) (by omega)
noncomputable def fcnt (σ : SS) : Nat → Nat
  | 0 => 0
  | k + 1 => if σ.2.1 k = 1 then fcnt σ k else if σ.2.1 k = 2 then fcnt σ k else if σ.2.1 k = 3 then fcnt σ k + 1 else if σ.2.1 k = 4 then fcnt σ k else if σ.2.1 k = 5 then fcnt σ k + 1 else fcnt σ k
theorem fcnt_le (σ : SS) (k : Nat) : fcnt σ k ≤ k := by
  induction k with
  | zero => exact Nat.le_refl _
  | succ k ih =>
    unfold fcnt
    split
    · omega
    split
    · omega
    split
    · omega
    split
    · omega
    split <;> omega
theorem rF_go {σ : SS} {T : Nat → List Int32} {M Ln : Nat → Int32} {w wm : Int32} : ∀ k, k < 1000 → rF (gr0 σ T M Ln w wm (-1) k) = iN (fcnt σ k) := by
  intro k
  induction k with
  | zero => intro _; rfl
  | succ k ih =>
    intro hk
    have i := ih (by omega)
    have l := fcnt_le σ k
    rw [gr0_s (by omega)]
    unfold sMake fcnt
    repeat' split
    · exact i
    · exact i
    · show rF (gr0 σ T M Ln w wm (-1) k) + 1 = _; rw [i, iN_add (by omega)]
    · exact i
    · show rF (gr0 σ T M Ln w wm (-1) k) + 1 = _; rw [i, iN_add (by omega)]
    · exact i
noncomputable def dbn (x : Int64) : Nat → Int64
  | 0 => x
  | k + 1 => dbn x k * 2
theorem dbn_s (x : Int64) (k : Nat) : dbn (x * 2) k = dbn x (k + 1) := by
  induction k with
  | zero => rfl
  | succ k ih => show dbn (x * 2) k * 2 = dbn x (k + 1) * 2; rw [ih]
theorem l_rdoubled {h : Hp} {F : Nat} (hF : F < 1000) (hh : gI h 96 40 = iN F) (n j : Nat) : ∀ (k m : Nat) (x : Int64), k + j = F → j < m → g_X8_doubled_8 n m x (iN k) h = some (dbn x j, h) := by
  induction j with
  | zero =>
    intro k m x ek hm
    obtain ⟨m, rfl⟩ : ∃ z, m = z + 1 := ⟨m - 1, by omega⟩
    obtain rfl : k = F := by omega
    rw [g_X8_doubled_8, hh, if_pos (by lia)]; rfl
  | succ j ih =>
    intro k m x ek hm
    obtain ⟨m, rfl⟩ : ∃ z, m = z + 1 := ⟨m - 1, by omega⟩
    rw [g_X8_doubled_8, hh, if_neg (by rw [iN_le (by omega) (by omega)]; omega), iN_add (by omega), ← dbn_s]
    exact ih (k + 1) m _ (by omega) (by omega)
theorem dbn_t {x : Int64} (h0 : 0 ≤ x.toInt) (h1 : x.toInt ≤ 12000000) : ∀ k, k ≤ 12 → (dbn x k).toInt = x.toInt * 2 ^ k := by
  intro k
  induction k with
  | zero => intro _; show x.toInt = _; simp
  | succ k ih =>
    intro hk
    have i := ih (by omega)
    have p0 : (0 : Int) < 2 ^ k := Int.pow_pos (by decide)
    have p1 : (2 : Int) ^ k ≤ 2 ^ 12 := by
      have : ∀ k, k ≤ 12 → (2 : Int) ^ k ≤ 2 ^ 12 := by decide
      exact this k (by omega)
    have p2 : (2 : Int) ^ 12 = 4096 := by decide
    have m0 : 0 ≤ x.toInt * 2 ^ k := Int.mul_nonneg h0 (by omega)
    have m1 : x.toInt * 2 ^ k ≤ 12000000 * 4096 := Int.mul_le_mul h1 (by omega) (by omega) (by omega)
    show (dbn x k * 2).toInt = _
    rw [tdm] <;> rw [i, show (2 : Int64).toInt = 2 from rfl]
    · rw [Int.pow_succ, Int.mul_assoc]
    · omega
    · omega
theorem shl_t {x : Int64} (h0 : 0 ≤ x.toInt) (h1 : x.toInt ≤ 12000000) {k : Nat} (hk : k ≤ 12) : x <<< (Int32.toInt64 (iN k) &&& 63) = dbn x k := by
  have hd := dbn_t h0 h1 k hk
  have p0 : (0 : Int) < 2 ^ k := Int.pow_pos (by decide)
  have p1 : (2 : Int) ^ k ≤ 2 ^ 12 := by
    have : ∀ k, k ≤ 12 → (2 : Int) ^ k ≤ 2 ^ 12 := by decide
    exact this k hk
  have p2 : (2 : Int) ^ 12 = 4096 := by decide
  have m1 : x.toInt * 2 ^ k ≤ 12000000 * 4096 := Int.mul_le_mul h1 (by omega) (by omega) (by omega)
  have m0 : 0 ≤ x.toInt * 2 ^ k := Int.mul_nonneg h0 (by omega)
  rw [e64, hd]
  have hs : ((Int32.toInt64 (iN k) &&& 63).toBitVec.smod 64#64).toNat = k := by
    have : ∀ k, k ≤ 12 → ((Int32.toInt64 (iN k) &&& 63).toBitVec.smod 64#64).toNat = k := by decide
    exact this k hk
  have e1 : (x <<< (Int32.toInt64 (iN k) &&& 63)).toBitVec = x.toBitVec <<< k := by
    show x.toBitVec <<< ((Int32.toInt64 (iN k) &&& 63).toBitVec.smod 64#64).toNat = x.toBitVec <<< k
    rw [hs]
  have hx : x.toBitVec.toNat = x.toInt.toNat := by
    have hlt : 2 * x.toBitVec.toNat < 2 ^ 64 := by
      have a : x.toInt = x.toBitVec.toInt := rfl
      rw [BitVec.toInt_eq_toNat_cond] at a
      split at a
      · assumption
      · have := x.toBitVec.isLt
        omega
    have a : x.toInt = x.toBitVec.toInt := rfl
    rw [BitVec.toInt_eq_toNat_of_lt hlt] at a
    omega
  show (x <<< (Int32.toInt64 (iN k) &&& 63)).toBitVec.toInt = _
  rw [e1, BitVec.toInt_shiftLeft, hx, Nat.shiftLeft_eq]
  have : ((x.toInt.toNat * 2 ^ k : Nat) : Int) = x.toInt * 2 ^ k := by
    rw [Int.natCast_mul, Int.toNat_of_nonneg h0]; simp
  rw [this]
  exact Int.bmod_eq_of_le (by omega) (by omega)
/-- what state tells -/
noncomputable def sta (σ : SS) (T : Nat → List Int32) (M Ln : Nat → Int32) (w wm : Int32) (N : Nat) (c : Int32) (r : RP) : Int64 :=
  if c = 0 then Int32.toInt64 (iN (lst r 11)) else if c = 1 then Int32.toInt64 (iN (gst r 11)) else if c = 2 then Int32.toInt64 (spr r) else if c = 3 then Int32.toInt64 (rF r) else if c = 4 then dbn (Int32.toInt64 (allL r)) (fcnt σ N) else if c = 5 then Int32.toInt64 (rD r) else if c = 6 then Int32.toInt64 (rC r) else Int32.toInt64 (tks σ N)
theorem cn_state (n : Nat) {σ : SS} {T : Nat → List Int32} {M Ln : Nat → Int32} {w wm : Int32} {N : Nat} {r : RP} {a c : Int32} {h h1 : Hp} (ha : g_X7_areSteps a h = some (1, h)) (hc : 0 ≤ c ∧ c ≤ 7) (e1 : g_X7_make n 17 a (-1) (-1) h = some h1) (q0 : g_X3_thinnest n 82 h1 = some (iN (lst r 11), h1)) (q1 : g_X3_thickest n 82 h1 = some (iN (gst r 11), h1)) (q2 : g_X3_spread n 82 h1 = some (spr r, h1)) (q3 : gI h1 82 7 = rF r) (q4 : g_X3_allLength n 82 h1 = some (Int32.toInt64 (allL r), h1)) (q4' : Int32.toInt64 (allL r) <<< (Int32.toInt64 (rF r) &&& 63) = dbn (Int32.toInt64 (allL r)) (fcnt σ N)) (q5 : gI h1 82 8 = rD r) (q6 : gI h1 82 9 = rC r) (q7 : g_X7_allTake n a h1 = some (tks σ N, h1)) : g_X7_state n a c h = some (sta σ T M Ln w wm N c r, h1) := by
  simp only [g_X7_state_0, g_X7_state, ha, wC, if_pos hc, Option.bind_some, ne10, eq10, ne_eq, not_false_eq_true, if_true, if_false, e1, q0, q1, q2, q3, q4, q4', q5, q6, q7]
  unfold sta
  repeat' split
  all_goals rfl
theorem l_rsta (n : Nat) {σ : SS} {T : Nat → List Int32} {M Ln : Nat → Int32} {w wm : Int32} {N : Nat} (hN : N ≤ 12) (hN2 : ∀ k, k < N → iN k < σ.1) {r : RP} {c : Int32} {h1 : Hp} (D : RS σ h1) (q0 : g_X8_least n h1 = some (iN (lst r 11), h1)) (q1 : g_X8_greatest n h1 = some (iN (gst r 11), h1)) (q2 : g_X8_spread n h1 = some (spr r, h1)) (q3 : gI h1 96 40 = rF r) (q4 : g_X8_doubled n h1 = some (dbn (Int32.toInt64 (allL r)) (fcnt σ N), h1)) (q5 : gI h1 96 41 = rD r) (q6 : gI h1 96 42 = rC r) (j : Nat) : ∀ (k m : Nat), k + j = N → j < m → g_X8_state_36 n m (iN N) c (tks σ k) (iN k) h1 = some (sta σ T M Ln w wm N c r, h1) := by
  induction j with
  | zero =>
    intro k m ek hm
    obtain ⟨m, rfl⟩ : ∃ z, m = z + 1 := ⟨m - 1, by omega⟩
    obtain rfl : k = N := by omega
    rw [g_X8_state_36, if_pos (by lia), q0, q1, q2, q3, q4, q5, q6]
    unfold sta
    simp only [Option.bind_some]
    repeat' split
    all_goals rfl
  | succ j ih =>
    intro k m ek hm
    obtain ⟨m, rfl⟩ : ∃ z, m = z + 1 := ⟨m - 1, by omega⟩
    obtain ⟨d1, d2, d3⟩ := D.2 k (by omega) (hN2 k (by omega))
    rw [g_X8_state_36, if_neg (by rw [iN_le (by omega) (by omega)]; omega), r_takes (show k < 12 by omega), Option.bind_some, d1, d2, d3, iN_add (by omega)]
    exact ih (k + 1) m (by omega) (by omega)
theorem rn_state (n : Nat) {a c : Int32} {v : Int64} {h h1 h2 : Hp} (ha : g_X8_areSteps a h = some (1, h)) (hc : 0 ≤ c ∧ c ≤ 7) (e1 : g_X8_goes n a h = some h1) (e2 : g_X8_state_36 n n a c 0 0 h1 = some (v, h2)) : g_X8_state n a c h = some (v, h2) := by
  simp only [g_X8_state_0, g_X8_state, ha, wI, if_pos hc, Option.bind_some, ne10, eq10, ne_eq, not_false_eq_true, if_true, if_false, e1]
  exact e2
theorem pr_state {L : Nat} {h : Hp} (R : Rel L h) (a c : Int32) : Pair L (g_X7_state 4000 a c) (g_X8_state 4000 a c) h := by
  obtain ⟨σ, T, M, Ln, w, wm, t, E⟩ := EN_of R
  by_cases hn : 0 ≤ a ∧ a ≤ σ.1
  case neg => exact Pair.pure (-5) R (by simp [g_X7_state_0, g_X7_state, cAre E, if_neg hn]) (by simp [g_X8_state_0, g_X8_state, rAre E, if_neg hn])
  by_cases hc : 0 ≤ c ∧ c ≤ 7
  case neg => exact Pair.pure (-7) R (by simp [g_X7_state_0, g_X7_state, cAre E, if_pos hn, wC, if_neg hc]) (by simp [g_X8_state_0, g_X8_state, rAre E, if_pos hn, wI, if_neg hc])
  obtain ⟨N, hN, rfl, hN2⟩ := nOf E.1 hn
  have H : okP (gr0 σ T M Ln w wm (-1) N) := EN_ok E 0 0 (-1) hN hN2
  obtain ⟨h1, e1, c1, C1, f1⟩ := mkC E (-1) hN hN2
  have E2 := EN_fr f1 E
  obtain ⟨h3, e3, c3, C3, f3⟩ := mkG E2 hN hN2
  have E3 := EN_fr f3 E2
  have s1 : g_X7_areSteps (iN N) h = some (1, h) := by rw [cAre E, if_pos hn]
  have s2 : g_X8_areSteps (iN N) h1 = some (1, h1) := by rw [rAre E2, if_pos hn]
  have fl := fcnt_le σ N
  have al := allL_t H
  have hF := rF_go (σ := σ) (T := T) (M := M) (Ln := Ln) (w := w) (wm := wm) N (by omega)
  have q4' : Int32.toInt64 (allL (gr0 σ T M Ln w wm (-1) N)) <<< (Int32.toInt64 (rF (gr0 σ T M Ln w wm (-1) N)) &&& 63) = dbn (Int32.toInt64 (allL (gr0 σ T M Ln w wm (-1) N))) (fcnt σ N) := by
    rw [hF]; exact shl_t (by rw [tw]; omega) (by rw [tw]; omega) (by omega)
  have q4r : g_X8_doubled 4000 h3 = some (dbn (Int32.toInt64 (allL (gr0 σ T M Ln w wm (-1) N))) (fcnt σ N), h3) := by
    unfold g_X8_doubled g_X8_doubled_0
    rw [r_all c3, Option.bind_some]
    exact l_rdoubled (F := fcnt σ N) (by omega) (by rw [c3.2.1, hF]) 4000 (fcnt σ N) 0 4000 _ (by omega) (by omega)
  have q7 : g_X7_allTake 4000 (iN N) h1 = some (tks σ N, h1) := l_callT E2.2.1 hN hN2 4000 N 0 4000 (by omega) (by omega)
  have z1 := cn_state 4000 (T := T) (M := M) (Ln := Ln) (w := w) (wm := wm) s1 hc e1 (c_least c1 H) (c_great c1 H) (c_spread c1 H) c1.2.1 (c_all c1 H) q4' c1.2.2.1 c1.2.2.2.1 q7
  have z2 := l_rsta 4000 (T := T) (M := M) (Ln := Ln) (w := w) (wm := wm) (c := c) hN hN2 E3.2.2.1 (r_least c3 H) (r_great c3 H) (r_spread c3 H) c3.2.1 q4r c3.2.2.1 c3.2.2.2.1 N 0 4000 (by omega) (by omega)
  exact ⟨_, h1, h3, z1, rn_state 4000 s2 hc e3 z2, Rel_fr (f1.tr f3) R⟩
