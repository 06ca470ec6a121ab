/-! CALLS that don't ask of the rope -/
theorem iex {v : Int32} {n : Nat} (hn : n < 2147483648) (h1 : 0 ≤ v) (h2 : v < iN n) : ∃ k, k < n ∧ v = iN k := by
  rw [le32] at h1
  rw [l32, iN_t hn] at h2
  exact iN_ex h1 h2
theorem ne10 : ((1 : Int32) ≠ 0) = True := by decide
theorem eq10 : ((1 : Int32) = 0) = False := by decide
theorem iN0 {k n : Nat} (h : k < n) (hn : n < 2147483648) : 0 ≤ iN k ∧ iN k < iN n := by
  rw [le32, l32, iN_t (by omega), iN_t (by omega)]
  constructor
  · show (0 : Int) ≤ k; omega
  · omega
theorem pr_roll {L : Nat} {h : Hp} (R : Rel L h) (a b c : Int32) : Pair L (g_X7_roll a b c) (g_X8_roll a b c) h := by
  by_cases ha : 0 ≤ a ∧ a ≤ 11
  case neg => exact Pair.pure (-5) R (by simp [g_X7_roll_66, g_X7_roll_36, g_X7_roll_0, g_X7_roll, wC, if_neg ha, Option.bind_some, ne10, eq10]) (by simp [g_X8_roll_103, g_X8_roll_83, g_X8_roll_82, g_X8_roll_61, g_X8_roll_33, g_X8_roll_0, g_X8_roll, g_X8_isCell_0, g_X8_isCell, wI, if_neg ha, Option.bind_some, ne10, eq10])
  by_cases hb : 0 ≤ b ∧ b ≤ 1
  case neg => exact Pair.pure (-7) R (by simp [g_X7_roll_66, g_X7_roll_36, g_X7_roll_0, g_X7_roll, wC, if_neg hb, if_pos ha, Option.bind_some, ne10, eq10]) (by simp [g_X8_roll_103, g_X8_roll_83, g_X8_roll_82, g_X8_roll_61, g_X8_roll_33, g_X8_roll_0, g_X8_roll, g_X8_isCell_0, g_X8_isCell, wI, if_neg hb, if_pos ha, Option.bind_some, ne10, eq10])
  obtain ⟨j, hj, rfl⟩ := iex (n := 12) (by decide) ha.1 (by have := ha.2; show a < 12; lia)
  have hin := iN_inb hj (by decide)
  have hix := iN_ix (k := j) (by omega)
  have hD := R.1 j hj
  have hb2 : b = 0 ∨ b = 1 := by lia
  rcases hb2 with rfl | rfl
  · by_cases hc : 1 ≤ c ∧ c ≤ 99999
    case neg => exact Pair.pure (-7) R (by simp [g_X7_roll_66, g_X7_roll_36, g_X7_roll_0, g_X7_roll, wC, if_neg hc, if_pos hb, if_pos ha, Option.bind_some, ne10, eq10]) (by simp [g_X8_roll_103, g_X8_roll_83, g_X8_roll_82, g_X8_roll_61, g_X8_roll_33, g_X8_roll_0, g_X8_roll, g_X8_isCell_0, g_X8_isCell, wI, if_neg hc, if_pos hb, if_pos ha, Option.bind_some, ne10, eq10])
    refine ⟨gI h 18 j, hsi h 18 j c, hsi (hsi (hsi h 18 j c) 97 j c) 98 j (gI h 98 j), by simp [g_X7_roll_66, g_X7_roll_36, g_X7_roll_0, g_X7_roll, wC, if_pos hc, if_pos hb, if_pos ha, hin, hix, Option.bind_some, ne10, eq10], ?_, ?_⟩
    · simp [g_X8_roll_103, g_X8_roll_83, g_X8_roll_82, g_X8_roll_61, g_X8_roll_33, g_X8_roll_0, g_X8_roll, g_X8_isCell_0, g_X8_isCell, wI, if_pos hc, if_pos hb, if_pos ha, hin, hix, Option.bind_some, ne10, eq10, gI_hsi, gI_hsl, gI_hsr]
      exact hD.1.symm
    · refine Rel_Do R rfl (fun a k q _ => by simp only [gI_hsi, gI_hsl, gI_hsr]; repeat rw [if_neg (by omega)]) (fun k hk => ?_)
      simp only [gI_hsi, gI_hsl, gI_hsr]
      have := R.1 k hk
      by_cases e : k = j
      · subst e; simp [hc, this]
      · simp [e, this]
  · by_cases hc : 1 ≤ c ∧ c ≤ 999
    case neg => exact Pair.pure (-7) R (by simp [g_X7_roll_66, g_X7_roll_36, g_X7_roll_0, g_X7_roll, wC, if_neg hc, if_pos hb, if_pos ha, Option.bind_some, ne10, eq10]) (by simp [g_X8_roll_103, g_X8_roll_83, g_X8_roll_82, g_X8_roll_61, g_X8_roll_33, g_X8_roll_0, g_X8_roll, g_X8_isCell_0, g_X8_isCell, wI, if_neg hc, if_pos hb, if_pos ha, Option.bind_some, ne10, eq10])
    refine ⟨gI h 19 j, hsi h 19 j c, hsi (hsi (hsi h 19 j c) 97 j (gI h 97 j)) 98 j c, by simp [g_X7_roll_66, g_X7_roll_36, g_X7_roll_0, g_X7_roll, wC, if_pos hc, if_pos hb, if_pos ha, hin, hix, Option.bind_some, ne10, eq10], ?_, ?_⟩
    · simp [g_X8_roll_103, g_X8_roll_83, g_X8_roll_82, g_X8_roll_61, g_X8_roll_33, g_X8_roll_0, g_X8_roll, g_X8_isCell_0, g_X8_isCell, wI, if_pos hc, if_pos hb, if_pos ha, hin, hix, Option.bind_some, ne10, eq10, gI_hsi, gI_hsl, gI_hsr]
      exact hD.2.2.2.1.symm
    · refine Rel_Do R rfl (fun a k q _ => by simp only [gI_hsi, gI_hsl, gI_hsr]; repeat rw [if_neg (by omega)]) (fun k hk => ?_)
      simp only [gI_hsi, gI_hsl, gI_hsr]
      have := R.1 k hk
      by_cases e : k = j
      · subst e; simp [hc, this]
      · simp [e, this]
theorem pr_set {L : Nat} {h : Hp} (R : Rel L h) (a b : Int32) : Pair L (g_X7_set a b) (g_X8_set a b) h := by
  by_cases ha : 0 ≤ a ∧ a ≤ 2
  case neg => exact Pair.pure (-1) R (by simp [g_X7_set_0, g_X7_set, wC, if_neg ha, Option.bind_some, ne10, eq10]) (by simp [g_X8_set_0, g_X8_set, wI, if_neg ha, Option.bind_some, ne10, eq10])
  by_cases hb : 0 ≤ b ∧ b ≤ 9
  case neg => exact Pair.pure (-2) R (by simp [g_X7_set_0, g_X7_set, wC, if_neg hb, if_pos ha, Option.bind_some, ne10, eq10]) (by simp [g_X8_set_0, g_X8_set, wI, if_neg hb, if_pos ha, Option.bind_some, ne10, eq10])
  have hT := R.2.1
  have ha2 : a = 0 ∨ a = 1 ∨ a = 2 := by lia
  rcases ha2 with rfl | rfl | rfl
  · refine ⟨gI h 20 0, hsi h 20 0 b, hsi (hsi (hsi (hsi h 20 0 b) 96 2 b) 96 3 (gI h 96 3)) 96 4 (gI h 96 4), ?_, ?_, ?_⟩
    · simp [g_X7_set_0, g_X7_set, wC, if_pos hb, if_pos ha, Option.bind_some, ne10, eq10, show inb 0 3 = true from rfl, show ix 0 = 0 from rfl]
    · simp [g_X8_set_0, g_X8_set, g_X8_count_0, g_X8_count, g_X8_holds0_47, g_X8_holds0_33, g_X8_holds0_30, g_X8_holds0_16, g_X8_holds0_13, g_X8_holds0_0, g_X8_holds0, wI, if_pos hb, if_pos ha, Option.bind_some, ne10, eq10, gI_hsi, gI_hsl, gI_hsr]
      exact hT.1.symm
    · refine Rel_Ta R rfl (fun a k q _ => by simp only [gI_hsi, gI_hsl, gI_hsr]; repeat rw [if_neg (by omega)]) ?_
      unfold RTa at hT ⊢
      simp only [gI_hsi, gI_hsl, gI_hsr]; simp [hT, hb]
  · refine ⟨gI h 20 1, hsi h 20 1 b, hsi (hsi (hsi (hsi h 20 1 b) 96 2 (gI h 96 2)) 96 3 b) 96 4 (gI h 96 4), ?_, ?_, ?_⟩
    · simp [g_X7_set_0, g_X7_set, wC, if_pos hb, if_pos ha, Option.bind_some, ne10, eq10, show inb 1 3 = true from rfl, show ix 1 = 1 from rfl]
    · simp [g_X8_set_0, g_X8_set, g_X8_count_0, g_X8_count, g_X8_holds0_47, g_X8_holds0_33, g_X8_holds0_30, g_X8_holds0_16, g_X8_holds0_13, g_X8_holds0_0, g_X8_holds0, wI, if_pos hb, if_pos ha, Option.bind_some, ne10, eq10, gI_hsi, gI_hsl, gI_hsr]
      exact hT.2.1.symm
    · refine Rel_Ta R rfl (fun a k q _ => by simp only [gI_hsi, gI_hsl, gI_hsr]; repeat rw [if_neg (by omega)]) ?_
      unfold RTa at hT ⊢
      simp only [gI_hsi, gI_hsl, gI_hsr]; simp [hT, hb]
  · refine ⟨gI h 20 2, hsi h 20 2 b, hsi (hsi (hsi (hsi h 20 2 b) 96 2 (gI h 96 2)) 96 3 (gI h 96 3)) 96 4 b, ?_, ?_, ?_⟩
    · simp [g_X7_set_0, g_X7_set, wC, if_pos hb, if_pos ha, Option.bind_some, ne10, eq10, show inb 2 3 = true from rfl, show ix 2 = 2 from rfl]
    · simp [g_X8_set_0, g_X8_set, g_X8_count_0, g_X8_count, g_X8_holds0_47, g_X8_holds0_33, g_X8_holds0_30, g_X8_holds0_16, g_X8_holds0_13, g_X8_holds0_0, g_X8_holds0, wI, if_pos hb, if_pos ha, Option.bind_some, ne10, eq10, gI_hsi, gI_hsl, gI_hsr]
      exact hT.2.2.1.symm
    · refine Rel_Ta R rfl (fun a k q _ => by simp only [gI_hsi, gI_hsl, gI_hsr]; repeat rw [if_neg (by omega)]) ?_
      unfold RTa at hT ⊢
      simp only [gI_hsi, gI_hsl, gI_hsr]; simp [hT, hb]
theorem pr_count {L : Nat} {h : Hp} (R : Rel L h) (a : Int32) : Pair L (g_X7_count a) (g_X8_count a) h := by
  have hT := R.2.1
  have hC := R.2.2.1
  have hS := R.2.2.2.2.1
  have hP := R.2.2.2.2.2.1
  by_cases a0 : a = 0
  · subst a0; exact Pair.pure _ R rfl (by simp [g_X8_count_0, g_X8_count]; exact hT.1.symm)
  by_cases a1 : a = 1
  · subst a1; exact Pair.pure _ R rfl (by simp [g_X8_count_0, g_X8_count]; exact hT.2.1.symm)
  by_cases a2 : a = 2
  · subst a2; exact Pair.pure _ R rfl (by simp [g_X8_count_0, g_X8_count]; exact hT.2.2.1.symm)
  have ha : ¬ (0 ≤ a ∧ a ≤ 2) := by lia
  by_cases a3 : a = 3
  · subst a3; exact Pair.pure (gI h 96 5) R (by simp [g_X7_count_0, g_X7_count, wC, if_neg ha, Option.bind_some, ne10, eq10]; exact hS.1) (by simp [g_X8_count_0, g_X8_count])
  by_cases a4 : a = 4
  · subst a4; exact Pair.pure (gI h 96 13) R (by simp [g_X7_count_0, g_X7_count, wC, if_neg ha, Option.bind_some, ne10, eq10]; exact hC.2.1) (by simp [g_X8_count_0, g_X8_count])
  by_cases a5 : a = 5
  · subst a5; exact Pair.pure (gI h 96 14) R (by simp [g_X7_count_0, g_X7_count, wC, if_neg ha, Option.bind_some, ne10, eq10]; exact hC.1) (by simp [g_X8_count_0, g_X8_count])
  by_cases a6 : a = 6
  · subst a6; exact Pair.pure (gI h 96 10) R (by simp [g_X7_count_0, g_X7_count, wC, if_neg ha, Option.bind_some, ne10, eq10]; exact hP.1) (by simp [g_X8_count_0, g_X8_count])
  exact Pair.pure (-2) R (by simp [g_X7_count_0, g_X7_count, wC, if_neg ha, Option.bind_some, ne10, eq10, a3, a4, a5, a6]) (by simp [g_X8_count_0, g_X8_count, a0, a1, a2, a3, a4, a5, a6])
theorem pr_force {L : Nat} {h : Hp} (R : Rel L h) (a : Int32) : Pair L (g_X7_force a) (g_X8_force a) h := by
  have hC := R.2.2.1
  unfold RTc at hC
  by_cases ha : 0 ≤ a ∧ a ≤ gI h 96 13 - 1
  case neg => exact Pair.pure (-2) R (by simp [g_X7_force_0, g_X7_force, wC, hC.2.1, if_neg ha, Option.bind_some, ne10, eq10]) (by simp [g_X8_force_0, g_X8_force, wI, if_neg ha, Option.bind_some, ne10, eq10])
  refine ⟨gI h 17 3, hsi h 17 3 a, hsi (hsi h 17 3 a) 96 14 a, by simp [g_X7_force_0, g_X7_force, wC, hC.2.1, if_pos ha, Option.bind_some, ne10, eq10], ?_, ?_⟩
  · simp [g_X8_force_0, g_X8_force, wI, Option.bind_some, ne10, eq10, gI_hsi, gI_hsl, gI_hsr, if_pos ha]
    exact hC.1.symm
  · refine Rel_Tc R rfl (fun a k q _ => by simp only [gI_hsi, gI_hsl, gI_hsr]; repeat rw [if_neg (by omega)]) ?_
    unfold RTc
    simp only [gI_hsi, gI_hsl, gI_hsr]
    simp [hC, ha]
    lia
noncomputable abbrev SS : Type := Int32 × (Nat → Int32) × (Nat → Int32) × (Nat → Int32)
noncomputable def upn (f : Nat → Int32) (j : Nat) (x : Int32) : Nat → Int32 := fun k => if k = j then x else f k
noncomputable def okS (s : SS) : Prop := 0 ≤ s.1 ∧ s.1 ≤ 12 ∧ ∀ k, k < 12 → iN k < s.1 → 0 ≤ s.2.1 k ∧ s.2.1 k ≤ 5 ∧ 0 ≤ s.2.2.1 k ∧ s.2.2.1 k ≤ 9 ∧ 1 ≤ s.2.2.2 k ∧ s.2.2.2 k ≤ 9
noncomputable def CS (s : SS) (h : Hp) : Prop := gI h 16 12 = s.1 ∧ ∀ k, k < 12 → iN k < s.1 → gI h (36 + k) 0 = s.2.1 k ∧ gI h (36 + k) 1 = s.2.2.1 k ∧ gI h (36 + k) 2 = s.2.2.2 k
noncomputable def RS (s : SS) (h : Hp) : Prop := gI h 96 5 = s.1 ∧ ∀ k, k < 12 → iN k < s.1 → gI h 99 k = s.2.1 k ∧ gI h 100 k = s.2.2.1 k ∧ gI h 101 k = s.2.2.2 k
noncomputable def stp (s : SS) (a b c : Int32) : Int32 × SS :=
  if (0 ≤ a ∧ a ≤ 5) ∧ (0 ≤ b ∧ b ≤ 9) ∧ (1 ≤ c ∧ c ≤ 9) then
    (if s.1 = 12 then (-4, s) else (s.1, (s.1 + 1, upn s.2.1 (ix s.1) a, upn s.2.2.1 (ix s.1) b, upn s.2.2.2 (ix s.1) c)))
  else (-2, s)
noncomputable def Scs (a k : Nat) : Prop := (a = 16 ∧ k = 12) ∨ (36 ≤ a ∧ a ≤ 47)
noncomputable def Srs (a k : Nat) : Prop := (a = 96 ∧ k = 5) ∨ (99 ≤ a ∧ a ≤ 101)
theorem RSt_s {h : Hp} : RSt h ↔ ∃ s, okS s ∧ CS s h ∧ RS s h := by
  constructor
  · intro H
    refine ⟨(gI h 96 5, fun k => gI h 99 k, fun k => gI h 100 k, fun k => gI h 101 k), ⟨H.2.1, H.2.2.1, fun k hk hl => ?_⟩, ⟨H.1, fun k hk hl => ?_⟩, rfl, fun k hk hl => ⟨rfl, rfl, rfl⟩⟩
    · obtain ⟨-, a, b, -, c, d, -, e, f⟩ := H.2.2.2 k hk hl; exact ⟨a, b, c, d, e, f⟩
    · obtain ⟨a, -, -, b, -, -, c, -, -⟩ := H.2.2.2 k hk hl; exact ⟨a, b, c⟩
  · rintro ⟨s, ⟨h1, h2, h3⟩, ⟨h4, h5⟩, h6, h7⟩
    unfold RSt
    rw [h6]
    refine ⟨h4, h1, h2, fun k hk hl => ?_⟩
    obtain ⟨a, b, c⟩ := h5 k hk hl
    obtain ⟨a', b', c'⟩ := h7 k hk hl
    rw [a, b, c, a', b', c']
    obtain ⟨p1, p2, p3, p4, p5, p6⟩ := h3 k hk hl
    exact ⟨rfl, p1, p2, rfl, p3, p4, rfl, p5, p6⟩
theorem okS_stp {s : SS} (H : okS s) (a b c : Int32) : okS (stp s a b c).2 := by
  unfold stp
  by_cases h0 : (0 ≤ a ∧ a ≤ 5) ∧ (0 ≤ b ∧ b ≤ 9) ∧ (1 ≤ c ∧ c ≤ 9)
  case neg => rw [if_neg h0]; exact H
  rw [if_pos h0]
  by_cases h1 : s.1 = 12
  case pos => rw [if_pos h1]; exact H
  rw [if_neg h1]
  have h2 := H.1
  have h3 := H.2.1
  obtain ⟨j, hj, hj2⟩ := iex (n := 12) (by decide) h2 (by show _ < (12 : Int32); lia)
  unfold okS
  dsimp only
  rw [hj2, iN_add (by omega), iN_ix (by omega)]
  refine ⟨?_, ?_, fun k hk hl => ?_⟩
  · rw [le32, iN_t (by omega)]; show (0 : Int) ≤ _; omega
  · show iN (j + 1) ≤ iN 12
    rw [iN_le (by omega) (by omega)]; omega
  · rw [iN_lt (by omega) (by omega)] at hl
    unfold upn
    by_cases e : k = j
    · simp [e, h0]
    · simp only [if_neg e]
      exact H.2.2 k hk (by rw [hj2, iN_lt (by omega) (by omega)]; omega)
theorem c_step {s : SS} {h : Hp} (O : okS s) (H : CS s h) (a b c : Int32) : ∃ h1, g_X7_step a b c h = some ((stp s a b c).1, h1) ∧ CS (stp s a b c).2 h1 ∧ Fr Scs h h1 := by
  unfold stp
  by_cases ha : 0 ≤ a ∧ a ≤ 5
  case neg => rw [if_neg (fun z => ha z.1)]; exact ⟨h, by simp [g_X7_step_73, g_X7_step_0, g_X7_step, wC, if_neg ha, Option.bind_some, ne10, eq10], H, Fr.rfl' _ _⟩
  by_cases hb : 0 ≤ b ∧ b ≤ 9
  case neg => rw [if_neg (fun z => hb z.2.1)]; exact ⟨h, by simp [g_X7_step_73, g_X7_step_0, g_X7_step, wC, if_neg hb, if_pos ha, Option.bind_some, ne10, eq10], H, Fr.rfl' _ _⟩
  by_cases hc : 1 ≤ c ∧ c ≤ 9
  case neg => rw [if_neg (fun z => hc z.2.2)]; exact ⟨h, by simp [g_X7_step_73, g_X7_step_0, g_X7_step, wC, if_neg hc, if_pos hb, if_pos ha, Option.bind_some, ne10, eq10], H, Fr.rfl' _ _⟩
  rw [if_pos ⟨ha, hb, hc⟩]
  have h2 := O.1
  have h3 := O.2.1
  by_cases h1 : s.1 = 12
  case pos =>
    rw [if_pos h1]
    exact ⟨h, by simp [g_X7_step_73, g_X7_step_0, g_X7_step, wC, H.1, h1, if_pos hc, if_pos hb, if_pos ha, Option.bind_some, ne10, eq10], H, Fr.rfl' _ _⟩
  rw [if_neg h1]
  obtain ⟨j, hj, hj2⟩ := iex (n := 12) (by decide) h2 (by show _ < (12 : Int32); lia)
  have hin := iN_inb hj (by decide)
  have hix := iN_ix (k := j) (by omega)
  have hn : 0 ≤ iN j ∧ iN j ≤ 11 := by lia
  have hs1 : gI h 16 12 = iN j := H.1.trans hj2
  refine ⟨hsi (hsi (hsi (hsi h (36 + j) 0 a) (36 + j) 1 b) (36 + j) 2 c) 16 12 (iN j + 1), ?_, ⟨?_, fun k hk hl => ?_⟩, ((((Fr.rfl' _ _).si _ ?_).si _ ?_).si _ ?_).si _ ?_⟩
  · simp [g_X7_step_73, g_X7_step_0, g_X7_step, g_X5_become_10, g_X5_become_5, g_X5_become_0, g_X5_become, wC, hs1, if_pos hn, hj2, hin, hix, if_pos hc, if_pos hb, if_pos ha, Option.bind_some, ne10, eq10, gI_hsi, gI_hsl, gI_hsr, show ¬ (16 = 36 + j) by omega]
  · simp [hj2, gI_hsi, gI_hsl, gI_hsr]
  · dsimp only at hl ⊢
    rw [hj2, iN_add (by omega), iN_lt (by omega) (by omega)] at hl
    rw [hj2, hix]
    simp only [gI_hsi, gI_hsl, gI_hsr, upn]
    by_cases e : k = j
    · subst e; simp [show ¬ (36 + k = 16) by omega]
    · have := H.2 k hk (by rw [hj2, iN_lt (by omega) (by omega)]; omega)
      simp [e, this, show ¬ (36 + k = 16) by omega]
  all_goals (unfold Scs; omega)
theorem r_step {s : SS} {h : Hp} (O : okS s) (H : RS s h) (a b c : Int32) : ∃ h1, g_X8_step a b c h = some ((stp s a b c).1, h1) ∧ RS (stp s a b c).2 h1 ∧ Fr Srs h h1 := by
  unfold stp
  by_cases ha : 0 ≤ a ∧ a ≤ 5
  case neg => rw [if_neg (fun z => ha z.1)]; exact ⟨h, by simp [g_X8_step_84, g_X8_step_74, g_X8_step_64, g_X8_step_54, g_X8_step_0, g_X8_step, wI, if_neg ha, Option.bind_some, ne10, eq10], H, Fr.rfl' _ _⟩
  by_cases hb : 0 ≤ b ∧ b ≤ 9
  case neg => rw [if_neg (fun z => hb z.2.1)]; exact ⟨h, by simp [g_X8_step_84, g_X8_step_74, g_X8_step_64, g_X8_step_54, g_X8_step_0, g_X8_step, wI, if_neg hb, if_pos ha, Option.bind_some, ne10, eq10], H, Fr.rfl' _ _⟩
  by_cases hc : 1 ≤ c ∧ c ≤ 9
  case neg => rw [if_neg (fun z => hc z.2.2)]; exact ⟨h, by simp [g_X8_step_84, g_X8_step_74, g_X8_step_64, g_X8_step_54, g_X8_step_0, g_X8_step, wI, if_neg hc, if_pos hb, if_pos ha, Option.bind_some, ne10, eq10], H, Fr.rfl' _ _⟩
  rw [if_pos ⟨ha, hb, hc⟩]
  have h2 := O.1
  have h3 := O.2.1
  by_cases h1 : s.1 = 12
  case pos =>
    rw [if_pos h1]
    exact ⟨h, by simp [g_X8_step_84, g_X8_step_74, g_X8_step_64, g_X8_step_54, g_X8_step_0, g_X8_step, wI, H.1, h1, if_pos hc, if_pos hb, if_pos ha, Option.bind_some, ne10, eq10], H, Fr.rfl' _ _⟩
  rw [if_neg h1]
  obtain ⟨j, hj, hj2⟩ := iex (n := 12) (by decide) h2 (by show _ < (12 : Int32); lia)
  have hin := iN_inb hj (by decide)
  have hix := iN_ix (k := j) (by omega)
  have hs1 : gI h 96 5 = iN j := H.1.trans hj2
  have h12 : ¬ iN j = 12 := by rw [← hj2]; exact h1
  refine ⟨hsi (hsi (hsi (hsi h 99 j a) 100 j b) 101 j c) 96 5 (iN j + 1), ?_, ⟨?_, fun k hk hl => ?_⟩, ((((Fr.rfl' _ _).si _ ?_).si _ ?_).si _ ?_).si _ ?_⟩
  · simp [g_X8_step_84, g_X8_step_74, g_X8_step_64, g_X8_step_54, g_X8_step_0, g_X8_step, wI, hs1, h12, hj2, hin, hix, if_pos hc, if_pos hb, if_pos ha, Option.bind_some, ne10, eq10, gI_hsi, gI_hsl, gI_hsr]
  · simp [hj2, gI_hsi, gI_hsl, gI_hsr]
  · dsimp only at hl ⊢
    rw [hj2, iN_add (by omega), iN_lt (by omega) (by omega)] at hl
    rw [hj2, hix]
    simp only [gI_hsi, gI_hsl, gI_hsr, upn]
    by_cases e : k = j
    · subst e; simp
    · have := H.2 k hk (by rw [hj2, iN_lt (by omega) (by omega)]; omega)
      simp [e, this]
  all_goals (unfold Srs; omega)
theorem CS_fr {S : Nat → Nat → Prop} {s : SS} {h h1 : Hp} (f : Fr S h h1) (hS : ∀ a k, Scs a k → ¬ S a k) (H : CS s h) : CS s h1 := by
  refine ⟨(f.i (hS _ _ (by unfold Scs; omega))).trans H.1, fun k hk hl => ?_⟩
  rw [f.i (hS _ _ (by unfold Scs; omega)), f.i (hS _ _ (by unfold Scs; omega)), f.i (hS _ _ (by unfold Scs; omega))]
  exact H.2 k hk hl
theorem RS_fr {S : Nat → Nat → Prop} {s : SS} {h h1 : Hp} (f : Fr S h h1) (hS : ∀ a k, Srs a k → ¬ S a k) (H : RS s h) : RS s h1 := by
  refine ⟨(f.i (hS _ _ (by unfold Srs; omega))).trans H.1, fun k hk hl => ?_⟩
  rw [f.i (hS _ _ (by unfold Srs; omega)), f.i (hS _ _ (by unfold Srs; omega)), f.i (hS _ _ (by unfold Srs; omega))]
  exact H.2 k hk hl
theorem Rel_steps {L : Nat} {h h1 h2 : Hp} {s : SS} (R : Rel L h) (f1 : Fr Scs h h1) (f2 : Fr Srs h1 h2) (O : okS s) (C : CS s h1) (R2 : RS s h2) : Rel L h2 := by
  refine Rel_St R (f2.1.trans f1.1) (fun a k q _ => ?_) (RSt_s.mpr ⟨s, O, CS_fr f2 (fun a k => by unfold Scs Srs; omega) C, R2⟩)
  rw [f2.i (by unfold Srs; omega), f1.i (by unfold Scs; omega)]
theorem pr_step {L : Nat} {h : Hp} (R : Rel L h) (a b c : Int32) : Pair L (g_X7_step a b c) (g_X8_step a b c) h := by
  obtain ⟨s, O, C, D⟩ := RSt_s.mp R.2.2.2.2.1
  obtain ⟨h1, e1, C1, f1⟩ := c_step O C a b c
  obtain ⟨h2, e2, D2, f2⟩ := r_step O (RS_fr f1 (fun a k => by unfold Scs Srs; omega) D) a b c
  exact ⟨_, h1, h2, e1, e2, Rel_steps R f1 f2 (okS_stp O a b c) C1 D2⟩
theorem pr_forget {L : Nat} {h : Hp} (R : Rel L h) : Pair L g_X7_forget g_X8_forget h := by
  have hS := R.2.2.2.2.1
  have hS' := hS
  unfold RSt at hS
  by_cases h1 : 1 ≤ gI h 96 5
  case neg =>
    have h0 : gI h 96 5 = 0 := by lia
    exact Pair.pure (-3) R (by simp [g_X7_forget_21, g_X7_forget_0, g_X7_forget, hS.1, if_neg h1]) (by simp [g_X8_forget_20, g_X8_forget_0, g_X8_forget, h0])
  have h0 : ¬ gI h 96 5 = 0 := by lia
  refine ⟨gI h 96 5 - 1, hsi h 16 12 (gI h 96 5 - 1), hsi (hsi h 16 12 (gI h 96 5 - 1)) 96 5 (gI h 96 5 - 1), ?_, ?_, ?_⟩
  · simp [g_X7_forget_21, g_X7_forget_0, g_X7_forget, hS.1, if_pos h1, gI_hsi, gI_hsl, gI_hsr]
  · simp [g_X8_forget_20, g_X8_forget_0, g_X8_forget, gI_hsi, gI_hsl, gI_hsr, h0]
  · refine Rel_St R rfl (fun a k q _ => by simp only [gI_hsi, gI_hsl, gI_hsr]; repeat rw [if_neg (by omega)]) ?_
    unfold RSt
    simp only [gI_hsi, gI_hsl, gI_hsr]
    simp
    refine ⟨by lia, by lia, fun k hk hl => ?_⟩
    have := hS.2.2.2 k hk (by lia)
    simp [this, show ¬ (36 + k = 16) by omega]
theorem c_takes {h : Hp} {j : Nat} : g_X5_takes (36 + j) h = some ((if gI h (36 + j) 0 = 1 then 10 - gI h (36 + j) 2 else if gI h (36 + j) 0 = 2 then 12 - gI h (36 + j) 2 else if gI h (36 + j) 0 = 3 then 3 else if gI h (36 + j) 0 = 4 then gI h (36 + j) 1 + 1 else if gI h (36 + j) 0 = 5 then gI h (36 + j) 1 + 3 else 10 * gI h (36 + j) 1), h) := by
  simp only [g_X5_takes_0, g_X5_takes]
  repeat' split
  all_goals rfl
theorem r_takes {h : Hp} {j : Nat} (hj : j < 12) : g_X8_takesOf (iN j) h = some ((if gI h 99 j = 1 then 10 - gI h 101 j else if gI h 99 j = 2 then 12 - gI h 101 j else if gI h 99 j = 3 then 3 else if gI h 99 j = 4 then gI h 100 j + 1 else if gI h 99 j = 5 then gI h 100 j + 3 else 10 * gI h 100 j), h) := by
  simp only [g_X8_takesOf_0, g_X8_takesOf]
  rw [if_pos (iN_inb hj (by decide)), iN_ix (by omega)]
  repeat' split
  all_goals first | rfl | (rw [Int32.add_comm])
theorem pr_stepTold {L : Nat} {h : Hp} (R : Rel L h) (a b : Int32) : Pair L (g_X7_stepTold a b) (g_X8_stepTold a b) h := by
  have hS := R.2.2.2.2.1
  unfold RSt at hS
  by_cases ha : 0 ≤ a ∧ a ≤ gI h 96 5 - 1
  case neg => exact Pair.pure (-5) R (by simp [g_X7_stepTold_0, g_X7_stepTold, g_X7_isStep_0, g_X7_isStep, wC, hS.1, if_neg ha, Option.bind_some, ne10, eq10]) (by simp [g_X8_stepTold_0, g_X8_stepTold, wI, if_neg ha, Option.bind_some, ne10, eq10])
  have ha12 : ¬ 12 ≤ a := by lia
  obtain ⟨j, hj, rfl⟩ := iex (n := 12) (by decide) ha.1 (by show a < 12; lia)
  have hin := iN_inb hj (by decide)
  have hix := iN_ix (k := j) (by omega)
  have hT := hS.2.2.2 j hj (by lia)
  by_cases b0 : b = 0
  · subst b0; exact Pair.pure (gI h 99 j) R (by simp [g_X7_stepTold_0, g_X7_stepTold, g_X7_isStep_0, g_X7_isStep, wC, hS.1, if_pos ha, Option.bind_some, ne10, eq10, hin, hix, ha12, hT]) (by simp [g_X8_stepTold_0, g_X8_stepTold, wI, if_pos ha, Option.bind_some, ne10, eq10, hin, hix])
  by_cases b1 : b = 1
  · subst b1; exact Pair.pure (gI h 100 j) R (by simp [g_X7_stepTold_0, g_X7_stepTold, g_X7_isStep_0, g_X7_isStep, wC, hS.1, if_pos ha, Option.bind_some, ne10, eq10, hin, hix, ha12, hT]) (by simp [g_X8_stepTold_0, g_X8_stepTold, wI, if_pos ha, Option.bind_some, ne10, eq10, hin, hix])
  by_cases b2 : b = 2
  · subst b2; exact Pair.pure (gI h 101 j) R (by simp [g_X7_stepTold_0, g_X7_stepTold, g_X7_isStep_0, g_X7_isStep, wC, hS.1, if_pos ha, Option.bind_some, ne10, eq10, hin, hix, ha12, hT]) (by simp [g_X8_stepTold_0, g_X8_stepTold, wI, if_pos ha, Option.bind_some, ne10, eq10, hin, hix])
  by_cases b3 : b = 3
  · subst b3; exact Pair.pure _ R (by simp [g_X7_stepTold_0, g_X7_stepTold, g_X7_isStep_0, g_X7_isStep, wC, hS.1, if_pos ha, Option.bind_some, ne10, eq10, hin, hix, ha12, c_takes]; rfl) (by simp [g_X8_stepTold_0, g_X8_stepTold, wI, if_pos ha, Option.bind_some, ne10, eq10, r_takes hj, hT])
  exact Pair.pure (-7) R (by simp [g_X7_stepTold_0, g_X7_stepTold, g_X7_isStep_0, g_X7_isStep, wC, hS.1, if_pos ha, Option.bind_some, ne10, eq10, ha12, b0, b1, b2, b3]) (by simp [g_X8_stepTold_0, g_X8_stepTold, wI, if_pos ha, Option.bind_some, ne10, eq10, b0, b1, b2, b3])
