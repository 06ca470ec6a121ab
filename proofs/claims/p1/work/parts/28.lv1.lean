theorem i12 {k : Nat} (h : k < 12) : ¬ (12 : Int32) ≤ iN k := by
  show ¬ iN 12 ≤ iN k
  rw [iN_le (by omega) (by omega)]; omega
theorem i12e : (12 : Int32) ≤ iN 12 := by decide
theorem l_image (n j : Nat) : ∀ (k m : Nat) (h : Hp), k + j = 12 → j < m → ∃ h', g_X8_image_39 n m (iN k) h = some (gI h 96 5, h') ∧ Fr (fun a _ => a = 105 ∨ a = 106) h h' ∧ ∀ i, i < 12 → (k ≤ i → gI h' 105 i = gI h 97 i ∧ gI h' 106 i = gI h 98 i) ∧ (i < k → gI h' 105 i = gI h 105 i ∧ gI h' 106 i = gI h 106 i) := by
  induction j with
  | zero =>
    intro k m h e hm
    obtain ⟨m, rfl⟩ : ∃ z, m = z + 1 := ⟨m - 1, by omega⟩
    obtain rfl : k = 12 := by omega
    refine ⟨h, ?_, Fr.rfl' _ _, fun i hi => ⟨fun q => by omega, fun _ => ⟨rfl, rfl⟩⟩⟩
    rw [g_X8_image_39, if_pos i12e]
  | succ j ih =>
    intro k m h e hm
    obtain ⟨m, rfl⟩ : ∃ z, m = z + 1 := ⟨m - 1, by omega⟩
    have hin := iN_inb (k := k) (n := 12) (by omega) (by decide)
    have hix := iN_ix (k := k) (by omega)
    obtain ⟨h', e1, f, q⟩ := ih (k + 1) m (hsi (hsi h 105 k (gI h 97 k)) 106 k (gI h 98 k)) (by omega) (by omega)
    refine ⟨h', ?_, (((Fr.rfl' _ _).si _ (by omega)).si _ (by omega)).tr f, fun i hi => ⟨fun z => ?_, fun z => ?_⟩⟩
    · rw [g_X8_image_39, if_neg (i12 (by omega)), if_pos hin, hix, g_X8_image_57, if_pos hin, hix, iN_add (by omega)]
      simp only [gI_hsi, gI_hsl, gI_hsr] at e1 ⊢
      simpa using e1
    · have := q i hi
      simp only [gI_hsi, gI_hsl, gI_hsr] at this
      by_cases ei : i = k
      · subst ei
        have := this.2 (by omega)
        simpa using this
      · have := this.1 (by omega)
        simpa using this
    · have := (q i hi).2 (by omega)
      simp only [gI_hsi, gI_hsl, gI_hsr] at this
      simpa [show ¬ i = k by omega] using this
theorem l_back (n j : Nat) : ∀ (k m : Nat) (h : Hp), k + j = 12 → j < m → ∃ h', g_X8_back_44 n m (iN k) h = some (gI h 96 5, h') ∧ Fr (fun a _ => a = 97 ∨ a = 98) h h' ∧ ∀ i, i < 12 → (k ≤ i → gI h' 97 i = gI h 105 i ∧ gI h' 98 i = gI h 106 i) ∧ (i < k → gI h' 97 i = gI h 97 i ∧ gI h' 98 i = gI h 98 i) := by
  induction j with
  | zero =>
    intro k m h e hm
    obtain ⟨m, rfl⟩ : ∃ z, m = z + 1 := ⟨m - 1, by omega⟩
    obtain rfl : k = 12 := by omega
    refine ⟨h, ?_, Fr.rfl' _ _, fun i hi => ⟨fun q => by omega, fun _ => ⟨rfl, rfl⟩⟩⟩
    rw [g_X8_back_44, if_pos i12e]
  | succ j ih =>
    intro k m h e hm
    obtain ⟨m, rfl⟩ : ∃ z, m = z + 1 := ⟨m - 1, by omega⟩
    have hin := iN_inb (k := k) (n := 12) (by omega) (by decide)
    have hix := iN_ix (k := k) (by omega)
    obtain ⟨h', e1, f, q⟩ := ih (k + 1) m (hsi (hsi h 97 k (gI h 105 k)) 98 k (gI h 106 k)) (by omega) (by omega)
    refine ⟨h', ?_, (((Fr.rfl' _ _).si _ (by omega)).si _ (by omega)).tr f, fun i hi => ⟨fun z => ?_, fun z => ?_⟩⟩
    · rw [g_X8_back_44, if_neg (i12 (by omega)), if_pos hin, hix, g_X8_back_62, if_pos hin, hix, iN_add (by omega)]
      simp only [gI_hsi, gI_hsl, gI_hsr] at e1 ⊢
      simpa using e1
    · have := q i hi
      simp only [gI_hsi, gI_hsl, gI_hsr] at this
      by_cases ei : i = k
      · subst ei
        have := this.2 (by omega)
        simpa using this
      · have := this.1 (by omega)
        simpa using this
    · have := (q i hi).2 (by omega)
      simp only [gI_hsi, gI_hsl, gI_hsr] at this
      simpa [show ¬ i = k by omega] using this
theorem ix0 : ix (0 : Int32) = 0 := rfl
theorem ix3 : ix (3 : Int32) = 3 := rfl
theorem ix12 : ix (12 : Int32) = 12 := rfl
/-- the heap behind 'become' of a dough -/
noncomputable def hbec (v0 v1 : Nat) (h : Hp) : Hp := hsi (hcp (hcp (hcp h (v1 + 1) 0 (v0 + 1) 0 12) (v1 + 2) 0 (v0 + 2) 0 12) (v1 + 3) 0 (v0 + 3) 0 3) v0 3 (gI h v1 3)
theorem c_become {h : Hp} {v0 v1 : Nat} (hd : v1 + 3 < v0 ∨ v0 + 3 < v1) : g_X0_become v0 v1 h = some (hbec v0 v1 h) := by
  unfold g_X0_become g_X0_become_0 g_X0_become_15 g_X0_become_30 g_X0_become_44 hbec
  rw [ix0, ix12, ix3]
  simp only [gI_hcp]
  rw [if_neg (by omega), if_neg (by omega), if_neg (by omega)]
theorem gI_hbec {h : Hp} {v0 v1 : Nat} (hd : v1 + 3 < v0 ∨ v0 + 3 < v1) (a k : Nat) : gI (hbec v0 v1 h) a k = if a = v0 ∧ k = 3 then gI h v1 3 else if a = v0 + 3 ∧ k < 3 then gI h (v1 + 3) k else if a = v0 + 2 ∧ k < 12 then gI h (v1 + 2) k else if a = v0 + 1 ∧ k < 12 then gI h (v1 + 1) k else gI h a k := by
  unfold hbec
  simp only [gI_hsi, gI_hcp]
  by_cases a1 : a = v0
  · subst a1
    by_cases hk : k = 3
    · simp [hk]
    · simp [hk]
  · by_cases a2 : a = v0 + 3
    · subst a2
      by_cases hk : k < 3
      · simp [hk, show ¬ v1 + 3 = v0 + 2 by omega, show ¬ v1 + 3 = v0 + 1 by omega]
      · simp [hk]
    · by_cases a3 : a = v0 + 2
      · subst a3
        by_cases hk : k < 12
        · simp [hk, show ¬ v1 + 2 = v0 + 1 by omega]
        · simp [hk]
      · by_cases a4 : a = v0 + 1
        · subst a4
          by_cases hk : k < 12
          · simp [hk]
          · simp [hk]
        · simp [a1, a2, a3, a4]
theorem pr_image {L : Nat} {h : Hp} (R : Rel L h) : Pair L g_X7_image (g_X8_image 4000) h := by
  have hS := R.2.2.2.2.1
  have hD := R.1
  have hT := R.2.1
  have hC := R.2.2.1
  unfold RSt at hS; unfold RDo at hD; unfold RTa at hT; unfold RTc at hC
  obtain ⟨h1, e1⟩ : ∃ h1, h1 = hsi (hbec 21 17 h) 16 14 1 := ⟨_, rfl⟩
  have g1 : ∀ a k, gI h1 a k = if a = 16 ∧ k = 14 then 1 else if a = 21 ∧ k = 3 then gI h 17 3 else if a = 24 ∧ k < 3 then gI h 20 k else if a = 23 ∧ k < 12 then gI h 19 k else if a = 22 ∧ k < 12 then gI h 18 k else gI h a k := by
    intro a k
    rw [e1, gI_hsi, gI_hbec (by omega)]
  have k1 : h1.1 = h.1 := by rw [e1]; rfl
  obtain ⟨h2, e2, f2, q2⟩ := l_image 4000 12 0 4000 (hsi (hsi (hsi (hsi (hsi h1 96 15 1) 96 16 (gI h1 96 2)) 96 17 (gI h1 96 3)) 96 18 (gI h1 96 4)) 96 19 (gI h1 96 14)) rfl (by decide)
  refine ⟨gI h 96 5, h1, h2, ?_, ?_, ?_⟩
  · unfold g_X7_image g_X7_image_0
    rw [c_become (by omega), Option.bind_some, g_X7_image_16, ← e1, g1]
    simp [hS.1]
  · unfold g_X8_image g_X8_image_0 g_X8_image_5 g_X8_image_13 g_X8_image_21 g_X8_image_29
    simp only [gI_hsi, gI_hsl, gI_hsr] at e2 ⊢
    simp at e2 ⊢
    rw [show (0 : Int32) = iN 0 from rfl, e2, g1]
    simp
  · have e96 : ∀ k, gI h2 96 k = if k = 15 then 1 else if k = 16 then gI h 96 2 else if k = 17 then gI h 96 3 else if k = 18 then gI h 96 4 else if k = 19 then gI h 96 14 else gI h 96 k := by
      intro k
      rw [f2.i (by omega)]
      simp only [gI_hsi, gI_hsl, gI_hsr, g1]
      simp
      repeat' split
      all_goals first | rfl | omega
    have eo : ∀ a k, a ≠ 96 → a ≠ 105 → a ≠ 106 → gI h2 a k = gI h1 a k := by
      intro a k z1 z2 z3
      rw [f2.i (by omega)]
      simp [gI_hsi, gI_hsl, gI_hsr, z1]
    refine Rel_Im R (f2.1.trans k1) (fun a k q _ => ?_) ?_
    · by_cases z : a = 96
      · subst z
        rw [e96, if_neg (by omega), if_neg (by omega), if_neg (by omega), if_neg (by omega), if_neg (by omega)]
      · rw [eo a k z (by omega) (by omega), g1, if_neg (by omega), if_neg (by omega), if_neg (by omega), if_neg (by omega), if_neg (by omega)]
    · unfold RIm
      rw [eo 16 14 (by decide) (by decide) (by decide), eo 24 0 (by decide) (by decide) (by decide), eo 24 1 (by decide) (by decide) (by decide), eo 24 2 (by decide) (by decide) (by decide), eo 21 3 (by decide) (by decide) (by decide)]
      rw [e96 15, e96 16, e96 17, e96 18, e96 19, e96 13]
      simp only [g1]
      simp [hT, hC]
      intro k hk
      have q3 := (q2 k hk).1 (by omega)
      rw [eo 22 k (by decide) (by decide) (by decide), eo 23 k (by decide) (by decide) (by decide), q3.1, q3.2]
      simp only [gI_hsi, gI_hsl, gI_hsr, g1]
      simp [hk, hD k hk]
theorem pr_back {L : Nat} {h : Hp} (R : Rel L h) : Pair L g_X7_back (g_X8_back 4000) h := by
  have hS := R.2.2.2.2.1
  have hI := R.2.2.2.1
  have hC := R.2.2.1
  unfold RIm at hI; unfold RTc at hC
  rcases hI.2 with hz | ⟨hz, hD, hT, hW⟩
  · exact Pair.pure (-3) R (by simp [g_X7_back_0, g_X7_back, hI.1, hz]) (by simp [g_X8_back_62, g_X8_back_34, g_X8_back_26, g_X8_back_18, g_X8_back_0, g_X8_back, hz])
  obtain ⟨h1, e1⟩ : ∃ h1, h1 = hbec 17 21 h := ⟨_, rfl⟩
  have g1 : ∀ a k, gI h1 a k = if a = 17 ∧ k = 3 then gI h 21 3 else if a = 20 ∧ k < 3 then gI h 24 k else if a = 19 ∧ k < 12 then gI h 23 k else if a = 18 ∧ k < 12 then gI h 22 k else gI h a k := by
    intro a k
    rw [e1, gI_hbec (by omega)]
  have k1 : h1.1 = h.1 := by rw [e1]; rfl
  obtain ⟨h2, e2, f2, q2⟩ := l_back 4000 12 0 4000 (hsi (hsi (hsi (hsi h1 96 2 (gI h1 96 16)) 96 3 (gI h1 96 17)) 96 4 (gI h1 96 18)) 96 14 (gI h1 96 19)) rfl (by decide)
  have e96 : ∀ k, gI h2 96 k = if k = 2 then gI h 96 16 else if k = 3 then gI h 96 17 else if k = 4 then gI h 96 18 else if k = 14 then gI h 96 19 else gI h 96 k := by
    intro k
    rw [f2.i (by omega)]
    simp only [gI_hsi, gI_hsl, gI_hsr, g1]
    simp
    repeat' split
    all_goals first | rfl | omega
  have eo : ∀ a k, a ≠ 96 → a ≠ 97 → a ≠ 98 → gI h2 a k = gI h1 a k := by
    intro a k z1 z2 z3
    rw [f2.i (by omega)]
    simp [gI_hsi, gI_hsl, gI_hsr, z1]
  refine ⟨gI h 96 5, h1, h2, ?_, ?_, ?_⟩
  · unfold g_X7_back g_X7_back_0
    rw [c_become (by omega), ← e1]
    simp [hI.1, hz, g1, hS.1]
  · unfold g_X8_back g_X8_back_0 g_X8_back_18 g_X8_back_26 g_X8_back_34
    have : gI h1 96 15 = 1 := by rw [g1]; simp [hz]
    simp only [gI_hsi, gI_hsl, gI_hsr] at e2 ⊢
    simp [this] at e2 ⊢
    rw [show (0 : Int32) = iN 0 from rfl, e2, g1]
    simp
  · have a1 : RDo h2 := by
      intro k hk
      have q3 := (q2 k hk).1 (by omega)
      rw [eo 18 k (by decide) (by decide) (by decide), eo 19 k (by decide) (by decide) (by decide), q3.1, q3.2]
      simp only [gI_hsi, gI_hsl, gI_hsr, g1]
      simp [hk, hD k hk]
    have a2 : RTa h2 := by
      unfold RTa
      rw [eo 20 0 (by decide) (by decide) (by decide), eo 20 1 (by decide) (by decide) (by decide), eo 20 2 (by decide) (by decide) (by decide), e96, e96, e96]
      simp only [g1]
      simp [hT]
    have a3 : RTc h2 := by
      unfold RTc
      rw [eo 17 3 (by decide) (by decide) (by decide), eo 16 13 (by decide) (by decide) (by decide), e96, e96]
      simp only [g1]
      simp [hC, hW]
    obtain ⟨r1, r2, r3, r4, r5, r6, r7, r8, r9⟩ := R
    have eo2 : ∀ (P : Nat → Nat → Prop), (∀ a k, P a k → (a ≠ 17 ∨ k ≠ 3) ∧ a ≠ 18 ∧ a ≠ 19 ∧ a ≠ 20 ∧ a ≠ 97 ∧ a ≠ 98 ∧ (a ≠ 96 ∨ (k ≠ 2 ∧ k ≠ 3 ∧ k ≠ 4 ∧ k ≠ 14))) → Eq' h h2 P := by
      intro P hP a k hp
      have := hP a k hp
      by_cases z : a = 96
      · subst z; rw [e96, if_neg (by omega), if_neg (by omega), if_neg (by omega), if_neg (by omega)]
      · rw [eo a k z (by omega) (by omega), g1, if_neg (by omega), if_neg (by omega), if_neg (by omega), if_neg (by omega)]
    refine ⟨a1, a2, a3, RIm_c (eo2 _ fun a k q => by omega) r4, RSt_c (eo2 _ fun a k q => by omega) r5, RTp_c (eo2 _ fun a k q => by omega) r6, RTx_c (eo2 _ fun a k q => by unfold isTxt at q; omega) r7, RSh_c (eo2 _ fun a k q => by omega) r8, RKk_c (f2.1.trans k1) (eo2 _ fun a k q => by omega) r9⟩
