noncomputable def SC8 (a k : Nat) : Prop := SRt 0 a k ∨ a = 102 ∨ (a = 96 ∧ (k = 10 ∨ k = 13 ∨ k = 26 ∨ k = 34)) ∨ (a = 104 ∧ k = 3)
theorem l_copy8 (j : Nat) : ∀ (k m : Nat) (h : Hp), k + j = 83 → j < m → (∀ i, i < 83 → gI h 110 i = lawT.getD i 0) → (∀ i, i < k → gI h 102 i = lawT.getD i 0) → ∃ h', g_X8_init_1458 4000 m (iN k) h = g_X8_init_1488 4000 (hsi h' 96 10 83) ∧ (∀ i, i < 83 → gI h' 102 i = lawT.getD i 0) ∧ Fr (fun a _ => a = 102) h h' := by
  induction j with
  | zero =>
    intro k m h ek hm q r
    obtain ⟨m, rfl⟩ : ∃ z, m = z + 1 := ⟨m - 1, by omega⟩
    obtain rfl : k = 83 := by omega
    exact ⟨h, by rw [g_X8_init_1458, if_pos (by decide)], r, Fr.rfl' _ _⟩
  | succ j ih =>
    intro k m h ek hm q r
    obtain ⟨m, rfl⟩ : ∃ z, m = z + 1 := ⟨m - 1, by omega⟩
    have f1 : Fr (fun a _ => a = 102) h (hsi h 102 k (lawT.getD k 0)) := (Fr.rfl' _ _).si _ rfl
    obtain ⟨h2, a2, b2', d2⟩ := ih (k + 1) m (hsi h 102 k (lawT.getD k 0)) (by omega) (by omega) (fun i hi => by rw [gI_hsi, if_neg (by omega)]; exact q i hi) (fun i hi => by
      rw [gI_hsi]
      by_cases c : i = k
      · rw [if_pos ⟨rfl, c⟩, c]
      · rw [if_neg (by omega)]; exact r i (by omega))
    refine ⟨h2, ?_, b2', f1.tr d2⟩
    rw [g_X8_init_1458, if_neg (show ¬ (83 : Int32) ≤ iN k by rw [show (83 : Int32) = iN 83 from rfl, iN_le (by omega) (by omega)]; omega), if_pos (iN_inb (by omega) (by decide)), if_pos (iN_inb (by omega) (by decide)), iN_ix (by omega), q k (by omega), iN_add (by omega)]
    exact a2
theorem first8 {h : Hp} (q110 : ∀ i, i < 83 → gI h 110 i = lawT.getD i 0) (q13 : gI h 96 13 = 0) (q111 : ∀ k, k < 96 → gI h 111 k = wordsT.getD k 0) : ∃ h', g_X8_init_1456 4000 h = some h' ∧ TxR 0 T0 h' ∧ gI h' 96 10 = 0 ∧ gI h' 96 13 = 1 ∧ Fr SC8 h h' := by
  obtain ⟨h1, a1, b1, f1⟩ := l_copy8 83 0 4000 h rfl (by omega) q110 (fun i hi => by omega)
  obtain ⟨h2, e2⟩ : ∃ h2, h2 = hsi (hsi (hsi h1 96 10 83) 96 26 0) 96 34 0 := ⟨_, rfl⟩
  have f2 : Fr SC8 h h2 := by
    rw [e2]
    have fm : Fr SC8 h h1 := f1.mono (fun a k z => Or.inr (Or.inl z))
    exact ((fm.si _ (by unfold SC8; omega)).si _ (by unfold SC8; omega)).si _ (by unfold SC8; omega)
  have W : RTt (tpB lawT) lawT.length 0 0 0 (fun _ => []) h2 := by
    refine ⟨⟨?_, fun k hk => ?_, fun k hk => ?_⟩, ?_, ⟨?_, fun i hi => absurd hi (by show ¬ i < 0; omega), ?_⟩, fun i hi => by omega⟩
    · rw [e2, gI_hsi, if_neg (by omega), gI_hsi, if_neg (by omega), gI_hsi, if_pos ⟨rfl, rfl⟩, lawT_l]; rfl
    · rw [e2, gI_hsi, if_neg (by omega), gI_hsi, if_neg (by omega), gI_hsi, if_neg (by omega)]; exact b1 k (by rw [lawT_l] at hk; exact hk)
    · rw [f2.i (by unfold SC8 SRt SRd SMc; omega)]; exact q111 k hk
    · rw [e2, gI_hsi, if_neg (by omega), gI_hsi, if_pos ⟨rfl, rfl⟩]; rfl
    · rw [e2, gI_hsi, if_pos ⟨rfl, rfl⟩]; rfl
    · rw [e2, gI_hsi, if_neg (by omega), gI_hsi, if_neg (by omega), gI_hsi, if_neg (by omega), f1.i (by omega)]; exact q13
  obtain ⟨h3, a3, q34, q104, q103, f3⟩ := pinR (by rw [lawT_l]; omega) lawT_r pin83 h2 W
  have q13' : gI h3 96 13 = 0 := by rw [f3.i (by unfold SRt SRd SMc; omega)]; exact W.2.2.1.2.2
  obtain ⟨h4, e4⟩ : ∃ h4, h4 = hsi (hsi (hsi h3 104 3 (gI h3 96 34)) 96 10 0) 96 13 1 := ⟨_, rfl⟩
  have f4 : Fr SC8 h3 h4 := by rw [e4]; exact (((Fr.rfl' _ _).si _ (by unfold SC8; omega)).si _ (by unfold SC8; omega)).si _ (by unfold SC8; omega)
  have et : g_X8_text 4000 (hsi h1 96 10 83) = some (0, h4) := by
    unfold g_X8_text g_X8_text_0 g_X8_text_17
    rw [show gI (hsi h1 96 10 83) 96 13 = 0 by rw [gI_hsi, if_neg (by omega), f1.i (by omega)]; exact q13, if_pos (by decide), ← e2, a3]
    unfold g_X8_text_122 g_X8_text_139 g_X8_text_144 g_X8_text_166
    rw [q13', if_pos (by decide), if_pos (show (1 : Int32) ≠ 0 by decide), show ix (4 * 0 + 3) = 3 from rfl, show gI (hsi (hsi h3 104 3 (gI h3 96 34)) 96 10 0) 96 13 = 0 by rw [gI_hsi, if_neg (by omega), gI_hsi, if_neg (by omega)]; exact q13', show (0 : Int32) + 1 = 1 by decide, ← e4, show gI h4 96 13 = 1 by rw [e4, gI_hsi, if_pos ⟨rfl, rfl⟩]]
    rfl
  have a1' : g_X8_init_1456 4000 h = g_X8_init_1488 4000 (hsi h1 96 10 83) := a1
  refine ⟨h4, ?_, ⟨fun p hp => ?_, fun p hp k hk => ?_⟩, ?_, ?_, (f2.tr (f3.mono (fun a k z => Or.inl z))).tr f4⟩
  · rw [a1']
    unfold g_X8_init_1488
    rw [et, Option.bind_some]
  · rw [e4, gI_hsi, if_neg (by omega), gI_hsi, if_neg (by omega), gI_hsi]
    by_cases c : p = 3
    · rw [if_pos ⟨rfl, by omega⟩, c]; exact q34
    · rw [if_neg (by omega), show 4 * 0 + p = p by omega]; exact q104 p (by omega)
  · rw [e4, gI_hsi, if_neg (by omega), gI_hsi, if_neg (by omega), gI_hsi, if_neg (by omega), show 200 * 0 + (toff T0 p + k) = toff T0 p + k by omega]; exact q103 p hp k hk
  · rw [e4, gI_hsi, if_neg (by omega), gI_hsi, if_pos ⟨rfl, rfl⟩]
  · rw [e4, gI_hsi, if_pos ⟨rfl, rfl⟩]
