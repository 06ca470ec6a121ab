/-! THE LAW begins -/
theorem IL7_a : ∀ k, k < 12 → (18, k, 60000) ∈ IL7 ∧ (19, k, 100) ∈ IL7 := by decide +kernel
theorem IL8_a : ∀ k, k < 12 → (97, k, 60000) ∈ IL8 ∧ (98, k, 100) ∈ IL8 := by decide +kernel
theorem IL8_b : ∀ k, k < 83 → (110, k, lawT.getD k 0) ∈ IL8 := by decide +kernel
theorem IL8_c : ∀ k, k < 96 → (111, k, wordsT.getD k 0) ∈ IL8 := by decide +kernel
theorem IL_s : ∀ s, s < 4 → (72 + 2 * s, 1, -1) ∈ IL7 ∧ (107, s, -1) ∈ IL8 := by decide +kernel
theorem w_start (L : Nat) : ∃ h, Rel L h ∧ gI h 96 5 = 0 ∧ ∀ X, w_law X L 4000 (h00 L) = g_L_law_18 X L 4000 4000 0 h := by
  obtain ⟨p, e7, k7, S7, i7⟩ := start7 L (fun v0 h => @ite _ (v0 = 16 ∧ ∃ L, SHP L 96 h) (Classical.propDecidable _) (g_X7_init_232 4000 h) none)
  rw [if_pos ⟨rfl, L, S7⟩] at e7
  obtain ⟨p', r7, oT, tC, q31, f7⟩ := first7 (ROK_of k7) (i7 (31, 1, 0) (by decide +kernel))
  have S7' : SHP L 96 p' := (q_X7_init_232 (X := fun _ => 0) (d := 108) (by omega) (Nat.le_refl 96) (d1 := 0) S7 r7).2
  have k7' : p'.1 = KK7 L := f7.1.trans k7
  obtain ⟨q, e8, k8, S8, i8, lo8⟩ := start8 L (fun v0 h => @ite _ (v0 = 96 ∧ ∃ L, SHP L 125 h) (Classical.propDecidable _) (g_X8_init_1456 4000 h) none) k7' S7'
  rw [if_pos ⟨rfl, L, S8⟩] at e8
  obtain ⟨q', r8, tR, q10, q13, f8⟩ := first8 (h := q) (fun i hi => i8 _ (IL8_b i hi)) (i8 (96, 13, 0) (by decide +kernel)) (fun k hk => i8 _ (IL8_c k hk))
  have S8' : SHP L 125 q' := (q_X8_init_1456 (X := fun _ => 0) (d := 108) (by omega) (Nat.le_refl 125) S8 r8).2
  have k8' : q'.1 = KK8 L := f8.1.trans k8
  have lo : ∀ a k, a < 96 → gI q' a k = gI p' a k := fun a k ha => by
    rw [f8.i (by unfold SC8 SRt SRd SMc; omega)]; exact (lo8 a k ha).1
  have g7 : ∀ a k v, (a, k, v) ∈ IL7 → a < 96 → ¬ SC7 a k → gI q' a k = v := fun a k v hm ha hn => by
    rw [lo a k ha, f7.i hn]; exact i7 _ hm
  have g8 : ∀ a k v, (a, k, v) ∈ IL8 → ¬ SC8 a k → gI q' a k = v := fun a k v hm hn => by
    rw [f8.i hn]; exact i8 _ hm
  refine ⟨q', ⟨fun k hk => ?_, ?_, ?_, ?_, ?_, ?_, ?_, fun s hs => ?_, ?_⟩, g8 96 5 0 (by decide +kernel) (by unfold SC8 SRt SRd SMc; omega), fun X => ?_⟩
  · rw [g7 18 k _ (IL7_a k hk).1 (by omega) (by unfold SC7 SCt SCd; omega), g7 19 k _ (IL7_a k hk).2 (by omega) (by unfold SC7 SCt SCd; omega), g8 97 k _ (IL8_a k hk).1 (by unfold SC8 SRt SRd SMc; omega), g8 98 k _ (IL8_a k hk).2 (by unfold SC8 SRt SRd SMc; omega)]
    decide
  · unfold RTa
    rw [g7 20 0 5 (by decide +kernel) (by omega) (by unfold SC7 SCt SCd; omega), g7 20 1 2 (by decide +kernel) (by omega) (by unfold SC7 SCt SCd; omega), g7 20 2 5 (by decide +kernel) (by omega) (by unfold SC7 SCt SCd; omega), g8 96 2 5 (by decide +kernel) (by unfold SC8 SRt SRd SMc; omega), g8 96 3 2 (by decide +kernel) (by unfold SC8 SRt SRd SMc; omega), g8 96 4 5 (by decide +kernel) (by unfold SC8 SRt SRd SMc; omega)]
    decide
  · unfold RTc
    rw [g7 17 3 0 (by decide +kernel) (by omega) (by unfold SC7 SCt SCd; omega), g7 16 13 1 (by decide +kernel) (by omega) (by unfold SC7 SCt SCd; omega), g8 96 14 0 (by decide +kernel) (by unfold SC8 SRt SRd SMc; omega), q13]
    decide
  · unfold RIm
    rw [g7 16 14 0 (by decide +kernel) (by omega) (by unfold SC7 SCt SCd; omega), g8 96 15 0 (by decide +kernel) (by unfold SC8 SRt SRd SMc; omega)]
    exact ⟨rfl, Or.inl rfl⟩
  · unfold RSt
    rw [g7 16 12 0 (by decide +kernel) (by omega) (by unfold SC7 SCt SCd; omega), g8 96 5 0 (by decide +kernel) (by unfold SC8 SRt SRd SMc; omega)]
    refine ⟨rfl, by decide, by decide, fun k hk hl => ?_⟩
    have := (iN0 (k := k) (n := 161) (by omega) (by decide)).1
    lia
  · unfold RTp
    rw [lo 31 1 (by omega), q31, q10]
    refine ⟨rfl, by decide, by decide, fun k hk hl => ?_⟩
    have := (iN0 (k := k) (n := 161) (by omega) (by decide)).1
    lia
  · intro t ht hl
    rw [q13, show (1 : Int32) = iN 1 from rfl, iN_lt (by omega) (by omega)] at hl
    obtain rfl : t = 0 := by omega
    exact ⟨T0, oT, TxC_c (fun a k z => lo a k (by omega)) tC, tR⟩
  · rw [g7 (72 + 2 * s) 1 (-1) (IL_s s hs).1 (by omega) (by unfold SC7 SCt SCd; omega), g8 107 s (-1) (IL_s s hs).2 (by unfold SC8 SRt SRd SMc; omega)]
    exact ⟨rfl, Or.inl rfl⟩
  · exact ⟨k8', g8 96 45 0 (by decide +kernel) (by unfold SC8 SRt SRd SMc; omega), fun k hk => g8 111 k _ (IL8_c k hk) (by unfold SC8 SRt SRd SMc; omega)⟩
  · have l7 : p'.1.length = 96 := by rw [k7']; rfl
    have ok7 : okO (hnew (h00 L) (7, nFf 7)) 16 7 := rfl
    have ok8 : okO (hnew p' (8, nFf 8)) 96 8 := by
      show (p'.1 ++ [(8, nFf 8)]).getD 96 (99, 0) = (8, nFf 8)
      rw [k7']; rfl
    have w7 : w_X7_init 4000 16 (hnew (h00 L) (7, nFf 7)) = some p' := e7.trans r7
    have w8 : w_X8_init 4000 96 (hnew p' (8, nFf 8)) = some q' := e8.trans r8
    unfold w_law f_L_law_0
    rw [show (h00 L).1.length = 16 from rfl]
    unfold f_L_law_3
    rw [if_pos ok7, w7, Option.bind_some, l7]
    unfold f_L_law_11
    rw [if_pos ok8, w8, Option.bind_some]
    exact if_pos ⟨rfl, rfl, S8'⟩
