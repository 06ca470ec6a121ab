/-! THE LAW's step (p1) -/
theorem pr_drawn0 {L : Nat} {h : Hp} (R : Rel L h) (h05 : gI h 96 5 = 0) (a b d c : Int32) : Pair L (g_X7_drawn 4000 a b d c) (g_X8_drawn 4000 a b d c) h := by
  obtain ⟨σ, T, M, Ln, w, wm, t, E⟩ := EN_of R
  by_cases hn : 0 ≤ a ∧ a ≤ σ.1
  case neg => exact Pair.pure (-5) R (by simp [g_X7_drawn_0, g_X7_drawn, cAre E, if_neg hn]) (by simp [g_X8_drawn_64, g_X8_drawn_54, g_X8_drawn_49, g_X8_drawn_0, g_X8_drawn, rAre E, if_neg hn])
  by_cases hb : 0 ≤ b ∧ b ≤ 11
  case neg => exact Pair.pure (-7) R (by simp [g_X7_drawn_0, g_X7_drawn, cAre E, if_pos hn, wC, if_neg hb]) (by simp [g_X8_drawn_64, g_X8_drawn_54, g_X8_drawn_49, g_X8_drawn_0, g_X8_drawn, rAre E, if_pos hn, g_X8_isCell_0, g_X8_isCell, wI, if_neg hb])
  by_cases hd : 0 ≤ d ∧ d ≤ 99999
  case neg => exact Pair.pure (-7) R (by simp [g_X7_drawn_0, g_X7_drawn, cAre E, if_pos hn, wC, if_pos hb, if_neg hd]) (by simp [g_X8_drawn_64, g_X8_drawn_54, g_X8_drawn_49, g_X8_drawn_0, g_X8_drawn, rAre E, if_pos hn, g_X8_isCell_0, g_X8_isCell, wI, if_pos hb, if_neg hd])
  by_cases hc : 0 ≤ c ∧ c ≤ 1
  case neg => exact Pair.pure (-7) R (by simp [g_X7_drawn_0, g_X7_drawn, cAre E, if_pos hn, wC, if_pos hb, if_pos hd, if_neg hc]) (by simp [g_X8_drawn_64, g_X8_drawn_54, g_X8_drawn_49, g_X8_drawn_0, g_X8_drawn, rAre E, if_pos hn, g_X8_isCell_0, g_X8_isCell, wI, if_pos hb, if_pos hd, if_neg hc])
  obtain ⟨N, hN, rfl, hN2⟩ := nOf E.1 hn
  obtain ⟨j, hj, rfl⟩ := iex (n := 12) (by decide) hb.1 (by show b < 12; lia)
  have H1 := EN_ok E 1 (Int32.toInt64 d + 1) (-1) hN hN2
  have H2 := EN_ok E 2 (Int32.toInt64 d + 1) (-1) hN hN2
  obtain ⟨a1, a2, a3, a4, a5, a6, a7, a8, a9, a10, a11, a12, a13, a14, a15, a16⟩ := id E
  obtain ⟨h1, e1, c1, -, -, f1⟩ := c_go (T := T) (by omega) a1 (fun c hc => by have := a14 c hc; omega) a15 a16 a8 a5 a4 a6 a2 (-1) d 1 (Or.inr ⟨rfl, by have := hd.1; lia⟩) hN hN2
  have f1' : Fr SX h h1 := f1.mono (fun a k z => SM_SX z)
  have E1 := EN_fr f1' E
  obtain ⟨h2, q2⟩ : ∃ h2, h2 = hsi (hsl h1 96 46 (Int32.toInt64 d + 1)) 96 45 1 := ⟨_, rfl⟩
  have f2 : Fr (fun a k => a = 96 ∧ (k = 45 ∨ k = 46)) h1 h2 := by rw [q2]; exact ((Fr.rfl' _ _).sl _ (by omega)).si _ (by omega)
  obtain ⟨b1, b2, b3, b4, b5, b6, b7, b8, b9, b10, b11, b12, b13, b14, b15, b16⟩ := id E1
  have E2 : RE (2, T, w, wm) h2 := by
    refine ⟨Or.inr ⟨rfl, by rw [q2, gI_hsi, if_pos ⟨rfl, rfl⟩]⟩, ?_, ?_, b4, t, b5, ?_, TxR_c (fun a k q => f2.i (by omega)) b4 b7⟩
    · rw [f2.i (by omega)]; exact b10
    · rw [f2.i (by omega)]; exact b11
    · rw [f2.i (by omega)]; exact b12
  obtain ⟨h3, e3, c3, -, f3⟩ := r_go (e := (2, T, w, wm)) (M := M) (Ln := Ln) (lot := Int32.toInt64 d + 1) b1 (fun c hc => by have := b14 c hc; omega) b15 b16 E2 (fun z => by rw [q2, gL_hsi, gL_hsl, if_pos ⟨rfl, rfl⟩]) (RS_fr f2 (fun a k => by unfold Srs; omega) b3) (fun i hi => by rw [f2.i (by omega), f2.i (by omega)]; exact b9 i hi) (-1) hN hN2
  have e3' := r_goes e3
  obtain ⟨h4, q4⟩ : ∃ h4, h4 = hsi h3 96 45 0 := ⟨_, rfl⟩
  have c4 : RR (sGo (2, T, w, wm) σ M Ln (Int32.toInt64 d + 1) (-1) N) h4 := by
    rw [q4]; exact RR_fr ((Fr.rfl' (fun a k => a = 96 ∧ k = 45) _).si _ ⟨rfl, rfl⟩) (fun a k => by omega) c3
  have f4 : Fr SX h1 h4 := by
    refine ⟨?_, fun a k q => ?_⟩
    · rw [q4]; exact f3.1.trans f2.1
    · by_cases z : a = 96 ∧ k = 45
      · obtain ⟨rfl, rfl⟩ := z
        refine ⟨?_, ?_, ?_⟩
        · rw [q4, gI_hsi, if_pos ⟨rfl, rfl⟩]; exact b13.symm
        · rw [q4, gL_hsi, f3.l (by unfold SR; omega), q2, gL_hsi, gL_hsl, if_neg (by omega)]
        · rw [q4, gR_hsi, f3.r (by unfold SR; omega), q2, gR_hsi, gR_hsl]
      · have n3 : ¬ SR a k := fun y => q (SR_SX y)
        have n2 : ¬ (a = 96 ∧ (k = 45 ∨ k = 46)) := fun y => q (by unfold SX; omega)
        refine ⟨?_, ?_, ?_⟩
        · rw [q4, gI_hsi, if_neg z, f3.i n3, f2.i n2]
        · rw [q4, gL_hsi, f3.l n3, f2.l n2]
        · rw [q4, gR_hsi, f3.r n3, f2.r n2]
  have s1 := c_spread c1 H1
  have s2 := c_thick c1 H1 hj
  have s3 := r_spread c4 H2
  have s4 := r_thick c4 H2 hj
  rw [q2] at e3'
  rw [q4] at s3 s4
  have N0 : N = 0 := by
    have z := hn.2
    rw [← a3.1, h05, show (0 : Int32) = iN 0 from rfl, iN_le (by omega) (by omega)] at z
    omega
  have es : sGo (1, T, w, wm) σ M Ln (Int32.toInt64 d + 1) (-1) N = sGo (2, T, w, wm) σ M Ln (Int32.toInt64 d + 1) (-1) N := by rw [N0]; rfl
  generalize (4000 : Nat) = n at *
  refine ⟨if c ≠ 0 then spr (sGo (1, T, w, wm) σ M Ln (Int32.toInt64 d + 1) (-1) N) else thk (sGo (1, T, w, wm) σ M Ln (Int32.toInt64 d + 1) (-1) N) j, h1, h4, ?_, ?_, Rel_fr (f1'.tr f4) R⟩
  · simp only [g_X7_drawn_0, g_X7_drawn, cAre E, if_pos hn, wC, if_pos hb, if_pos hd, if_pos hc, Option.bind_some, ne10, eq10, ne_eq, not_false_eq_true, if_true, if_false, e1, s1, s2]
    by_cases z : c = 0
    · simp [z]
    · simp [z]
  · rw [es]
    simp only [g_X8_drawn_64, g_X8_drawn_54, g_X8_drawn_49, g_X8_drawn_0, g_X8_drawn, g_X8_isCell_0, g_X8_isCell, rAre E1, if_pos hn, wI, if_pos hb, if_pos hd, if_pos hc, Option.bind_some, ne10, eq10, ne_eq, not_false_eq_true, if_true, if_false, true_or, or_true, e3', s3, s4, q4]
    by_cases z : c = 0
    · simp [z]
    · simp [z]
theorem law_step {X : Nat → Int32} {m : Nat} {h : Hp} (R : Rel 6 h) (h0 : gI h 96 5 = 0) : ∃ h', g_L_law_18 X 6 4000 (m + 2) 0 h = some (1, h') ∧ Rel 6 h' := by
  have fin : ∀ h2, Rel 6 h2 → ∃ h', g_L_law_1773 X 6 4000 (g_L_law_18 X 6 4000 (m + 1)) 0 h2 = some (1, h') ∧ Rel 6 h' := by
    intro h2 R2
    unfold g_L_law_1773
    rw [g_L_law_18, if_pos (by decide)]
    exact ⟨h2, rfl, R2⟩
  rw [g_L_law_18, if_neg (by decide), if_pos (by decide)]
  by_cases c0 : ((X (ix 0)) &&& 63) = 0
  · rw [if_pos c0, if_pos (by decide), if_pos (by decide), if_pos (by decide)]
    obtain ⟨v, h1, h2, e1, e2, R2⟩ := pr_roll R (X (ix (0 + 1))) (X (ix (0 + 2))) (X (ix (0 + 3)))
    rw [e1, Option.bind_some, e2, Option.bind_some, if_pos rfl]
    exact fin h2 R2
  rw [if_neg c0]
  by_cases c1 : ((X (ix 0)) &&& 63) = 1
  · rw [if_pos c1, if_pos (by decide), if_pos (by decide)]
    obtain ⟨v, h1, h2, e1, e2, R2⟩ := pr_set R (X (ix (0 + 1))) (X (ix (0 + 2)))
    rw [e1, Option.bind_some, e2, Option.bind_some, if_pos rfl]
    exact fin h2 R2
  rw [if_neg c1]
  by_cases c2 : ((X (ix 0)) &&& 63) = 2
  · rw [if_pos c2, if_pos (by decide)]
    obtain ⟨v, h1, h2, e1, e2, R2⟩ := pr_count R (X (ix (0 + 1)))
    rw [e1, Option.bind_some, e2, Option.bind_some, if_pos rfl]
    exact fin h2 R2
  rw [if_neg c2]
  by_cases c3 : ((X (ix 0)) &&& 63) = 3
  · rw [if_pos c3, if_pos (by decide), if_pos (by decide), if_pos (by decide)]
    obtain ⟨v, h1, h2, e1, e2, R2⟩ := pr_feed R (((Int32.toInt64 (X (ix (0 + 1)))) <<< (Int32.toInt64 32 &&& 63)) ||| ((Int32.toInt64 (X (ix (0 + 2)))) &&& 4294967295)) (X (ix (0 + 3)))
    rw [e1, Option.bind_some, e2, Option.bind_some, if_pos rfl]
    exact fin h2 R2
  rw [if_neg c3]
  by_cases c4 : ((X (ix 0)) &&& 63) = 4
  · rw [if_pos c4]
    obtain ⟨v, h1, h2, e1, e2, R2⟩ := pr_text R 
    rw [e1, Option.bind_some, e2, Option.bind_some, if_pos rfl]
    exact fin h2 R2
  rw [if_neg c4]
  by_cases c5 : ((X (ix 0)) &&& 63) = 5
  · rw [if_pos c5, if_pos (by decide)]
    obtain ⟨v, h1, h2, e1, e2, R2⟩ := pr_force R (X (ix (0 + 1)))
    rw [e1, Option.bind_some, e2, Option.bind_some, if_pos rfl]
    exact fin h2 R2
  rw [if_neg c5]
  by_cases c6 : ((X (ix 0)) &&& 63) = 6
  · rw [if_pos c6, if_pos (by decide), if_pos (by decide), if_pos (by decide)]
    obtain ⟨v, h1, h2, e1, e2, R2⟩ := pr_step R (X (ix (0 + 1))) (X (ix (0 + 2))) (X (ix (0 + 3)))
    rw [e1, Option.bind_some, e2, Option.bind_some, if_pos rfl]
    exact fin h2 R2
  rw [if_neg c6]
  by_cases c7 : ((X (ix 0)) &&& 63) = 7
  · rw [if_pos c7]
    obtain ⟨v, h1, h2, e1, e2, R2⟩ := pr_forget R 
    rw [e1, Option.bind_some, e2, Option.bind_some, if_pos rfl]
    exact fin h2 R2
  rw [if_neg c7]
  by_cases c8 : ((X (ix 0)) &&& 63) = 8
  · rw [if_pos c8, if_pos (by decide), if_pos (by decide)]
    obtain ⟨v, h1, h2, e1, e2, R2⟩ := pr_stepTold R (X (ix (0 + 1))) (X (ix (0 + 2)))
    rw [e1, Option.bind_some, e2, Option.bind_some, if_pos rfl]
    exact fin h2 R2
  rw [if_neg c8]
  by_cases c9 : ((X (ix 0)) &&& 63) = 9
  · rw [if_pos c9, if_pos (by decide), if_pos (by decide), if_pos (by decide)]
    obtain ⟨v, h1, h2, e1, e2, R2⟩ := pr_rope R (X (ix (0 + 1))) (X (ix (0 + 2))) (X (ix (0 + 3)))
    rw [e1, Option.bind_some, e2, Option.bind_some, if_pos rfl]
    exact fin h2 R2
  rw [if_neg c9]
  by_cases c10 : ((X (ix 0)) &&& 63) = 10
  · rw [if_pos c10, if_pos (by decide), if_pos (by decide)]
    obtain ⟨v, h1, h2, e1, e2, R2⟩ := pr_state R (X (ix (0 + 1))) (X (ix (0 + 2)))
    rw [e1, Option.bind_some, e2, Option.bind_some, if_pos rfl]
    exact fin h2 R2
  rw [if_neg c10]
  by_cases c11 : ((X (ix 0)) &&& 63) = 11
  · rw [if_pos c11, if_pos (by decide), if_pos (by decide)]
    obtain ⟨v, h1, h2, e1, e2, R2⟩ := pr_whole R (X (ix (0 + 1))) (X (ix (0 + 2)))
    rw [e1, Option.bind_some, e2, Option.bind_some, if_pos rfl]
    exact fin h2 R2
  rw [if_neg c11]
  by_cases c12 : ((X (ix 0)) &&& 63) = 12
  · rw [if_pos c12, if_pos (by decide)]
    obtain ⟨v, h1, h2, e1, e2, R2⟩ := pr_stop R (X (ix (0 + 1)))
    rw [e1, Option.bind_some, e2, Option.bind_some, if_pos rfl]
    exact fin h2 R2
  rw [if_neg c12]
  by_cases c13 : ((X (ix 0)) &&& 63) = 13
  · rw [if_pos c13]
    obtain ⟨v, h1, h2, e1, e2, R2⟩ := pr_worst R 
    rw [e1, Option.bind_some, e2, Option.bind_some, if_pos rfl]
    exact fin h2 R2
  rw [if_neg c13]
  by_cases c14 : ((X (ix 0)) &&& 63) = 14
  · rw [if_pos c14, if_pos (by decide), if_pos (by decide)]
    obtain ⟨v, h1, h2, e1, e2, R2⟩ := pr_window R (X (ix (0 + 1))) (X (ix (0 + 2)))
    rw [e1, Option.bind_some, e2, Option.bind_some, if_pos rfl]
    exact fin h2 R2
  rw [if_neg c14]
  by_cases c15 : ((X (ix 0)) &&& 63) = 15
  · rw [if_pos c15, if_pos (by decide), if_pos (by decide), if_pos (by decide)]
    obtain ⟨v, h1, h2, e1, e2, R2⟩ := pr_pace R (X (ix (0 + 1))) (X (ix (0 + 2))) (X (ix (0 + 3)))
    rw [e1, Option.bind_some, e2, Option.bind_some, if_pos rfl]
    exact fin h2 R2
  rw [if_neg c15]
  by_cases c16 : ((X (ix 0)) &&& 63) = 16
  · rw [if_pos c16, if_pos (by decide), if_pos (by decide), if_pos (by decide)]
    obtain ⟨v, h1, h2, e1, e2, R2⟩ := pr_rest R (X (ix (0 + 1))) (X (ix (0 + 2))) (X (ix (0 + 3)))
    rw [e1, Option.bind_some, e2, Option.bind_some, if_pos rfl]
    exact fin h2 R2
  rw [if_neg c16]
  by_cases c17 : ((X (ix 0)) &&& 63) = 17
  · rw [if_pos c17, if_pos (by decide), if_pos (by decide)]
    obtain ⟨v, h1, h2, e1, e2, R2⟩ := pr_dust R (X (ix (0 + 1))) (X (ix (0 + 2)))
    rw [e1, Option.bind_some, e2, Option.bind_some, if_pos rfl]
    exact fin h2 R2
  rw [if_neg c17]
  by_cases c18 : ((X (ix 0)) &&& 63) = 18
  · rw [if_pos c18, if_pos (by decide), if_pos (by decide), if_pos (by decide)]
    obtain ⟨v, h1, h2, e1, e2, R2⟩ := pr_doublings R (X (ix (0 + 1))) (X (ix (0 + 2))) (X (ix (0 + 3)))
    rw [e1, Option.bind_some, e2, Option.bind_some, if_pos rfl]
    exact fin h2 R2
  rw [if_neg c18]
  by_cases c19 : ((X (ix 0)) &&& 63) = 19
  · rw [if_pos c19, if_pos (by decide), if_pos (by decide), if_pos (by decide)]
    obtain ⟨v, h1, h2, e1, e2, R2⟩ := pr_judge R (X (ix (0 + 1))) (X (ix (0 + 2))) (X (ix (0 + 3)))
    rw [e1, Option.bind_some, e2, Option.bind_some, if_pos rfl]
    exact fin h2 R2
  rw [if_neg c19]
  by_cases c20 : ((X (ix 0)) &&& 63) = 20
  · rw [if_pos c20, if_pos (by decide), if_pos (by decide)]
    obtain ⟨v, h1, h2, e1, e2, R2⟩ := pr_film R (X (ix (0 + 1))) (X (ix (0 + 2)))
    rw [e1, Option.bind_some, e2, Option.bind_some, if_pos rfl]
    exact fin h2 R2
  rw [if_neg c20]
  by_cases c21 : ((X (ix 0)) &&& 63) = 21
  · rw [if_pos c21, if_pos (by decide), if_pos (by decide), if_pos (by decide)]
    obtain ⟨v, h1, h2, e1, e2, R2⟩ := pr_serves R (X (ix (0 + 1))) (X (ix (0 + 2))) (X (ix (0 + 3)))
    rw [e1, Option.bind_some, e2, Option.bind_some, if_pos rfl]
    exact fin h2 R2
  rw [if_neg c21]
  by_cases c22 : ((X (ix 0)) &&& 63) = 22
  · rw [if_pos c22, if_pos (by decide), if_pos (by decide)]
    obtain ⟨v, h1, h2, e1, e2, R2⟩ := pr_which R (X (ix (0 + 1))) (X (ix (0 + 2)))
    rw [e1, Option.bind_some, e2, Option.bind_some, if_pos rfl]
    exact fin h2 R2
  rw [if_neg c22]
  by_cases c23 : ((X (ix 0)) &&& 63) = 23
  · rw [if_pos c23, if_pos (by decide), if_pos (by decide)]
    obtain ⟨v, h1, h2, e1, e2, R2⟩ := pr_fault R (X (ix (0 + 1))) (X (ix (0 + 2)))
    rw [e1, Option.bind_some, e2, Option.bind_some, if_pos rfl]
    exact fin h2 R2
  rw [if_neg c23]
  by_cases c24 : ((X (ix 0)) &&& 63) = 24
  · rw [if_pos c24, if_pos (by decide), if_pos (by decide)]
    obtain ⟨v, h1, h2, e1, e2, R2⟩ := pr_uneven R (X (ix (0 + 1))) (X (ix (0 + 2)))
    rw [e1, Option.bind_some, e2, Option.bind_some, if_pos rfl]
    exact fin h2 R2
  rw [if_neg c24]
  by_cases c25 : ((X (ix 0)) &&& 63) = 25
  · rw [if_pos c25, if_pos (by decide), if_pos (by decide), if_pos (by decide)]
    obtain ⟨v, h1, h2, e1, e2, R2⟩ := pr_cooks R (X (ix (0 + 1))) (X (ix (0 + 2))) (X (ix (0 + 3)))
    rw [e1, Option.bind_some, e2, Option.bind_some, if_pos rfl]
    exact fin h2 R2
  rw [if_neg c25]
  by_cases c26 : ((X (ix 0)) &&& 63) = 26
  · rw [if_pos c26, if_pos (by decide)]
    obtain ⟨v, h1, h2, e1, e2, R2⟩ := pr_pot R (X (ix (0 + 1)))
    rw [e1, Option.bind_some, e2, Option.bind_some, if_pos rfl]
    exact fin h2 R2
  rw [if_neg c26]
  by_cases c27 : ((X (ix 0)) &&& 63) = 27
  · rw [if_pos c27, if_pos (by decide), if_pos (by decide)]
    obtain ⟨v, h1, h2, e1, e2, R2⟩ := pr_place R (X (ix (0 + 1))) (X (ix (0 + 2)))
    rw [e1, Option.bind_some, e2, Option.bind_some, if_pos rfl]
    exact fin h2 R2
  rw [if_neg c27]
  by_cases c28 : ((X (ix 0)) &&& 63) = 28
  · rw [if_pos c28, if_pos (by decide), if_pos (by decide), if_pos (by decide)]
    obtain ⟨v, h1, h2, e1, e2, R2⟩ := pr_apart R (X (ix (0 + 1))) (X (ix (0 + 2))) (X (ix (0 + 3)))
    rw [e1, Option.bind_some, e2, Option.bind_some, if_pos rfl]
    exact fin h2 R2
  rw [if_neg c28]
  by_cases c29 : ((X (ix 0)) &&& 63) = 29
  · rw [if_pos c29, if_pos (by decide), if_pos (by decide), if_pos (by decide)]
    obtain ⟨v, h1, h2, e1, e2, R2⟩ := pr_parted R (X (ix (0 + 1))) (X (ix (0 + 2))) (X (ix (0 + 3)))
    rw [e1, Option.bind_some, e2, Option.bind_some, if_pos rfl]
    exact fin h2 R2
  rw [if_neg c29]
  by_cases c30 : ((X (ix 0)) &&& 63) = 30
  · rw [if_pos c30, if_pos (by decide)]
    obtain ⟨v, h1, h2, e1, e2, R2⟩ := pr_round R (X (ix (0 + 1)))
    rw [e1, Option.bind_some, e2, Option.bind_some, if_pos rfl]
    exact fin h2 R2
  rw [if_neg c30]
  by_cases c31 : ((X (ix 0)) &&& 63) = 31
  · rw [if_pos c31, if_pos (by decide), if_pos (by decide), if_pos (by decide)]
    obtain ⟨v, h1, h2, e1, e2, R2⟩ := pr_colours R (X (ix (0 + 1))) (X (ix (0 + 2))) (X (ix (0 + 3)))
    rw [e1, Option.bind_some, e2, Option.bind_some, if_pos rfl]
    exact fin h2 R2
  rw [if_neg c31]
  by_cases c32 : ((X (ix 0)) &&& 63) = 32
  · rw [if_pos c32, if_pos (by decide), if_pos (by decide), if_pos (by decide)]
    obtain ⟨v, h1, h2, e1, e2, R2⟩ := pr_thin R (X (ix (0 + 1))) (X (ix (0 + 2))) (X (ix (0 + 3)))
    rw [e1, Option.bind_some, e2, Option.bind_some, if_pos rfl]
    exact fin h2 R2
  rw [if_neg c32]
  by_cases c33 : ((X (ix 0)) &&& 63) = 33
  · rw [if_pos c33, if_pos (by decide), if_pos (by decide), if_pos (by decide), if_pos (by decide)]
    obtain ⟨v, h1, h2, e1, e2, R2⟩ := pr_odds R (X (ix (0 + 1))) (X (ix (0 + 2))) (X (ix (0 + 3))) (X (ix (0 + 4)))
    rw [e1, Option.bind_some, e2, Option.bind_some, if_pos rfl]
    exact fin h2 R2
  rw [if_neg c33]
  by_cases c34 : ((X (ix 0)) &&& 63) = 34
  · rw [if_pos c34, if_pos (by decide), if_pos (by decide), if_pos (by decide)]
    obtain ⟨v, h1, h2, e1, e2, R2⟩ := pr_record R (X (ix (0 + 1))) (X (ix (0 + 2))) (X (ix (0 + 3)))
    rw [e1, Option.bind_some, e2, Option.bind_some, if_pos rfl]
    exact fin h2 R2
  rw [if_neg c34]
  by_cases c35 : ((X (ix 0)) &&& 63) = 35
  · rw [if_pos c35, if_pos (by decide), if_pos (by decide), if_pos (by decide), if_pos (by decide)]
    obtain ⟨v, h1, h2, e1, e2, R2⟩ := pr_drawn0 R h0 (X (ix (0 + 1))) (X (ix (0 + 2))) (X (ix (0 + 3))) (X (ix (0 + 4)))
    rw [e1, Option.bind_some, e2, Option.bind_some, if_pos rfl]
    exact fin h2 R2
  rw [if_neg c35]
  by_cases c36 : ((X (ix 0)) &&& 63) = 36
  · rw [if_pos c36]
    obtain ⟨v, h1, h2, e1, e2, R2⟩ := pr_image R 
    rw [e1, Option.bind_some, e2, Option.bind_some, if_pos rfl]
    exact fin h2 R2
  rw [if_neg c36]
  by_cases c37 : ((X (ix 0)) &&& 63) = 37
  · rw [if_pos c37]
    obtain ⟨v, h1, h2, e1, e2, R2⟩ := pr_back R 
    rw [e1, Option.bind_some, e2, Option.bind_some, if_pos rfl]
    exact fin h2 R2
  rw [if_neg c37]
  by_cases c38 : ((X (ix 0)) &&& 63) = 38
  · rw [if_pos c38, if_pos (by decide), if_pos (by decide), if_pos (by decide)]
    obtain ⟨v, h1, h2, e1, e2, R2⟩ := pr_sheet R (X (ix (0 + 1))) (X (ix (0 + 2))) (X (ix (0 + 3)))
    rw [e1, Option.bind_some, e2, Option.bind_some, if_pos rfl]
    exact fin h2 R2
  rw [if_neg c38]
  by_cases c39 : ((X (ix 0)) &&& 63) = 39
  · rw [if_pos c39, if_pos (by decide), if_pos (by decide), if_pos (by decide)]
    obtain ⟨v, h1, h2, e1, e2, R2⟩ := pr_cell R (X (ix (0 + 1))) (X (ix (0 + 2))) (X (ix (0 + 3)))
    rw [e1, Option.bind_some, e2, Option.bind_some, if_pos rfl]
    exact fin h2 R2
  rw [if_neg c39]
  by_cases c40 : ((X (ix 0)) &&& 63) = 40
  · rw [if_pos c40, if_pos (by decide), if_pos (by decide), if_pos (by decide), if_pos (by decide), if_pos (by decide)]
    obtain ⟨v, h1, h2, e1, e2, R2⟩ := pr_copy R (X (ix (0 + 1))) (X (ix (0 + 2))) (X (ix (0 + 3))) (X (ix (0 + 4))) (X (ix (0 + 5)))
    rw [e1, Option.bind_some, e2, Option.bind_some, if_pos rfl]
    exact fin h2 R2
  rw [if_neg c40]
  by_cases c41 : ((X (ix 0)) &&& 63) = 41
  · rw [if_pos c41, if_pos (by decide), if_pos (by decide), if_pos (by decide), if_pos (by decide)]
    obtain ⟨v, h1, h2, e1, e2, R2⟩ := pr_stepsBy R (X (ix (0 + 1))) (X (ix (0 + 2))) (X (ix (0 + 3))) (X (ix (0 + 4)))
    rw [e1, Option.bind_some, e2, Option.bind_some, if_pos rfl]
    exact fin h2 R2
  rw [if_neg c41]
  by_cases c42 : ((X (ix 0)) &&& 63) = 42
  · rw [if_pos c42, if_pos (by decide), if_pos (by decide)]
    obtain ⟨v, h1, h2, e1, e2, R2⟩ := pr_taken R (X (ix (0 + 1))) (X (ix (0 + 2)))
    rw [e1, Option.bind_some, e2, Option.bind_some, if_pos rfl]
    exact fin h2 R2
  rw [if_neg c42]
  exact fin h R
