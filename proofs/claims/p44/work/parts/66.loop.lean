/-! THE LAW's loop: every call keeps the relation; what is compared is alike -/
theorem law_loop {X : Nat → Int32} {L : Nat} (hL : L ≤ 3072) : ∀ (k m i : Nat) (h : Hp), i ≤ L → L < 6 * k + i → k ≤ m → Rel L h → ∃ h', g_L_law_18 X L 4000 m (iN i) h = some (1, h') ∧ Rel L h' := by
  intro k
  induction k with
  | zero => intro m i h h1 h2; omega
  | succ k ih =>
  intro m i h h1 h2 h3 R
  obtain ⟨m, rfl⟩ : ∃ z, m = z + 1 := ⟨m - 1, by omega⟩
  have hLt : (Int32.ofNat L).toInt = (L : Int) := Int32.toInt_ofNat_of_lt (by omega)
  have t6 : (6 : Int32).toInt = 6 := by decide
  have hs : (Int32.ofNat L - 6).toInt = (L : Int) - 6 := by rw [ts (by rw [hLt, t6]; omega) (by rw [hLt, t6]; omega), hLt, t6]
  by_cases hc : Int32.ofNat L - 6 < iN i
  · rw [g_L_law_18, if_pos hc]; exact ⟨h, rfl, R⟩
  have h6 : i + 6 ≤ L := by
    rw [l32, hs, iN_t (by omega)] at hc; omega
  have b0 : inb (iN i) L = true := iN_inb (by omega) (by omega)
  have a1 : iN i + 1 = iN (i + 1) := by
    rw [e32, ta (by rw [iN_t (by omega), show (1 : Int32).toInt = 1 from by decide]; omega) (by rw [iN_t (by omega), show (1 : Int32).toInt = 1 from by decide]; omega), iN_t (by omega), iN_t (by omega), show (1 : Int32).toInt = 1 from by decide]; omega
  have b1 : inb (iN i + 1) L = true := by rw [a1]; exact iN_inb (by omega) (by omega)
  have a2 : iN i + 2 = iN (i + 2) := by
    rw [e32, ta (by rw [iN_t (by omega), show (2 : Int32).toInt = 2 from by decide]; omega) (by rw [iN_t (by omega), show (2 : Int32).toInt = 2 from by decide]; omega), iN_t (by omega), iN_t (by omega), show (2 : Int32).toInt = 2 from by decide]; omega
  have b2 : inb (iN i + 2) L = true := by rw [a2]; exact iN_inb (by omega) (by omega)
  have a3 : iN i + 3 = iN (i + 3) := by
    rw [e32, ta (by rw [iN_t (by omega), show (3 : Int32).toInt = 3 from by decide]; omega) (by rw [iN_t (by omega), show (3 : Int32).toInt = 3 from by decide]; omega), iN_t (by omega), iN_t (by omega), show (3 : Int32).toInt = 3 from by decide]; omega
  have b3 : inb (iN i + 3) L = true := by rw [a3]; exact iN_inb (by omega) (by omega)
  have a4 : iN i + 4 = iN (i + 4) := by
    rw [e32, ta (by rw [iN_t (by omega), show (4 : Int32).toInt = 4 from by decide]; omega) (by rw [iN_t (by omega), show (4 : Int32).toInt = 4 from by decide]; omega), iN_t (by omega), iN_t (by omega), show (4 : Int32).toInt = 4 from by decide]; omega
  have b4 : inb (iN i + 4) L = true := by rw [a4]; exact iN_inb (by omega) (by omega)
  have a5 : iN i + 5 = iN (i + 5) := by
    rw [e32, ta (by rw [iN_t (by omega), show (5 : Int32).toInt = 5 from by decide]; omega) (by rw [iN_t (by omega), show (5 : Int32).toInt = 5 from by decide]; omega), iN_t (by omega), iN_t (by omega), show (5 : Int32).toInt = 5 from by decide]; omega
  have b5 : inb (iN i + 5) L = true := by rw [a5]; exact iN_inb (by omega) (by omega)
  have a6 : iN i + 6 = iN (i + 6) := by
    rw [e32, ta (by rw [iN_t (by omega), show (6 : Int32).toInt = 6 from by decide]; omega) (by rw [iN_t (by omega), show (6 : Int32).toInt = 6 from by decide]; omega), iN_t (by omega), iN_t (by omega), show (6 : Int32).toInt = 6 from by decide]; omega
  have fin : ∀ h2, Rel L h2 → ∃ h', g_L_law_1769 X L 4000 (g_L_law_18 X L 4000 m) (iN i) h2 = some (1, h') ∧ Rel L h' := by
    intro h2 R2
    unfold g_L_law_1769
    rw [a6]
    exact ih m (i + 6) h2 (by omega) (by omega) (by omega) R2
  rw [g_L_law_18, if_neg hc, if_pos b0]
  by_cases c0 : ((X (ix (iN i))) &&& 63) = 0
  · rw [if_pos c0, if_pos b1, if_pos b2, if_pos b3]
    obtain ⟨v, w, h1, h2, e1, e2, R2⟩ := (pr_roll R (X (ix (iN i + 1))) (X (ix (iN i + 2))) (X (ix (iN i + 3)))).w
    rw [e1, Option.bind_some, e2, Option.bind_some]
    exact fin h2 R2
  rw [if_neg c0]
  by_cases c1 : ((X (ix (iN i))) &&& 63) = 1
  · rw [if_pos c1, if_pos b1, if_pos b2]
    obtain ⟨v, w, h1, h2, e1, e2, R2⟩ := (pr_set R (X (ix (iN i + 1))) (X (ix (iN i + 2)))).w
    rw [e1, Option.bind_some, e2, Option.bind_some]
    exact fin h2 R2
  rw [if_neg c1]
  by_cases c2 : ((X (ix (iN i))) &&& 63) = 2
  · rw [if_pos c2, if_pos b1]
    obtain ⟨v, w, h1, h2, e1, e2, R2⟩ := (pr_count R (X (ix (iN i + 1)))).w
    rw [e1, Option.bind_some, e2, Option.bind_some]
    exact fin h2 R2
  rw [if_neg c2]
  by_cases c3 : ((X (ix (iN i))) &&& 63) = 3
  · rw [if_pos c3, if_pos b1, if_pos b2, if_pos b3]
    obtain ⟨v, w, h1, h2, e1, e2, R2⟩ := (pr_feed R (((Int32.toInt64 (X (ix (iN i + 1)))) <<< (Int32.toInt64 32 &&& 63)) ||| ((Int32.toInt64 (X (ix (iN i + 2)))) &&& 4294967295)) (X (ix (iN i + 3)))).w
    rw [e1, Option.bind_some, e2, Option.bind_some]
    exact fin h2 R2
  rw [if_neg c3]
  by_cases c4 : ((X (ix (iN i))) &&& 63) = 4
  · rw [if_pos c4]
    obtain ⟨v, w, h1, h2, e1, e2, R2⟩ := (pr_text R ).w
    rw [e1, Option.bind_some, e2, Option.bind_some]
    exact fin h2 R2
  rw [if_neg c4]
  by_cases c5 : ((X (ix (iN i))) &&& 63) = 5
  · rw [if_pos c5, if_pos b1]
    obtain ⟨v, w, h1, h2, e1, e2, R2⟩ := (pr_force R (X (ix (iN i + 1)))).w
    rw [e1, Option.bind_some, e2, Option.bind_some]
    exact fin h2 R2
  rw [if_neg c5]
  by_cases c6 : ((X (ix (iN i))) &&& 63) = 6
  · rw [if_pos c6, if_pos b1, if_pos b2, if_pos b3]
    obtain ⟨v, w, h1, h2, e1, e2, R2⟩ := (pr_step R (X (ix (iN i + 1))) (X (ix (iN i + 2))) (X (ix (iN i + 3)))).w
    rw [e1, Option.bind_some, e2, Option.bind_some]
    exact fin h2 R2
  rw [if_neg c6]
  by_cases c7 : ((X (ix (iN i))) &&& 63) = 7
  · rw [if_pos c7]
    obtain ⟨v, w, h1, h2, e1, e2, R2⟩ := (pr_forget R ).w
    rw [e1, Option.bind_some, e2, Option.bind_some]
    exact fin h2 R2
  rw [if_neg c7]
  by_cases c8 : ((X (ix (iN i))) &&& 63) = 8
  · rw [if_pos c8, if_pos b1, if_pos b2]
    obtain ⟨v, w, h1, h2, e1, e2, R2⟩ := (pr_stepTold R (X (ix (iN i + 1))) (X (ix (iN i + 2)))).w
    rw [e1, Option.bind_some, e2, Option.bind_some]
    exact fin h2 R2
  rw [if_neg c8]
  by_cases c9 : ((X (ix (iN i))) &&& 63) = 9
  · rw [if_pos c9, if_pos b1, if_pos b2, if_pos b3]
    obtain ⟨v, w, h1, h2, e1, e2, R2⟩ := (pr_rope R (X (ix (iN i + 1))) (X (ix (iN i + 2))) (X (ix (iN i + 3)))).w
    rw [e1, Option.bind_some, e2, Option.bind_some]
    exact fin h2 R2
  rw [if_neg c9]
  by_cases c10 : ((X (ix (iN i))) &&& 63) = 10
  · rw [if_pos c10, if_pos b1, if_pos b2]
    obtain ⟨v, w, h1, h2, e1, e2, R2⟩ := (pr_state R (X (ix (iN i + 1))) (X (ix (iN i + 2)))).w
    rw [e1, Option.bind_some, e2, Option.bind_some]
    exact fin h2 R2
  rw [if_neg c10]
  by_cases c11 : ((X (ix (iN i))) &&& 63) = 11
  · rw [if_pos c11, if_pos b1, if_pos b2]
    obtain ⟨v, w, h1, h2, e1, e2, R2⟩ := (pr_whole R (X (ix (iN i + 1))) (X (ix (iN i + 2)))).w
    rw [e1, Option.bind_some, e2, Option.bind_some]
    exact fin h2 R2
  rw [if_neg c11]
  by_cases c12 : ((X (ix (iN i))) &&& 63) = 12
  · rw [if_pos c12, if_pos b1]
    obtain ⟨v, w, h1, h2, e1, e2, R2⟩ := (pr_stop R (X (ix (iN i + 1)))).w
    rw [e1, Option.bind_some, e2, Option.bind_some]
    exact fin h2 R2
  rw [if_neg c12]
  by_cases c13 : ((X (ix (iN i))) &&& 63) = 13
  · rw [if_pos c13]
    obtain ⟨v, w, h1, h2, e1, e2, R2⟩ := (pr_worst R ).w
    rw [e1, Option.bind_some, e2, Option.bind_some]
    exact fin h2 R2
  rw [if_neg c13]
  by_cases c14 : ((X (ix (iN i))) &&& 63) = 14
  · rw [if_pos c14, if_pos b1, if_pos b2]
    obtain ⟨v, w, h1, h2, e1, e2, R2⟩ := (pr_window R (X (ix (iN i + 1))) (X (ix (iN i + 2)))).w
    rw [e1, Option.bind_some, e2, Option.bind_some]
    exact fin h2 R2
  rw [if_neg c14]
  by_cases c15 : ((X (ix (iN i))) &&& 63) = 15
  · rw [if_pos c15, if_pos b1, if_pos b2, if_pos b3]
    obtain ⟨v, w, h1, h2, e1, e2, R2⟩ := (pr_pace R (X (ix (iN i + 1))) (X (ix (iN i + 2))) (X (ix (iN i + 3)))).w
    rw [e1, Option.bind_some, e2, Option.bind_some]
    exact fin h2 R2
  rw [if_neg c15]
  by_cases c16 : ((X (ix (iN i))) &&& 63) = 16
  · rw [if_pos c16, if_pos b1, if_pos b2, if_pos b3]
    obtain ⟨v, w, h1, h2, e1, e2, R2⟩ := (pr_rest R (X (ix (iN i + 1))) (X (ix (iN i + 2))) (X (ix (iN i + 3)))).w
    rw [e1, Option.bind_some, e2, Option.bind_some]
    exact fin h2 R2
  rw [if_neg c16]
  by_cases c17 : ((X (ix (iN i))) &&& 63) = 17
  · rw [if_pos c17, if_pos b1, if_pos b2]
    obtain ⟨v, w, h1, h2, e1, e2, R2⟩ := (pr_dust R (X (ix (iN i + 1))) (X (ix (iN i + 2)))).w
    rw [e1, Option.bind_some, e2, Option.bind_some]
    exact fin h2 R2
  rw [if_neg c17]
  by_cases c18 : ((X (ix (iN i))) &&& 63) = 18
  · rw [if_pos c18, if_pos b1, if_pos b2, if_pos b3]
    obtain ⟨v, w, h1, h2, e1, e2, R2⟩ := (pr_doublings R (X (ix (iN i + 1))) (X (ix (iN i + 2))) (X (ix (iN i + 3)))).w
    rw [e1, Option.bind_some, e2, Option.bind_some]
    exact fin h2 R2
  rw [if_neg c18]
  by_cases c19 : ((X (ix (iN i))) &&& 63) = 19
  · rw [if_pos c19, if_pos b1, if_pos b2, if_pos b3]
    obtain ⟨v, w, h1, h2, e1, e2, R2⟩ := (pr_judge R (X (ix (iN i + 1))) (X (ix (iN i + 2))) (X (ix (iN i + 3)))).w
    rw [e1, Option.bind_some, e2, Option.bind_some]
    exact fin h2 R2
  rw [if_neg c19]
  by_cases c20 : ((X (ix (iN i))) &&& 63) = 20
  · rw [if_pos c20, if_pos b1, if_pos b2]
    obtain ⟨v, w, h1, h2, e1, e2, R2⟩ := (pr_film R (X (ix (iN i + 1))) (X (ix (iN i + 2)))).w
    rw [e1, Option.bind_some, e2, Option.bind_some]
    exact fin h2 R2
  rw [if_neg c20]
  by_cases c21 : ((X (ix (iN i))) &&& 63) = 21
  · rw [if_pos c21, if_pos b1, if_pos b2, if_pos b3]
    obtain ⟨v, w, h1, h2, e1, e2, R2⟩ := (pr_serves R (X (ix (iN i + 1))) (X (ix (iN i + 2))) (X (ix (iN i + 3)))).w
    rw [e1, Option.bind_some, e2, Option.bind_some]
    exact fin h2 R2
  rw [if_neg c21]
  by_cases c22 : ((X (ix (iN i))) &&& 63) = 22
  · rw [if_pos c22, if_pos b1, if_pos b2]
    obtain ⟨v, w, h1, h2, e1, e2, R2⟩ := (pr_which R (X (ix (iN i + 1))) (X (ix (iN i + 2)))).w
    rw [e1, Option.bind_some, e2, Option.bind_some]
    exact fin h2 R2
  rw [if_neg c22]
  by_cases c23 : ((X (ix (iN i))) &&& 63) = 23
  · rw [if_pos c23, if_pos b1, if_pos b2]
    obtain ⟨v, w, h1, h2, e1, e2, R2⟩ := (pr_fault R (X (ix (iN i + 1))) (X (ix (iN i + 2)))).w
    rw [e1, Option.bind_some, e2, Option.bind_some]
    exact fin h2 R2
  rw [if_neg c23]
  by_cases c24 : ((X (ix (iN i))) &&& 63) = 24
  · rw [if_pos c24, if_pos b1, if_pos b2]
    obtain ⟨v, w, h1, h2, e1, e2, R2⟩ := (pr_uneven R (X (ix (iN i + 1))) (X (ix (iN i + 2)))).w
    rw [e1, Option.bind_some, e2, Option.bind_some]
    exact fin h2 R2
  rw [if_neg c24]
  by_cases c25 : ((X (ix (iN i))) &&& 63) = 25
  · rw [if_pos c25, if_pos b1, if_pos b2, if_pos b3]
    obtain ⟨v, w, h1, h2, e1, e2, R2⟩ := (pr_cooks R (X (ix (iN i + 1))) (X (ix (iN i + 2))) (X (ix (iN i + 3)))).w
    rw [e1, Option.bind_some, e2, Option.bind_some]
    exact fin h2 R2
  rw [if_neg c25]
  by_cases c26 : ((X (ix (iN i))) &&& 63) = 26
  · rw [if_pos c26, if_pos b1]
    obtain ⟨v, w, h1, h2, e1, e2, R2⟩ := (pr_pot R (X (ix (iN i + 1)))).w
    rw [e1, Option.bind_some, e2, Option.bind_some]
    exact fin h2 R2
  rw [if_neg c26]
  by_cases c27 : ((X (ix (iN i))) &&& 63) = 27
  · rw [if_pos c27, if_pos b1, if_pos b2]
    obtain ⟨v, w, h1, h2, e1, e2, R2⟩ := (pr_place R (X (ix (iN i + 1))) (X (ix (iN i + 2)))).w
    rw [e1, Option.bind_some, e2, Option.bind_some]
    exact fin h2 R2
  rw [if_neg c27]
  by_cases c28 : ((X (ix (iN i))) &&& 63) = 28
  · rw [if_pos c28, if_pos b1, if_pos b2, if_pos b3]
    obtain ⟨v, w, h1, h2, e1, e2, R2⟩ := (pr_apart R (X (ix (iN i + 1))) (X (ix (iN i + 2))) (X (ix (iN i + 3)))).w
    rw [e1, Option.bind_some, e2, Option.bind_some]
    exact fin h2 R2
  rw [if_neg c28]
  by_cases c29 : ((X (ix (iN i))) &&& 63) = 29
  · rw [if_pos c29, if_pos b1, if_pos b2, if_pos b3]
    obtain ⟨v, w, h1, h2, e1, e2, R2⟩ := (pr_parted R (X (ix (iN i + 1))) (X (ix (iN i + 2))) (X (ix (iN i + 3)))).w
    rw [e1, Option.bind_some, e2, Option.bind_some]
    exact fin h2 R2
  rw [if_neg c29]
  by_cases c30 : ((X (ix (iN i))) &&& 63) = 30
  · rw [if_pos c30, if_pos b1]
    obtain ⟨v, w, h1, h2, e1, e2, R2⟩ := (pr_round R (X (ix (iN i + 1)))).w
    rw [e1, Option.bind_some, e2, Option.bind_some]
    exact fin h2 R2
  rw [if_neg c30]
  by_cases c31 : ((X (ix (iN i))) &&& 63) = 31
  · rw [if_pos c31, if_pos b1, if_pos b2, if_pos b3]
    obtain ⟨v, w, h1, h2, e1, e2, R2⟩ := (pr_colours R (X (ix (iN i + 1))) (X (ix (iN i + 2))) (X (ix (iN i + 3)))).w
    rw [e1, Option.bind_some, e2, Option.bind_some]
    exact fin h2 R2
  rw [if_neg c31]
  by_cases c32 : ((X (ix (iN i))) &&& 63) = 32
  · rw [if_pos c32, if_pos b1, if_pos b2, if_pos b3]
    obtain ⟨v, w, h1, h2, e1, e2, R2⟩ := (pr_thin R (X (ix (iN i + 1))) (X (ix (iN i + 2))) (X (ix (iN i + 3)))).w
    rw [e1, Option.bind_some, e2, Option.bind_some]
    exact fin h2 R2
  rw [if_neg c32]
  by_cases c33 : ((X (ix (iN i))) &&& 63) = 33
  · rw [if_pos c33, if_pos b1, if_pos b2, if_pos b3, if_pos b4]
    obtain ⟨v, w, h1, h2, e1, e2, R2⟩ := (pr_odds R (X (ix (iN i + 1))) (X (ix (iN i + 2))) (X (ix (iN i + 3))) (X (ix (iN i + 4)))).w
    rw [e1, Option.bind_some, e2, Option.bind_some]
    exact fin h2 R2
  rw [if_neg c33]
  by_cases c34 : ((X (ix (iN i))) &&& 63) = 34
  · rw [if_pos c34, if_pos b1, if_pos b2, if_pos b3]
    obtain ⟨v, w, h1, h2, e1, e2, R2⟩ := (pr_record R (X (ix (iN i + 1))) (X (ix (iN i + 2))) (X (ix (iN i + 3)))).w
    rw [e1, Option.bind_some, e2, Option.bind_some]
    exact fin h2 R2
  rw [if_neg c34]
  by_cases c35 : ((X (ix (iN i))) &&& 63) = 35
  · rw [if_pos c35, if_pos b1, if_pos b2, if_pos b3, if_pos b4]
    obtain ⟨v, w, h1, h2, e1, e2, R2⟩ := pr_drawn R (X (ix (iN i + 1))) (X (ix (iN i + 2))) (X (ix (iN i + 3))) (X (ix (iN i + 4)))
    rw [e1, Option.bind_some, e2, Option.bind_some]
    exact fin h2 R2
  rw [if_neg c35]
  by_cases c36 : ((X (ix (iN i))) &&& 63) = 36
  · rw [if_pos c36]
    obtain ⟨v, w, h1, h2, e1, e2, R2⟩ := (pr_image R ).w
    rw [e1, Option.bind_some, e2, Option.bind_some]
    exact fin h2 R2
  rw [if_neg c36]
  by_cases c37 : ((X (ix (iN i))) &&& 63) = 37
  · rw [if_pos c37]
    obtain ⟨v, w, h1, h2, e1, e2, R2⟩ := (pr_back R ).w
    rw [e1, Option.bind_some, e2, Option.bind_some]
    exact fin h2 R2
  rw [if_neg c37]
  by_cases c38 : ((X (ix (iN i))) &&& 63) = 38
  · rw [if_pos c38, if_pos b1, if_pos b2, if_pos b3]
    obtain ⟨v, w, h1, h2, e1, e2, R2⟩ := (pr_sheet R (X (ix (iN i + 1))) (X (ix (iN i + 2))) (X (ix (iN i + 3)))).w
    rw [e1, Option.bind_some, e2, Option.bind_some]
    exact fin h2 R2
  rw [if_neg c38]
  by_cases c39 : ((X (ix (iN i))) &&& 63) = 39
  · rw [if_pos c39, if_pos b1, if_pos b2, if_pos b3]
    obtain ⟨v, w, h1, h2, e1, e2, R2⟩ := (pr_cell R (X (ix (iN i + 1))) (X (ix (iN i + 2))) (X (ix (iN i + 3)))).w
    rw [e1, Option.bind_some, e2, Option.bind_some]
    exact fin h2 R2
  rw [if_neg c39]
  by_cases c40 : ((X (ix (iN i))) &&& 63) = 40
  · rw [if_pos c40, if_pos b1, if_pos b2, if_pos b3, if_pos b4, if_pos b5]
    obtain ⟨v, w, h1, h2, e1, e2, R2⟩ := (pr_copy R (X (ix (iN i + 1))) (X (ix (iN i + 2))) (X (ix (iN i + 3))) (X (ix (iN i + 4))) (X (ix (iN i + 5)))).w
    rw [e1, Option.bind_some, e2, Option.bind_some]
    exact fin h2 R2
  rw [if_neg c40]
  by_cases c41 : ((X (ix (iN i))) &&& 63) = 41
  · rw [if_pos c41, if_pos b1, if_pos b2, if_pos b3, if_pos b4]
    obtain ⟨v, w, h1, h2, e1, e2, R2⟩ := (pr_stepsBy R (X (ix (iN i + 1))) (X (ix (iN i + 2))) (X (ix (iN i + 3))) (X (ix (iN i + 4)))).w
    rw [e1, Option.bind_some, e2, Option.bind_some]
    exact fin h2 R2
  rw [if_neg c41]
  by_cases c42 : ((X (ix (iN i))) &&& 63) = 42
  · rw [if_pos c42, if_pos b1, if_pos b2]
    obtain ⟨v, h1, h2, e1, e2, R2⟩ := pr_taken R (X (ix (iN i + 1))) (X (ix (iN i + 2)))
    rw [e1, Option.bind_some, e2, Option.bind_some, if_pos rfl]
    exact fin h2 R2
  rw [if_neg c42]
  exact fin h R
