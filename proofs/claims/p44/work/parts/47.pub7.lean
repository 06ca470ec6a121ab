/-! serves, which, uneven: both sides -/
theorem Fr_hbec {h : Hp} : Fr (fun a _ => 25 ≤ a ∧ a ≤ 28) h (hbec 25 17 h) := by
  unfold hbec
  exact ((((Fr.rfl' _ _).cp (fun k _ _ => by omega)).cp (fun k _ _ => by omega)).cp (fun k _ _ => by omega)).si _ (by omega)
theorem E25_of {σ : SS} {T : Nat → List Int32} {M Ln : Nat → Int32} {w wm : Int32} {t : Nat} {h : Hp} (O : okS σ) (C : CS σ h) (OT : okT T) (ht : t < 6) (TC : TxC t T h) (hd : ∀ i, i < 12 → gI h 18 i = M i ∧ gI h 19 i = Ln i) (b1 : ∀ c, c < 12 → 0 ≤ (M c).toInt ∧ (M c).toInt ≤ 99999) (b2 : ∀ c, c < 12 → 1 ≤ (Ln c).toInt ∧ (Ln c).toInt ≤ 1000000) : E25 σ T M Ln t (hbec 25 17 h) := by
  have f := Fr_hbec (h := h)
  refine ⟨O, CS_fr f (fun a k => by unfold Scs; omega) C, OT, ht, TxC_c (fun a k q => f.i (by omega)) TC, fun c hc => ?_, b2, fun i hi => ?_⟩
  · have := b1 c hc; omega
  · rw [gI_hbec (by omega), gI_hbec (by omega), if_neg (by omega), if_neg (by omega), if_neg (by omega), if_pos (by omega), if_neg (by omega), if_neg (by omega), if_pos (by omega)]
    exact hd i hi
theorem cn_serves (n : Nat) {a s p v : Int32} {h h2 : Hp} (ha : g_X7_refusalOfTest a s h = some (0, h)) (hp : 0 ≤ p ∧ p ≤ 2) (e2 : g_X7_serves_45 n n a s p 0 0 (hbec 25 17 h) = some (v, h2)) : g_X7_serves n a s p h = some (v, h2) := by
  simp only [g_X7_serves_99, g_X7_serves_63, g_X7_serves_0, g_X7_serves, ha, wC, if_pos hp, Option.bind_some, ne10, eq10, ne_eq, not_false_eq_true, if_true, if_false, c_become (h := h) (v0 := 25) (v1 := 17) (by omega)]
  exact e2
theorem r_count {p : Nat} (hp : p < 3) (h : Hp) : g_X8_count (iN p) h = some (gI h 96 (2 + p), h) := by
  have hp' : p = 0 ∨ p = 1 ∨ p = 2 := by omega
  rcases hp' with rfl | rfl | rfl
  · rw [show iN 0 = (0 : Int32) from rfl]; simp [g_X8_count_0, g_X8_count]
  · rw [show iN 1 = (1 : Int32) from rfl]; simp [g_X8_count_0, g_X8_count]
  · rw [show iN 2 = (2 : Int32) from rfl]; simp [g_X8_count_0, g_X8_count]
theorem rn_serves (n : Nat) {a s v : Int32} {p : Nat} {h h2 : Hp} (ha : g_X8_areSteps a h = some (1, h)) (hw : g_X8_sheetWrong s h = some (0, h)) (hp3 : p < 3) (hp : 0 ≤ iN p ∧ iN p ≤ 2) (e2 : g_X8_serves_51 n n a s (iN p) (gI h 96 (2 + p)) 0 0 h = some (v, h2)) : g_X8_serves n a s (iN p) h = some (v, h2) := by
  simp only [g_X8_serves_90, g_X8_serves_0, g_X8_serves, ha, hw, wI, if_pos hp, Option.bind_some, ne10, eq10, ne_eq, not_false_eq_true, if_true, if_false, r_count hp3]
  exact e2
theorem pr_serves {L : Nat} {h : Hp} (R : Rel L h) (a s p : Int32) : Pair L (g_X7_serves 4000 a s p) (g_X8_serves 4000 a s p) h := by
  obtain ⟨σ, T, M, Ln, w, wm, t, E⟩ := EN_of R
  by_cases hn : 0 ≤ a ∧ a ≤ σ.1
  case neg => exact Pair.pure (-5) R (by simp [g_X7_serves_99, g_X7_serves_63, g_X7_serves_0, g_X7_serves, c_wrong5 E hn]) (by simp [g_X8_serves_90, g_X8_serves_0, g_X8_serves, rAre E, if_neg hn])
  have v1 := c_wrong E R s hn
  have v2 := r_wrong h s
  by_cases hv : wr h s = 0
  case neg => exact Pair.pure (wr h s) R (by simp [g_X7_serves_99, g_X7_serves_63, g_X7_serves_0, g_X7_serves, v1, hv]) (by simp [g_X8_serves_90, g_X8_serves_0, g_X8_serves, rAre E, if_pos hn, v2, hv])
  rw [hv] at v1 v2
  by_cases hc : 0 ≤ p ∧ p ≤ 2
  case neg => exact Pair.pure (-7) R (by simp [g_X7_serves_99, g_X7_serves_63, g_X7_serves_0, g_X7_serves, v1, wC, if_neg hc]) (by simp [g_X8_serves_90, g_X8_serves_0, g_X8_serves, rAre E, if_pos hn, v2, wI, if_neg hc])
  obtain ⟨q, hq, rfl⟩ := iex (n := 3) (by decide) hc.1 (by show p < 3; lia)
  obtain ⟨k, hk, rfl, hrow⟩ := wr_0 R hv
  obtain ⟨N, hN, rfl, hN2⟩ := nOf E.1 hn
  obtain ⟨a1, a2, a3, a4, a5, a6, a7, a8, a9, a10, a11, a12, a13, a14, a15, a16⟩ := id E
  have E5 := E25_of (w := w) (wm := wm) a1 a2 a4 a5 a6 a8.1 a14 a15
  have fb := Fr_hbec (h := h)
  have t0 : gI (hbec 25 17 h) 28 0 = w := by rw [gI_hbec (by omega), if_neg (by omega), if_pos (by omega)]; exact a8.2.1
  have t2 : gI (hbec 25 17 h) 28 2 = wm := by rw [gI_hbec (by omega), if_neg (by omega), if_pos (by omega)]; exact a8.2.2.1
  have t3 : gI (hbec 25 17 h) 25 3 = iN t := by rw [gI_hbec (by omega), if_pos (by omega)]; exact a8.2.2.2
  obtain ⟨h1, e1, f1⟩ := l_csv hq a16 hN hN2 hk (row := fun i => gI h 109 (40 * k + i)) 10 0 4000 0 (hbec 25 17 h) rfl (by omega) E5 (fun _ => t0) (fun _ => t2) t3 (fun i hi => by rw [fb.i (by omega)]; exact hrow i hi)
  have f2 : Fr SX h h1 := (fb.mono (fun a k z => by unfold SX; omega)).tr f1
  have E1 := EN_fr f2 E
  obtain ⟨b1, b2, b3, b4, b5, b6, b7, b8, b9, b10, b11, b12, b13, b14, b15, b16⟩ := id E1
  have E7 : E97 σ T M Ln t h1 := ⟨b1, b3, b4, b5, b7, fun c hc => by have := b14 c hc; omega, b15, b9, b13⟩
  obtain ⟨h2, e2, k2, g2⟩ := l_rsv hq a16 hN hN2 hk (row := fun i => gI h 109 (40 * k + i)) (gI h1 96 (2 + q)) 10 0 4000 0 h1 rfl (by omega) E7 (fun _ => b10) (fun _ => b11) b12 (fun i hi => f2.i (by unfold SX; omega))
  have w2 := r_wrong h1 (iN k)
  rw [wr_fr f2, hv] at w2
  have s2 : g_X8_areSteps (iN N) h1 = some (1, h1) := by rw [rAre E1, if_pos hn]
  refine ⟨_, h1, h2, cn_serves 4000 v1 hc e1, rn_serves 4000 s2 w2 hq hc e2, ?_⟩
  have g2' : ∀ a i, ¬ SR a i → gI h2 a i = gI h1 a i := fun a i z => by
    rw [g2 a i z]
    by_cases c : a = 96 ∧ i = 2 + q
    · rw [if_pos c, c.1, c.2]
    · rw [if_neg c]
  have R1 := Rel_fr f2 R
  exact Rel_Ta R1 k2 (fun a i _ z => g2' a i (fun y => z (SR_SX y))) (RTa_c (fun a i z => g2' a i (by unfold SR; omega)) R1.2.1)
/-! which -/
theorem l_cwh {σ : SS} {Ts : Nat → Nat → List Int32} {C : Nat} (hC : C ≤ 6) {M Ln : Nat → Int32} {w wm : Int32} {N s : Nat} (hwm : 0 ≤ wm.toInt ∧ wm.toInt ≤ 9) (hN : N ≤ 12) (hN2 : ∀ k, k < N → iN k < σ.1) (hs : s < 4) {row : Nat → Int32} (j : Nat) : ∀ (k m : Nat) (acc : Int32) (h : Hp), k + j = C → j < m → (∀ t, t < C → E25 σ (Ts t) M Ln t h) → gI h 28 0 = w → gI h 28 2 = wm → gI h 16 13 = iN C → (∀ i, i < 12 → gI h (73 + 2 * s) i = row i) → ∃ h', g_X7_which_30 4000 m (iN N) (iN s) acc (iN k) h = some (orb (fun k => bitOf σ (Ts k) M Ln N row w wm k) j k acc, h') ∧ Fr SX h h' := by
  induction j with
  | zero =>
    intro k m acc h ek hm E w0 w2 ht hr
    obtain ⟨m, rfl⟩ : ∃ z, m = z + 1 := ⟨m - 1, by omega⟩
    obtain rfl : k = C := by omega
    exact ⟨h, by rw [g_X7_which_30, ht, if_pos (by lia)]; rfl, Fr.rfl' _ _⟩
  | succ j ih =>
    intro k m acc h ek hm E w0 w2 ht hr
    obtain ⟨m, rfl⟩ : ∃ z, m = z + 1 := ⟨m - 1, by omega⟩
    have o1 : k + 1 + j = C := by omega
    have o2 : j < m := by omega
    have o3 : k < C := by omega
    have o4 : k < 2147483647 := by omega
    have o5 : ¬ iN C ≤ iN k := by rw [iN_le (by omega) (by omega)]; omega
    have o6 : ¬ (6 : Int32) ≤ iN k := by rw [show (6 : Int32) = iN 6 from rfl, iN_le (by omega) (by omega)]; omega
    have o7 := iN_inb hs (show 4 < 2147483648 by decide)
    have o8 := iN_ix (k := s) (by omega)
    obtain ⟨h0, e0⟩ : ∃ h0, h0 = hsi h 25 3 (iN k) := ⟨_, rfl⟩
    have f0 : Fr (fun a _ => a = 25) h h0 := by rw [e0]; exact (Fr.rfl' _ _).si _ rfl
    have E0 : ∀ t, t < C → E25 σ (Ts t) M Ln t h0 := fun t ht => E25_fr (f0.mono (fun a k q => Or.inr (Or.inr q))) (E t ht)
    have v0 : gI h0 28 0 = w := by rw [f0.i (by omega)]; exact w0
    have v2 : gI h0 28 2 = wm := by rw [f0.i (by omega)]; exact w2
    have v3 : gI h0 25 3 = iN k := by rw [e0, gI_hsi, if_pos ⟨rfl, rfl⟩]
    obtain ⟨H, h1, b1, R1, f1⟩ := mk25 (E0 k o3) hwm v0 v2 v3 hN hN2
    have fr1 : Fr SX h h1 := (f0.mono (fun a k q => by unfold SX; omega)).tr (f1.mono (fun a k z => SM_SX z))
    have hr1 : ∀ i, i < 12 → gI h1 (73 + 2 * s) i = row i := fun i hi => by rw [fr1.i (by unfold SX; omega)]; exact hr i hi
    have ct := c_told R1 H hr1
    have bt : ∀ acc2, acc2 = acc ||| bitOf σ (Ts k) M Ln N row w wm k → ∃ h', g_X7_which_30 4000 m (iN N) (iN s) acc2 (iN (k + 1)) h1 = some (orb (fun k => bitOf σ (Ts k) M Ln N row w wm k) (j + 1) k acc, h') ∧ Fr SX h h' := by
      intro acc2 ha
      obtain ⟨h2, a2, f2⟩ := ih (k + 1) m acc2 h1 o1 o2 (fun t ht => E25_fr (f1.mono (fun a k q => Or.inl q)) (E0 t ht)) (by rw [f1.i (by unfold SM isStk; omega)]; exact v0) (by rw [f1.i (by unfold SM isStk; omega)]; exact v2) (by rw [fr1.i (by unfold SX; omega)]; exact ht) hr1
      refine ⟨h2, ?_, fr1.tr f2⟩
      rw [a2, ha]; rfl
    rw [g_X7_which_30, ht, if_neg o5, if_neg o6, ← e0, g_X7_which_55, b1, Option.bind_some, if_pos o7, o8, ct, Option.bind_some]
    unfold bitOf at bt
    by_cases z : fof (gr0 σ (Ts k) M Ln w wm (-1) N) row 0 12 0 ≠ -1
    · rw [if_pos z, if_pos rfl, g_X7_which_91, iN_add o4]
      exact bt acc (by rw [if_pos z, Int32.or_zero])
    · rw [if_neg z, if_neg (fun e => absurd e (show ¬ (1 : Int32) = 0 by decide)), g_X7_which_91, iN_add o4]
      exact bt _ (by rw [if_neg z])
theorem l_rwh {σ : SS} {Ts : Nat → Nat → List Int32} {C : Nat} (hC : C ≤ 6) {M Ln : Nat → Int32} {w wm : Int32} {N s : Nat} (hwm : 0 ≤ wm.toInt ∧ wm.toInt ≤ 9) (hN : N ≤ 12) (hN2 : ∀ k, k < N → iN k < σ.1) (hs : s < 4) {row : Nat → Int32} (v4 : Int32) (j : Nat) : ∀ (k m : Nat) (acc : Int32) (h : Hp), k + j = C → j < m → (∀ t, t < C → E97 σ (Ts t) M Ln t h) → gI h 96 2 = w → gI h 96 4 = wm → gI h 96 13 = iN C → (∀ i, i < 12 → gI h 109 (40 * s + i) = row i) → ∃ h', g_X8_which_35 4000 m (iN N) (iN s) v4 acc (iN k) h = some (orb (fun k => bitOf σ (Ts k) M Ln N row w wm k) j k acc, h') ∧ h'.1 = h.1 ∧ (∀ a i, ¬ SR a i → gI h' a i = if a = 96 ∧ i = 14 then v4 else gI h a i) := by
  induction j with
  | zero =>
    intro k m acc h ek hm E w0 w2 ht hr
    obtain ⟨m, rfl⟩ : ∃ z, m = z + 1 := ⟨m - 1, by omega⟩
    obtain rfl : k = C := by omega
    exact ⟨hsi h 96 14 v4, by rw [g_X8_which_35, ht, if_pos (by lia)]; rfl, rfl, fun a i _ => gI_hsi _ _ _ _ _ _⟩
  | succ j ih =>
    intro k m acc h ek hm E w0 w2 ht hr
    obtain ⟨m, rfl⟩ : ∃ z, m = z + 1 := ⟨m - 1, by omega⟩
    have o1 : k + 1 + j = C := by omega
    have o2 : j < m := by omega
    have o3 : k < C := by omega
    have o4 : k < 2147483647 := by omega
    have o5 : ¬ iN C ≤ iN k := by rw [iN_le (by omega) (by omega)]; omega
    obtain ⟨h0, e0⟩ : ∃ h0, h0 = hsi h 96 14 (iN k) := ⟨_, rfl⟩
    have f0 : Fr (fun a i => a = 96 ∧ i = 14) h h0 := by rw [e0]; exact (Fr.rfl' _ _).si _ ⟨rfl, rfl⟩
    have E0 : ∀ t, t < C → E97 σ (Ts t) M Ln t h0 := fun t ht => E97_fr (f0.mono (fun a k q => Or.inr (Or.inr q))) (E t ht)
    have v0 : gI h0 96 2 = w := by rw [f0.i (by omega)]; exact w0
    have v2 : gI h0 96 4 = wm := by rw [f0.i (by omega)]; exact w2
    have v3 : gI h0 96 14 = iN k := by rw [e0, gI_hsi, if_pos ⟨rfl, rfl⟩]
    obtain ⟨H, h1, b1, R1, f1⟩ := mk97 (E0 k o3) hwm v0 v2 v3 hN hN2
    have hr1 : ∀ i, i < 12 → gI h1 109 (40 * s + i) = row i := fun i hi => by rw [f1.i (by unfold SR; omega), f0.i (by omega)]; exact hr i hi
    have ct := r_off R1 H hs hr1 0
    have bt : ∀ b, b = bitOf σ (Ts k) M Ln N row w wm k → ∃ h', g_X8_which_35 4000 m (iN N) (iN s) v4 (acc ||| b) (iN (k + 1)) h1 = some (orb (fun k => bitOf σ (Ts k) M Ln N row w wm k) (j + 1) k acc, h') ∧ h'.1 = h.1 ∧ (∀ a i, ¬ SR a i → gI h' a i = if a = 96 ∧ i = 14 then v4 else gI h a i) := by
      intro b hb
      obtain ⟨h2, a2, k2, f2⟩ := ih (k + 1) m (acc ||| b) h1 o1 o2 (fun t ht => E97_fr (f1.mono (fun a k q => Or.inl q)) (E0 t ht)) (by rw [f1.i (by unfold SR; omega)]; exact v0) (by rw [f1.i (by unfold SR; omega)]; exact v2) (by rw [f1.i (by unfold SR; omega), f0.i (by omega)]; exact ht) hr1
      refine ⟨h2, ?_, k2.trans (f1.1.trans f0.1), fun a i q => ?_⟩
      · rw [a2, hb]; rfl
      · rw [f2 a i q]
        by_cases c : a = 96 ∧ i = 14
        · rw [if_pos c, if_pos c]
        · rw [if_neg c, if_neg c, f1.i q, f0.i c]
    rw [g_X8_which_35, ht, if_neg o5, ← e0, g_X8_which_50, b1, Option.bind_some, ct, Option.bind_some]
    unfold bitOf at bt
    by_cases z : fof (gr0 σ (Ts k) M Ln w wm (-1) N) row 0 12 0 ≠ -1
    · rw [if_pos z, g_X8_which_75, iN_add o4]
      exact bt 0 (by rw [if_pos z])
    · rw [if_neg z, g_X8_which_75, iN_add o4]
      exact bt _ (by rw [if_neg z])
theorem cn_which (n : Nat) {a s v : Int32} {h h2 : Hp} (ha : g_X7_refusalOfTest a s h = some (0, h)) (e2 : g_X7_which_30 n n a s 0 0 (hbec 25 17 h) = some (v, h2)) : g_X7_which n a s h = some (v, h2) := by
  simp only [g_X7_which_91, g_X7_which_55, g_X7_which_0, g_X7_which, ha, Option.bind_some, ne10, eq10, ne_eq, not_false_eq_true, if_true, if_false, c_become (h := h) (v0 := 25) (v1 := 17) (by omega)]
  exact e2
theorem rn_which (n : Nat) {a s v : Int32} {h h2 : Hp} (ha : g_X8_areSteps a h = some (1, h)) (hw : g_X8_sheetWrong s h = some (0, h)) (e2 : g_X8_which_35 n n a s (gI h 96 14) 0 0 h = some (v, h2)) : g_X8_which n a s h = some (v, h2) := by
  simp only [g_X8_which_75, g_X8_which_50, g_X8_which_0, g_X8_which, ha, hw, Option.bind_some, ne10, eq10, ne_eq, not_false_eq_true, if_true, if_false]
  exact e2
theorem Ts_of {h : Hp} (H : RTx h) : ∃ Ts : Nat → Nat → List Int32, ∀ t, t < 6 → iN t < gI h 96 13 → okT (Ts t) ∧ TxC t (Ts t) h ∧ TxR t (Ts t) h := by
  have e : ∀ t, ∃ T, t < 6 → iN t < gI h 96 13 → okT T ∧ TxC t T h ∧ TxR t T h := by
    intro t
    by_cases c : t < 6 ∧ iN t < gI h 96 13
    · obtain ⟨T, z⟩ := H t c.1 c.2
      exact ⟨T, fun _ _ => z⟩
    · exact ⟨fun _ => [], fun a b => absurd ⟨a, b⟩ c⟩
  exact ⟨fun t => Classical.choose (e t), fun t => Classical.choose_spec (e t)⟩
theorem pr_which {L : Nat} {h : Hp} (R : Rel L h) (a s : Int32) : Pair L (g_X7_which 4000 a s) (g_X8_which 4000 a s) h := by
  obtain ⟨σ, T, M, Ln, w, wm, t, E⟩ := EN_of R
  by_cases hn : 0 ≤ a ∧ a ≤ σ.1
  case neg => exact Pair.pure (-5) R (by simp [g_X7_which_91, g_X7_which_55, g_X7_which_0, g_X7_which, c_wrong5 E hn]) (by simp [g_X8_which_75, g_X8_which_50, g_X8_which_0, g_X8_which, rAre E, if_neg hn])
  have v1 := c_wrong E R s hn
  have v2 := r_wrong h s
  by_cases hv : wr h s = 0
  case neg => exact Pair.pure (wr h s) R (by simp [g_X7_which_91, g_X7_which_55, g_X7_which_0, g_X7_which, v1, hv]) (by simp [g_X8_which_75, g_X8_which_50, g_X8_which_0, g_X8_which, rAre E, if_pos hn, v2, hv])
  rw [hv] at v1 v2
  obtain ⟨k, hk, rfl, hrow⟩ := wr_0 R hv
  obtain ⟨N, hN, rfl, hN2⟩ := nOf E.1 hn
  have rc := R.2.2.1
  obtain ⟨C, hC, eC⟩ := iex (n := 7) (by decide) (show 0 ≤ gI h 96 13 by have := rc.2.2.1; lia) (by have := rc.2.2.2.1; show gI h 96 13 < 7; lia)
  obtain ⟨Ts, hTs⟩ := Ts_of R.2.2.2.2.2.2.1
  obtain ⟨a1, a2, a3, a4, a5, a6, a7, a8, a9, a10, a11, a12, a13, a14, a15, a16⟩ := id E
  have hT' : ∀ t, t < C → okT (Ts t) ∧ TxC t (Ts t) h ∧ TxR t (Ts t) h := fun t ht => hTs t (by omega) (by rw [eC, iN_lt (by omega) (by omega)]; exact ht)
  have E5 : ∀ t, t < C → E25 σ (Ts t) M Ln t (hbec 25 17 h) := fun t ht => E25_of (w := w) (wm := wm) a1 a2 (hT' t ht).1 (by omega) (hT' t ht).2.1 a8.1 a14 a15
  have fb := Fr_hbec (h := h)
  have t0 : gI (hbec 25 17 h) 28 0 = w := by rw [gI_hbec (by omega), if_neg (by omega), if_pos (by omega)]; exact a8.2.1
  have t2 : gI (hbec 25 17 h) 28 2 = wm := by rw [gI_hbec (by omega), if_neg (by omega), if_pos (by omega)]; exact a8.2.2.1
  have t3 : gI (hbec 25 17 h) 16 13 = iN C := by rw [fb.i (by omega), rc.2.1]; exact eC
  obtain ⟨h1, e1, f1⟩ := l_cwh (C := C) (by omega) a16 hN hN2 hk (row := fun i => gI h 109 (40 * k + i)) C 0 4000 0 (hbec 25 17 h) (by omega) (by omega) E5 t0 t2 t3 (fun i hi => by rw [fb.i (by omega)]; exact hrow i hi)
  have f2 : Fr SX h h1 := (fb.mono (fun a k z => by unfold SX; omega)).tr f1
  have E1 := EN_fr f2 E
  obtain ⟨b1, b2, b3, b4, b5, b6, b7, b8, b9, b10, b11, b12, b13, b14, b15, b16⟩ := id E1
  have E7 : ∀ t, t < C → E97 σ (Ts t) M Ln t h1 := fun t ht => ⟨b1, b3, (hT' t ht).1, by omega, TxR_c (fun a k q => f2.i (by unfold SX; omega)) (hT' t ht).1 (hT' t ht).2.2, fun c hc => by have := b14 c hc; omega, b15, b9, b13⟩
  obtain ⟨h2, e2, k2, g2⟩ := l_rwh (C := C) (by omega) a16 hN hN2 hk (row := fun i => gI h 109 (40 * k + i)) (gI h1 96 14) C 0 4000 0 h1 (by omega) (by omega) E7 b10 b11 (by rw [f2.i (by unfold SX; omega)]; exact eC) (fun i hi => f2.i (by unfold SX; omega))
  have w2 := r_wrong h1 (iN k)
  rw [wr_fr f2, hv] at w2
  have s2 : g_X8_areSteps (iN N) h1 = some (1, h1) := by rw [rAre E1, if_pos hn]
  refine ⟨_, h1, h2, cn_which 4000 v1 e1, rn_which 4000 s2 w2 e2, ?_⟩
  have g2' : ∀ a i, ¬ SR a i → gI h2 a i = gI h1 a i := fun a i z => by
    rw [g2 a i z]
    by_cases c : a = 96 ∧ i = 14
    · rw [if_pos c, c.1, c.2]
    · rw [if_neg c]
  have R1 := Rel_fr f2 R
  exact Rel_Tc R1 k2 (fun a i _ z => g2' a i (fun y => z (SR_SX y))) (RTc_c (fun a i z => g2' a i (by unfold SR; omega)) R1.2.2.1)
