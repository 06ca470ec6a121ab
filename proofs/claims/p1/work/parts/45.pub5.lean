/-! fault, film -/
noncomputable def flt (σ : SS) (T : Nat → List Int32) (M Ln : Nat → Int32) (w wm : Int32) (N : Nat) (row : Nat → Int32) : Nat → Nat → Int32
  | 0, _ => -1
  | j + 1, k => if fof (gr0 σ T M Ln w wm (iN k) N) row 0 12 0 ≠ -1 then flt σ T M Ln w wm N row j (k + 1) else iN k
theorem l_cflt {σ : SS} {T : Nat → List Int32} {M Ln : Nat → Int32} {w wm : Int32} {t N s : Nat} (hN : N ≤ 12) (hN2 : ∀ k, k < N → iN k < σ.1) (hs : s < 4) {row : Nat → Int32} (j : Nat) : ∀ (k m : Nat) (h : Hp), k + j = N → j < m → EN σ T M Ln w wm t h → (∀ i, i < 12 → gI h (73 + 2 * s) i = row i) → ∃ h', g_X7_fault_16 4000 m (iN N) (iN s) (iN k) h = some (flt σ T M Ln w wm N row j k, h') ∧ Fr SX h h' := by
  induction j with
  | zero =>
    intro k m h ek hm E hr
    obtain ⟨m, rfl⟩ : ∃ z, m = z + 1 := ⟨m - 1, by omega⟩
    obtain rfl : k = N := by omega
    exact ⟨h, by rw [g_X7_fault_16, if_pos (by lia)]; rfl, Fr.rfl' _ _⟩
  | succ j ih =>
    intro k m h ek hm E hr
    obtain ⟨m, rfl⟩ : ∃ z, m = z + 1 := ⟨m - 1, by omega⟩
    have o1 : k + 1 + j = N := by omega
    have o2 : j < m := by omega
    have o4 : k < 2147483647 := by omega
    have o5 : ¬ iN N ≤ iN k := by rw [iN_le (by omega) (by omega)]; omega
    have o7 := iN_inb hs (show 4 < 2147483648 by decide)
    have o8 := iN_ix (k := s) (by omega)
    obtain ⟨h1, a1, R1, -, f1⟩ := mkC E (iN k) hN hN2
    have H : okP (gr0 σ T M Ln w wm (iN k) N) := EN_ok E 0 0 (iN k) hN hN2
    have hr1 : ∀ i, i < 12 → gI h1 (73 + 2 * s) i = row i := fun i hi => by rw [f1.i (by unfold SX; omega)]; exact hr i hi
    have ct := c_told R1 H hr1
    obtain ⟨h2, a2, f2⟩ := ih (k + 1) m h1 o1 o2 (EN_fr f1 E) hr1
    have hf : flt σ T M Ln w wm N row (j + 1) k = if fof (gr0 σ T M Ln w wm (iN k) N) row 0 12 0 ≠ -1 then flt σ T M Ln w wm N row j (k + 1) else iN k := rfl
    rw [g_X7_fault_16, if_neg o5, a1, Option.bind_some, if_pos o7, o8, ct, Option.bind_some, hf]
    by_cases z : fof (gr0 σ T M Ln w wm (iN k) N) row 0 12 0 ≠ -1
    · rw [if_pos z, if_pos z, if_pos rfl, iN_add o4]
      exact ⟨h2, a2, f1.tr f2⟩
    · rw [if_neg z, if_neg z, if_neg (fun e => absurd e (show ¬ (1 : Int32) = 0 by decide))]
      exact ⟨h1, rfl, f1⟩
theorem l_rflt {σ : SS} {T : Nat → List Int32} {M Ln : Nat → Int32} {w wm : Int32} {t N s : Nat} (hN : N ≤ 12) (hN2 : ∀ k, k < N → iN k < σ.1) (hs : s < 4) {row : Nat → Int32} (j : Nat) : ∀ (k m : Nat) (h : Hp), k + j = N → j < m → EN σ T M Ln w wm t h → (∀ i, i < 12 → gI h 109 (40 * s + i) = row i) → ∃ h', g_X8_fault_26 4000 m (iN N) (iN s) (iN k) h = some (flt σ T M Ln w wm N row j k, h') ∧ Fr SX h h' := by
  induction j with
  | zero =>
    intro k m h ek hm E hr
    obtain ⟨m, rfl⟩ : ∃ z, m = z + 1 := ⟨m - 1, by omega⟩
    obtain rfl : k = N := by omega
    exact ⟨h, by rw [g_X8_fault_26, if_pos (by lia)]; rfl, Fr.rfl' _ _⟩
  | succ j ih =>
    intro k m h ek hm E hr
    obtain ⟨m, rfl⟩ : ∃ z, m = z + 1 := ⟨m - 1, by omega⟩
    have o1 : k + 1 + j = N := by omega
    have o2 : j < m := by omega
    have o4 : k < 2147483647 := by omega
    have o5 : ¬ iN N ≤ iN k := by rw [iN_le (by omega) (by omega)]; omega
    obtain ⟨h1, a1, R1, -, f1⟩ := mkRf E (iN k) hN hN2
    have H : okP (gr0 σ T M Ln w wm (iN k) N) := EN_ok E 0 0 (iN k) hN hN2
    have hr1 : ∀ i, i < 12 → gI h1 109 (40 * s + i) = row i := fun i hi => by rw [f1.i (by unfold SX; omega)]; exact hr i hi
    have ct := r_off R1 H hs hr1 0
    obtain ⟨h2, a2, f2⟩ := ih (k + 1) m h1 o1 o2 (EN_fr f1 E) hr1
    have hf : flt σ T M Ln w wm N row (j + 1) k = if fof (gr0 σ T M Ln w wm (iN k) N) row 0 12 0 ≠ -1 then flt σ T M Ln w wm N row j (k + 1) else iN k := rfl
    rw [g_X8_fault_26, if_neg o5, a1, Option.bind_some, ct, Option.bind_some, hf]
    by_cases z : fof (gr0 σ T M Ln w wm (iN k) N) row 0 12 0 ≠ -1
    · rw [if_pos z, if_pos z, iN_add o4]
      exact ⟨h2, a2, f1.tr f2⟩
    · rw [if_neg z, if_neg z]
      exact ⟨h1, rfl, f1⟩
theorem cn_fault (n : Nat) {a s v : Int32} {h h2 : Hp} (ha : g_X7_refusalOfTest a s h = some (0, h)) (e2 : g_X7_fault_16 n n a s 0 h = some (v, h2)) : g_X7_fault n a s h = some (v, h2) := by
  simp only [g_X7_fault_0, g_X7_fault, ha, Option.bind_some, ne10, eq10, if_true]
  exact e2
theorem rn_fault (n : Nat) {a s v : Int32} {h h2 : Hp} (ha : g_X8_areSteps a h = some (1, h)) (hw : g_X8_sheetWrong s h = some (0, h)) (e2 : g_X8_fault_26 n n a s 0 h = some (v, h2)) : g_X8_fault n a s h = some (v, h2) := by
  simp only [g_X8_fault_0, g_X8_fault, ha, hw, Option.bind_some, ne10, eq10, if_true]
  exact e2
theorem pr_fault {L : Nat} {h : Hp} (R : Rel L h) (a s : Int32) : Pair L (g_X7_fault 4000 a s) (g_X8_fault 4000 a s) h := by
  obtain ⟨σ, T, M, Ln, w, wm, t, E⟩ := EN_of R
  by_cases hn : 0 ≤ a ∧ a ≤ σ.1
  case neg => exact Pair.pure (-5) R (by simp [g_X7_fault_0, g_X7_fault, c_wrong5 E hn]) (by simp [g_X8_fault_0, g_X8_fault, rAre E, if_neg hn])
  have v1 := c_wrong E R s hn
  have v2 := r_wrong h s
  by_cases hv : wr h s = 0
  case neg => exact Pair.pure (wr h s) R (by simp [g_X7_fault_0, g_X7_fault, v1, hv]) (by simp [g_X8_fault_0, g_X8_fault, rAre E, if_pos hn, v2, hv])
  rw [hv] at v1 v2
  obtain ⟨k, hk, rfl, hrow⟩ := wr_0 R hv
  obtain ⟨N, hN, rfl, hN2⟩ := nOf E.1 hn
  obtain ⟨h1, e1, f1⟩ := l_cflt hN hN2 hk (row := fun i => gI h 109 (40 * k + i)) N 0 4000 h (by omega) (by omega) E hrow
  have E1 := EN_fr f1 E
  obtain ⟨h2, e2, f2⟩ := l_rflt hN hN2 hk (row := fun i => gI h 109 (40 * k + i)) N 0 4000 h1 (by omega) (by omega) E1 (fun i hi => f1.i (by unfold SX; omega))
  have w2 := r_wrong h1 (iN k)
  rw [wr_fr f1, hv] at w2
  have s2 : g_X8_areSteps (iN N) h1 = some (1, h1) := by rw [rAre E1, if_pos hn]
  exact ⟨_, h1, h2, cn_fault 4000 v1 e1, rn_fault 4000 s2 w2 e2, Rel_fr (f1.tr f2) R⟩
noncomputable def flm (r : RP) (c : Nat) : Int32 := if c < 12 then thk r c else 0
theorem l_cfilm {r : RP} {h : Hp} (R : CR 82 r h) (H : okP r) {s : Nat} (hs : s < 4) (hz : gI h (72 + 2 * s) 2 = 12) (h2 : gI h (72 + 2 * s) 1 = 2) (j : Nat) : ∀ (k m : Nat), k + j = 12 → j < m → g_X7_film_46 4000 m (iN s) (iN k) (hrw h (73 + 2 * s) 0 k (thk r)) = some (12, hrw h (73 + 2 * s) 0 12 (thk r)) := by
  induction j with
  | zero =>
    intro k m ek hm
    obtain ⟨m, rfl⟩ : ∃ z, m = z + 1 := ⟨m - 1, by omega⟩
    obtain rfl : k = 12 := by omega
    rw [g_X7_film_46, if_pos i12e]
  | succ j ih =>
    intro k m ek hm
    obtain ⟨m, rfl⟩ : ∃ z, m = z + 1 := ⟨m - 1, by omega⟩
    obtain ⟨g, eg⟩ : ∃ g, g = hrw h (73 + 2 * s) 0 k (thk r) := ⟨_, rfl⟩
    have fg : Fr (fun a _ => a = 73 + 2 * s) h g := by rw [eg]; exact (Fr.rfl' _ _).rw' _ (fun k _ _ => rfl)
    have Rg : CR 82 r g := CR_fr fg (fun a k => by omega) R
    have z2 : gI g (72 + 2 * s) 2 = 12 := by rw [fg.i (by omega)]; exact hz
    have z1 : gI g (72 + 2 * s) 1 = 2 := by rw [fg.i (by omega)]; exact h2
    have hput : g_X4_put (72 + 2 * s) (iN k) (thk r k) g = some (hsi g (73 + 2 * s) k (thk r k)) := by
      unfold g_X4_put g_X4_put_0
      have c1 : 0 ≤ iN k ∧ 0 ≤ (1 : Int32) ∧ iN k ≤ 12 ∧ 1 ≤ 12 - iN k := by
        have a1 := iN0 (k := k) (n := 12) (by omega) (by decide)
        have a2 : iN k < 12 := a1.2
        exact ⟨a1.1, by decide, by lia, by have := a1.1; lia⟩
      rw [chas s _ _ g (by rw [z2]; exact ⟨by decide, by decide⟩), z2, if_pos c1, Option.bind_some, if_neg (fun e => absurd e (show ¬ (1 : Int32) = 0 by decide)), z1, if_pos (show (2 : Int32) ≠ 0 by decide), if_pos (show (2 : Int32) ≠ 1 by decide)]
      unfold g_X4_put_40
      rw [if_pos (iN_inb (by omega) (by decide)), iN_ix (by omega), show 72 + 2 * s + 1 = 73 + 2 * s by omega]
    rw [← eg, g_X7_film_46, if_neg (i12 (by omega)), if_pos (iN_inb hs (by decide)), c_thick Rg H (by omega), Option.bind_some, iN_ix (by omega)]
    dsimp only
    rw [hput, Option.bind_some, iN_add (by omega), eg, hrw_s0 h (73 + 2 * s) k (thk r) rfl]
    exact ih (k + 1) m (by omega) (by omega)
theorem l_rfilm {r : RP} {h : Hp} (R : RR r h) (H : okP r) {s : Nat} (hs : s < 4) (j : Nat) : ∀ (k m : Nat), k + j = 40 → j < m → g_X8_film_45 4000 m (iN s) (iN k) (hrw h 109 (40 * s) k (flm r)) = some (12, hrw h 109 (40 * s) 40 (flm r)) := by
  induction j with
  | zero =>
    intro k m ek hm
    obtain ⟨m, rfl⟩ : ∃ z, m = z + 1 := ⟨m - 1, by omega⟩
    obtain rfl : k = 40 := by omega
    rw [g_X8_film_45, if_pos (by decide)]
  | succ j ih =>
    intro k m ek hm
    obtain ⟨m, rfl⟩ : ∃ z, m = z + 1 := ⟨m - 1, by omega⟩
    obtain ⟨m1, m2, m3⟩ := m40 (k := k) hs (by omega)
    have Rg : RR r (hrw h 109 (40 * s) k (flm r)) := RR_fr ((Fr.rfl' (fun a _ => a = 109) h).rw' _ (fun k _ _ => rfl)) (fun a k => by omega) R
    have fin' : ∀ v, v = flm r k → g_X8_film_76 4000 (g_X8_film_45 4000 m) (iN s) (iN k) 109 (40 * iN s + iN k) v (hrw h 109 (40 * s) k (flm r)) = some (12, hrw h 109 (40 * s) 40 (flm r)) := by
      intro v hv
      rw [g_X8_film_76, m1, if_pos m2, m3, iN_add (by omega), hrw_s h 109 (40 * s) k (flm r) hv]
      exact ih (k + 1) m (by omega) (by omega)
    rw [g_X8_film_45, if_neg (i40 (by omega))]
    by_cases c : k < 12
    · rw [if_neg (i12 c), r_thick Rg H c, Option.bind_some]
      exact fin' _ (by unfold flm; rw [if_pos c])
    · rw [if_pos (by show iN 12 ≤ iN k; rw [iN_le (by omega) (by omega)]; omega)]
      exact fin' _ (by unfold flm; rw [if_neg c])
theorem cn_film (n : Nat) {a v : Int32} {s : Nat} {h h1 h2 h3 : Hp} (ha : g_X7_areSteps a h = some (1, h)) (hs : 0 ≤ iN s ∧ iN s ≤ 3) (hin : inb (iN s) 4 = true) (hix : ix (iN s) = s) (e1 : g_X7_make n 17 a (-1) (-1) h = some h1) (e2 : g_X4_become n (72 + 2 * s) 2 12 h1 = some h2) (e3 : g_X7_film_46 n n (iN s) 0 h2 = some (v, h3)) : g_X7_film n a (iN s) h = some (v, h3) := by
  simp only [g_X7_film_0, g_X7_film, ha, csheet, if_pos hs, Option.bind_some, ne10, eq10, ne_eq, not_false_eq_true, if_true, if_false, e1, hin, hix, e2]
  exact e3
theorem rn_film (n : Nat) {a v : Int32} {s : Nat} {h h1 h3 : Hp} (ha : g_X8_areSteps a h = some (1, h)) (hs : 0 ≤ iN s ∧ iN s ≤ 3) (hin : inb (iN s) 4 = true) (hix : ix (iN s) = s) (e1 : g_X8_goes n a h = some h1) (e3 : g_X8_film_45 n n (iN s) 0 (hsi (hsi h1 107 s 2) 108 s 12) = some (v, h3)) : g_X8_film n a (iN s) h = some (v, h3) := by
  simp only [g_X8_film_76, g_X8_film_35, g_X8_film_0, g_X8_film, ha, wI, if_pos hs, Option.bind_some, ne10, eq10, ne_eq, not_false_eq_true, if_true, if_false, e1, hin, hix]
  exact e3
theorem pr_film {L : Nat} {h : Hp} (R : Rel L h) (a s : Int32) : Pair L (g_X7_film 4000 a s) (g_X8_film 4000 a s) h := by
  obtain ⟨σ, T, M, Ln, w, wm, t, E⟩ := EN_of R
  by_cases hn : 0 ≤ a ∧ a ≤ σ.1
  case neg => exact Pair.pure (-5) R (by simp [g_X7_film_0, g_X7_film, cAre E, if_neg hn]) (by simp [g_X8_film_76, g_X8_film_35, g_X8_film_0, g_X8_film, rAre E, if_neg hn])
  by_cases hb : 0 ≤ s ∧ s ≤ 3
  case neg => exact Pair.pure (-2) R (by simp [g_X7_film_0, g_X7_film, cAre E, if_pos hn, csheet, if_neg hb]) (by simp [g_X8_film_76, g_X8_film_35, g_X8_film_0, g_X8_film, rAre E, if_pos hn, wI, if_neg hb])
  obtain ⟨k, hk, rfl⟩ := iex (n := 4) (by decide) hb.1 (by show s < 4; lia)
  have hin := iN_inb hk (show 4 < 2147483648 by decide)
  have hix := iN_ix (k := k) (by omega)
  obtain ⟨N, hN, rfl, hN2⟩ := nOf E.1 hn
  have H : okP (gr0 σ T M Ln w wm (-1) N) := EN_ok E 0 0 (-1) hN hN2
  obtain ⟨r, hr0⟩ : ∃ r, r = gr0 σ T M Ln w wm (-1) N := ⟨_, rfl⟩
  obtain ⟨h1, e1, c1, -, f1⟩ := mkC E (-1) hN hN2
  rw [← hr0] at c1 H
  have e2 := c_shbec k 2 12 (by decide) h1
  have f2 : Fr (fun a _ => a = 72 + 2 * k ∨ a = 73 + 2 * k) h1 (hsh k 2 12 h1) := by
    unfold hsh
    refine ((((Fr.rfl' _ _).si _ ?_).si _ ?_).rw' _ (fun k _ _ => ?_)) <;> omega
  have g1 : gI (hsh k 2 12 h1) (72 + 2 * k) 1 = 2 := by unfold hsh; rw [gI_hrw, if_neg (by omega), gI_hsi, if_neg (by omega), gI_hsi, if_pos ⟨rfl, rfl⟩]
  have g2 : gI (hsh k 2 12 h1) (72 + 2 * k) 2 = 12 := by unfold hsh; rw [gI_hrw, if_neg (by omega), gI_hsi, if_pos ⟨rfl, rfl⟩]
  have g3 : ∀ i, i < 40 → gI (hsh k 2 12 h1) (73 + 2 * k) i = 0 := fun i hi => by unfold hsh; rw [gI_hrw, if_pos (by omega)]
  have c2 : CR 82 r (hsh k 2 12 h1) := CR_fr f2 (fun a k => by omega) c1
  have e3 := l_cfilm c2 H hk g2 g1 12 0 4000 rfl (by omega)
  rw [hrw_0] at e3
  obtain ⟨h3, q3⟩ : ∃ h3, h3 = hrw (hsh k 2 12 h1) (73 + 2 * k) 0 12 (thk r) := ⟨_, rfl⟩
  rw [← q3] at e3
  have f3 : Fr (fun a _ => a = 72 + 2 * k ∨ a = 73 + 2 * k) h1 h3 := by rw [q3]; exact f2.rw' _ (fun k _ _ => by omega)
  -- the reference's world is as it was
  have E3 : EN σ T M Ln w wm t h3 := by
    obtain ⟨a1, a2, a3, a4, a5, a6, a7, a8, a9, a10, a11, a12, a13, a14⟩ := EN_fr f1 E
    refine ⟨a1, CS_fr f3 (fun a k => by unfold Scs; omega) a2, RS_fr f3 (fun a k => by unfold Srs; omega) a3, a4, a5, TxC_c (fun a k q => f3.i (by omega)) a6, TxR_c (fun a k q => f3.i (by omega)) a4 a7, ⟨fun i hi => ?_, ?_, ?_, ?_⟩, fun i hi => ?_, ?_, ?_, ?_, ?_, a14⟩
    · rw [f3.i (by omega), f3.i (by omega)]; exact a8.1 i hi
    · rw [f3.i (by omega)]; exact a8.2.1
    · rw [f3.i (by omega)]; exact a8.2.2.1
    · rw [f3.i (by omega)]; exact a8.2.2.2
    · rw [f3.i (by omega), f3.i (by omega)]; exact a9 i hi
    · rw [f3.i (by omega)]; exact a10
    · rw [f3.i (by omega)]; exact a11
    · rw [f3.i (by omega)]; exact a12
    · rw [f3.i (by omega)]; exact a13
  obtain ⟨h4, e4, c4, -, f4⟩ := mkG E3 hN hN2
  rw [← hr0] at c4
  have c5 : RR r (hsi (hsi h4 107 k 2) 108 k 12) := RR_fr (((Fr.rfl' (fun a _ => a = 107 ∨ a = 108) h4).si _ (Or.inl rfl)).si _ (Or.inr rfl)) (fun a k => by omega) c4
  have e5 := l_rfilm c5 H hk 40 0 4000 rfl (by omega)
  rw [hrw_0] at e5
  obtain ⟨h5, q5⟩ : ∃ h5, h5 = hrw (hsi (hsi h4 107 k 2) 108 k 12) 109 (40 * k) 40 (flm r) := ⟨_, rfl⟩
  rw [← q5] at e5
  have s1 : g_X7_areSteps (iN N) h = some (1, h) := by rw [cAre E, if_pos hn]
  have s2 : g_X8_areSteps (iN N) h3 = some (1, h3) := by rw [rAre E3, if_pos hn]
  refine ⟨12, h3, h5, cn_film 4000 s1 hb hin hix e1 e2 e3, rn_film 4000 s2 hb hin hix e4 e5, ?_⟩
  have g5 : ∀ a i, gI h5 a i = if a = 109 ∧ 40 * k ≤ i ∧ i < 40 * k + 40 then flm r (i - 40 * k) else if a = 108 ∧ i = k then 12 else if a = 107 ∧ i = k then 2 else gI h4 a i := by
    intro a i; rw [q5, gI_hrw, gI_hsi, gI_hsi]
  refine Rel_Sh R ?_ (fun a i q1 q2 => ?_) (fun z hz => ?_)
  · rw [q5]; exact f4.1.trans (f3.1.trans f1.1)
  · rw [g5, if_neg (by omega), if_neg (by omega), if_neg (by omega), f4.i q2, f3.i (by omega), f1.i q2]
  · have rz := R.2.2.2.2.2.2.2.1 z hz
    by_cases e : z = k
    · subst e
      have b1 : gI h5 (72 + 2 * z) 1 = 2 := by rw [g5, if_neg (by omega), if_neg (by omega), if_neg (by omega), f4.i (by unfold SX; omega), q3, gI_hrw, if_neg (by omega)]; exact g1
      have b2 : gI h5 (72 + 2 * z) 2 = 12 := by rw [g5, if_neg (by omega), if_neg (by omega), if_neg (by omega), f4.i (by unfold SX; omega), q3, gI_hrw, if_neg (by omega)]; exact g2
      have b3 : gI h5 107 z = 2 := by rw [g5, if_neg (by omega), if_neg (by omega), if_pos ⟨rfl, rfl⟩]
      have b4 : gI h5 108 z = 12 := by rw [g5, if_neg (by omega), if_pos ⟨rfl, rfl⟩]
      rw [b1, b2, b3, b4]
      refine ⟨rfl, Or.inr ⟨by decide, by decide, rfl, by decide, by decide, fun i hi => ?_⟩⟩
      rw [g5 109, if_pos (by omega), g5, if_neg (by omega), if_neg (by omega), if_neg (by omega), f4.i (by unfold SX; omega), q3, gI_hrw]
      unfold flm
      by_cases c : i < 12
      · rw [if_pos (by omega), if_pos (by omega)]; congr 1; omega
      · rw [if_neg (by omega), if_neg (by omega)]; exact g3 i hi
    · have o : ∀ a i, (a = 72 + 2 * z ∨ a = 73 + 2 * z ∨ (a = 107 ∧ i = z) ∨ (a = 108 ∧ i = z) ∨ (a = 109 ∧ 40 * z ≤ i ∧ i < 40 * z + 40)) → gI h5 a i = gI h a i := by
        intro a i q
        rw [g5, if_neg (by omega), if_neg (by omega), if_neg (by omega), f4.i (by unfold SX; omega), f3.i (by omega), f1.i (by unfold SX; omega)]
      rw [o _ _ (by omega), o 107 _ (by omega), o (72 + 2 * z) 2 (by omega), o 108 _ (by omega)]
      refine ⟨rz.1, rz.2.imp id (fun w => ⟨w.1, w.2.1, w.2.2.1, w.2.2.2.1, w.2.2.2.2.1, fun i hi => ?_⟩)⟩
      rw [o _ _ (by omega), o 109 _ (by omega)]
      exact w.2.2.2.2.2 i hi
