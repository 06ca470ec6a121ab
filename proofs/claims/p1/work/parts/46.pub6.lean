/-! serves, which, uneven: the dough supposed -/
noncomputable def orb (b : Nat → Int32) : Nat → Nat → Int32 → Int32
  | 0, _, acc => acc
  | j + 1, k, acc => orb b j (k + 1) (acc ||| b k)
noncomputable def bitOf (σ : SS) (T : Nat → List Int32) (M Ln : Nat → Int32) (N : Nat) (row : Nat → Int32) (w wm : Int32) (k : Nat) : Int32 := if fof (gr0 σ T M Ln w wm (-1) N) row 0 12 0 ≠ -1 then 0 else 1 <<< (iN k &&& 31)
noncomputable def svw (p q : Nat) (w : Int32) (k : Nat) : Int32 := if p = q then iN k else w
theorem svw_b {p q k : Nat} {w : Int32} (h : 0 ≤ w.toInt ∧ w.toInt ≤ 9) (hk : k < 10) : 0 ≤ (svw p q w k).toInt ∧ (svw p q w k).toInt ≤ 9 := by
  unfold svw
  by_cases c : p = q
  · rw [if_pos c]
    have a := iN0 (k := k) (n := 10) hk (by decide)
    have b := le32.mp a.1
    have d : iN k ≤ 9 := by have := a.2; have : iN k < 10 := this; lia
    have d' := le32.mp d
    exact ⟨b, d'⟩
  · rw [if_neg c]; exact h
/-- what the class stands on -/
noncomputable def E25 (σ : SS) (T : Nat → List Int32) (M Ln : Nat → Int32) (t : Nat) (h : Hp) : Prop :=
  okS σ ∧ CS σ h ∧ okT T ∧ t < 6 ∧ TxC t T h ∧ (∀ c, c < 12 → 0 ≤ (M c).toInt ∧ (M c).toInt ≤ 200000) ∧ (∀ c, c < 12 → 1 ≤ (Ln c).toInt ∧ (Ln c).toInt ≤ 1000000) ∧ ∀ i, i < 12 → gI h 26 i = M i ∧ gI h 27 i = Ln i
theorem mk25 {σ : SS} {T : Nat → List Int32} {M Ln : Nat → Int32} {t : Nat} {h : Hp} (E : E25 σ T M Ln t h) {w wm : Int32} (hw : 0 ≤ wm.toInt ∧ wm.toInt ≤ 9) (e1 : gI h 28 0 = w) (e2 : gI h 28 2 = wm) (e3 : gI h 25 3 = iN t) {N : Nat} (hN : N ≤ 12) (hN2 : ∀ k, k < N → iN k < σ.1) : okP (gr0 σ T M Ln w wm (-1) N) ∧ ∃ h1, g_X7_make 4000 25 (iN N) (-1) (-1) h = some h1 ∧ CR 82 (gr0 σ T M Ln w wm (-1) N) h1 ∧ Fr SM h h1 := by
  obtain ⟨a1, a2, a3, a4, a5, a6, a7, a8⟩ := E
  obtain ⟨h1, b1, b2, b3, b4, b5⟩ := c_go (v1 := 25) (T := T) (by omega) a1 a6 a7 hw ⟨a8, e1, e2, e3⟩ a4 a3 a5 a2 (-1) (-1) 0 (Or.inl ⟨rfl, rfl⟩) hN hN2
  exact ⟨okP_go a1 a6 a7 hw 0 (-1) N hN hN2, h1, b1, b2, b5⟩
theorem E25_fr {σ : SS} {T : Nat → List Int32} {M Ln : Nat → Int32} {t : Nat} {h h1 : Hp} (f : Fr (fun a k => SM a k ∨ a = 28 ∨ a = 25) h h1) (E : E25 σ T M Ln t h) : E25 σ T M Ln t h1 := by
  obtain ⟨a1, a2, a3, a4, a5, a6, a7, a8⟩ := E
  refine ⟨a1, CS_fr f (fun a k => by unfold Scs SM isStk; omega) a2, a3, a4, TxC_c (fun a k q => f.i (by unfold SM isStk; omega)) a5, a6, a7, fun i hi => ?_⟩
  rw [f.i (by unfold SM isStk; omega), f.i (by unfold SM isStk; omega)]
  exact a8 i hi
theorem l_csv {σ : SS} {T : Nat → List Int32} {M Ln : Nat → Int32} {w wm : Int32} {t N s p : Nat} (hp : p < 3) (hwm : 0 ≤ wm.toInt ∧ wm.toInt ≤ 9) (hN : N ≤ 12) (hN2 : ∀ k, k < N → iN k < σ.1) (hs : s < 4) {row : Nat → Int32} (j : Nat) : ∀ (k m : Nat) (acc : Int32) (h : Hp), k + j = 10 → j < m → E25 σ T M Ln t h → (p ≠ 0 → gI h 28 0 = w) → (p ≠ 2 → gI h 28 2 = wm) → gI h 25 3 = iN t → (∀ i, i < 12 → gI h (73 + 2 * s) i = row i) → ∃ h', g_X7_serves_45 4000 m (iN N) (iN s) (iN p) acc (iN k) h = some (orb (fun k => bitOf σ T M Ln N row (svw p 0 w k) (svw p 2 wm k) k) j k acc, h') ∧ Fr SX h h' := by
  induction j with
  | zero =>
    intro k m acc h ek hm E w0 w2 ht hr
    obtain ⟨m, rfl⟩ : ∃ z, m = z + 1 := ⟨m - 1, by omega⟩
    obtain rfl : k = 10 := by omega
    exact ⟨h, by rw [g_X7_serves_45, if_pos (by decide)]; rfl, Fr.rfl' _ _⟩
  | succ j ih =>
    intro k m acc h ek hm E w0 w2 ht hr
    obtain ⟨m, rfl⟩ : ∃ z, m = z + 1 := ⟨m - 1, by omega⟩
    have o1 : k + 1 + j = 10 := by omega
    have o2 : j < m := by omega
    have o3 : k < 10 := by omega
    have o4 : k < 2147483647 := by omega
    have o5 : ¬ (9 : Int32) < iN k := by rw [show (9 : Int32) = iN 9 from rfl, iN_lt (by omega) (by omega)]; omega
    have o7 := iN_inb hs (show 4 < 2147483648 by decide)
    have o8 := iN_ix (k := s) (by omega)
    have o9 := iN_inb hp (show 3 < 2147483648 by decide)
    have o10 := iN_ix (k := p) (by omega)
    obtain ⟨h0, e0⟩ : ∃ h0, h0 = hsi h 28 p (iN k) := ⟨_, rfl⟩
    have f0 : Fr (fun a _ => a = 28) h h0 := by rw [e0]; exact (Fr.rfl' _ _).si _ rfl
    have E0 := E25_fr (f0.mono (fun a k q => Or.inr (Or.inl q))) E
    have v0 : gI h0 28 0 = svw p 0 w k := by
      unfold svw; rw [e0, gI_hsi]
      by_cases c : p = 0
      · rw [if_pos ⟨rfl, c.symm⟩, if_pos c]
      · rw [if_neg (by omega), if_neg c]; exact w0 c
    have v2 : gI h0 28 2 = svw p 2 wm k := by
      unfold svw; rw [e0, gI_hsi]
      by_cases c : p = 2
      · rw [if_pos ⟨rfl, c.symm⟩, if_pos c]
      · rw [if_neg (by omega), if_neg c]; exact w2 c
    have v3 : gI h0 25 3 = iN t := by rw [e0, gI_hsi, if_neg (by omega)]; exact ht
    obtain ⟨H, h1, b1, R1, f1⟩ := mk25 E0 (svw_b hwm o3) v0 v2 v3 hN hN2
    have fr1 : Fr SX h h1 := (f0.mono (fun a k q => by unfold SX; omega)).tr (f1.mono (fun a k z => SM_SX z))
    have hr1 : ∀ i, i < 12 → gI h1 (73 + 2 * s) i = row i := fun i hi => by rw [fr1.i (by unfold SX; omega)]; exact hr i hi
    have ct := c_told R1 H hr1
    have bt : ∀ acc2, acc2 = acc ||| bitOf σ T M Ln N row (svw p 0 w k) (svw p 2 wm k) k → ∃ h', g_X7_serves_45 4000 m (iN N) (iN s) (iN p) acc2 (iN (k + 1)) h1 = some (orb (fun k => bitOf σ T M Ln N row (svw p 0 w k) (svw p 2 wm k) k) (j + 1) k acc, h') ∧ Fr SX h h' := by
      intro acc2 ha
      obtain ⟨h2, a2, f2⟩ := ih (k + 1) m acc2 h1 o1 o2 (E25_fr (f1.mono (fun a k q => Or.inl q)) E0) (fun c => by rw [f1.i (by unfold SM isStk; omega), v0]; unfold svw; rw [if_neg c]) (fun c => by rw [f1.i (by unfold SM isStk; omega), v2]; unfold svw; rw [if_neg c]) (by rw [f1.i (by unfold SM isStk; omega)]; exact v3) hr1
      refine ⟨h2, ?_, fr1.tr f2⟩
      rw [a2, ha]; rfl
    rw [g_X7_serves_45, if_neg o5, if_pos o9, o10, ← e0, g_X7_serves_63, b1, Option.bind_some, if_pos o7, o8, ct, Option.bind_some]
    unfold bitOf at bt
    by_cases z : fof (gr0 σ T M Ln (svw p 0 w k) (svw p 2 wm k) (-1) N) row 0 12 0 ≠ -1
    · rw [if_pos z, if_pos rfl, g_X7_serves_99, iN_add o4]
      exact bt acc (by rw [if_pos z, Int32.or_zero])
    · rw [if_neg z, if_neg (fun e => absurd e (show ¬ (1 : Int32) = 0 by decide)), g_X7_serves_99, iN_add o4]
      exact bt _ (by rw [if_neg z])
/-- what the reference stands on -/
noncomputable def E97 (σ : SS) (T : Nat → List Int32) (M Ln : Nat → Int32) (t : Nat) (h : Hp) : Prop :=
  okS σ ∧ RS σ h ∧ okT T ∧ t < 6 ∧ TxR t T h ∧ (∀ c, c < 12 → 0 ≤ (M c).toInt ∧ (M c).toInt ≤ 200000) ∧ (∀ c, c < 12 → 1 ≤ (Ln c).toInt ∧ (Ln c).toInt ≤ 1000000) ∧ (∀ i, i < 12 → gI h 97 i = M i ∧ gI h 98 i = Ln i) ∧ gI h 96 45 = 0
theorem mk97 {σ : SS} {T : Nat → List Int32} {M Ln : Nat → Int32} {t : Nat} {h : Hp} (E : E97 σ T M Ln t h) {w wm : Int32} (hw : 0 ≤ wm.toInt ∧ wm.toInt ≤ 9) (e1 : gI h 96 2 = w) (e2 : gI h 96 4 = wm) (e3 : gI h 96 14 = iN t) {N : Nat} (hN : N ≤ 12) (hN2 : ∀ k, k < N → iN k < σ.1) : okP (gr0 σ T M Ln w wm (-1) N) ∧ ∃ h1, g_X8_goes 4000 (iN N) h = some h1 ∧ RR (gr0 σ T M Ln w wm (-1) N) h1 ∧ Fr SR h h1 := by
  obtain ⟨a1, a2, a3, a4, a5, a6, a7, a8, a9⟩ := E
  have E' : RE (0, T, w, wm) h := ⟨Or.inl ⟨rfl, a9⟩, e1, e2, a3, t, a4, e3, a5⟩
  obtain ⟨h1, b1, b2, b3, b5⟩ := r_go (e := (0, T, w, wm)) (lot := 0) a1 a6 a7 hw E' (fun z => absurd rfl z) a2 a8 (-1) hN hN2
  exact ⟨okP_go a1 a6 a7 hw 0 (-1) N hN hN2, h1, r_goes b1, b2, b5⟩
noncomputable def SQ (a k : Nat) : Prop := SR a k ∨ (a = 96 ∧ 2 ≤ k ∧ k ≤ 4) ∨ (a = 96 ∧ k = 14)
theorem E97_fr {σ : SS} {T : Nat → List Int32} {M Ln : Nat → Int32} {t : Nat} {h h1 : Hp} (f : Fr SQ h h1) (E : E97 σ T M Ln t h) : E97 σ T M Ln t h1 := by
  obtain ⟨a1, a2, a3, a4, a5, a6, a7, a8, a9⟩ := E
  refine ⟨a1, RS_fr f (fun a k => by unfold Srs SQ SR; omega) a2, a3, a4, TxR_c (fun a k q => f.i (by unfold SQ SR; omega)) a3 a5, a6, a7, fun i hi => ?_, ?_⟩
  · rw [f.i (by unfold SQ SR; omega), f.i (by unfold SQ SR; omega)]; exact a8 i hi
  · rw [f.i (by unfold SQ SR; omega)]; exact a9
theorem rHold {p : Nat} (hp : p < 3) (v : Int32) (h : Hp) : ∃ h', g_X8_holds0 (iN p) v h = some h' ∧ (∀ a i, gI h' a i = if a = 96 ∧ i = 2 + p then v else gI h a i) ∧ Fr (fun a i => a = 96 ∧ 2 ≤ i ∧ i ≤ 4) h h' := by
  have hf : ∀ x y z, Fr (fun a i => a = 96 ∧ 2 ≤ i ∧ i ≤ 4) h (hsi (hsi (hsi h 96 2 x) 96 3 y) 96 4 z) := fun x y z => (((Fr.rfl' _ _).si _ (by omega)).si _ (by omega)).si _ (by omega)
  have hp' : p = 0 ∨ p = 1 ∨ p = 2 := by omega
  rcases hp' with rfl | rfl | rfl
  · refine ⟨_, by rw [show iN 0 = (0 : Int32) from rfl]; simp only [g_X8_holds0_47, g_X8_holds0_33, g_X8_holds0_30, g_X8_holds0_16, g_X8_holds0_13, g_X8_holds0_0, g_X8_holds0]; rw [if_neg (by decide), if_pos (by decide), if_pos (by decide)], fun a i => ?_, hf _ _ _⟩
    simp only [gI_hsi]
    by_cases c : a = 96
    · subst c
      by_cases c2 : i = 2
      · subst c2; simp
      · by_cases c3 : i = 3
        · subst c3; simp
        · by_cases c4 : i = 4
          · subst c4; simp
          · simp [c2, c3, c4]
    · simp [c]
  · refine ⟨_, by rw [show iN 1 = (1 : Int32) from rfl]; simp only [g_X8_holds0_47, g_X8_holds0_33, g_X8_holds0_30, g_X8_holds0_16, g_X8_holds0_13, g_X8_holds0_0, g_X8_holds0]; rw [if_pos (by decide), if_neg (by decide), if_pos (by decide)], fun a i => ?_, hf _ _ _⟩
    simp only [gI_hsi]
    by_cases c : a = 96
    · subst c
      by_cases c2 : i = 2
      · subst c2; simp
      · by_cases c3 : i = 3
        · subst c3; simp
        · by_cases c4 : i = 4
          · subst c4; simp
          · simp [c2, c3, c4]
    · simp [c]
  · refine ⟨_, by rw [show iN 2 = (2 : Int32) from rfl]; simp only [g_X8_holds0_47, g_X8_holds0_33, g_X8_holds0_30, g_X8_holds0_16, g_X8_holds0_13, g_X8_holds0_0, g_X8_holds0]; rw [if_pos (by decide), if_pos (by decide), if_neg (by decide)], fun a i => ?_, hf _ _ _⟩
    simp only [gI_hsi]
    by_cases c : a = 96
    · subst c
      by_cases c2 : i = 2
      · subst c2; simp
      · by_cases c3 : i = 3
        · subst c3; simp
        · by_cases c4 : i = 4
          · subst c4; simp
          · simp [c2, c3, c4]
    · simp [c]
theorem l_rsv {σ : SS} {T : Nat → List Int32} {M Ln : Nat → Int32} {w wm : Int32} {t N s p : Nat} (hp : p < 3) (hwm : 0 ≤ wm.toInt ∧ wm.toInt ≤ 9) (hN : N ≤ 12) (hN2 : ∀ k, k < N → iN k < σ.1) (hs : s < 4) {row : Nat → Int32} (v5 : Int32) (j : Nat) : ∀ (k m : Nat) (acc : Int32) (h : Hp), k + j = 10 → j < m → E97 σ T M Ln t h → (p ≠ 0 → gI h 96 2 = w) → (p ≠ 2 → gI h 96 4 = wm) → gI h 96 14 = iN t → (∀ i, i < 12 → gI h 109 (40 * s + i) = row i) → ∃ h', g_X8_serves_51 4000 m (iN N) (iN s) (iN p) v5 acc (iN k) h = some (orb (fun k => bitOf σ T M Ln N row (svw p 0 w k) (svw p 2 wm k) k) j k acc, h') ∧ h'.1 = h.1 ∧ (∀ a i, ¬ SR a i → gI h' a i = if a = 96 ∧ i = 2 + p then v5 else gI h a i) := by
  induction j with
  | zero =>
    intro k m acc h ek hm E w0 w2 ht hr
    obtain ⟨m, rfl⟩ : ∃ z, m = z + 1 := ⟨m - 1, by omega⟩
    obtain rfl : k = 10 := by omega
    obtain ⟨h', a1, a2, a3⟩ := rHold hp v5 h
    exact ⟨h', by rw [g_X8_serves_51, if_pos (by decide), a1, Option.bind_some]; rfl, a3.1, fun a i _ => a2 a i⟩
  | succ j ih =>
    intro k m acc h ek hm E w0 w2 ht hr
    obtain ⟨m, rfl⟩ : ∃ z, m = z + 1 := ⟨m - 1, by omega⟩
    have o1 : k + 1 + j = 10 := by omega
    have o2 : j < m := by omega
    have o3 : k < 10 := by omega
    have o4 : k < 2147483647 := by omega
    have o5 : ¬ (9 : Int32) < iN k := by rw [show (9 : Int32) = iN 9 from rfl, iN_lt (by omega) (by omega)]; omega
    obtain ⟨h0, a0, g0, f0⟩ := rHold hp (iN k) h
    have E0 := E97_fr (f0.mono (fun a k q => Or.inr (Or.inl q))) E
    have v0 : gI h0 96 2 = svw p 0 w k := by
      unfold svw; rw [g0]
      by_cases c : p = 0
      · rw [if_pos (by omega), if_pos c]
      · rw [if_neg (by omega), if_neg c]; exact w0 c
    have v2 : gI h0 96 4 = svw p 2 wm k := by
      unfold svw; rw [g0]
      by_cases c : p = 2
      · rw [if_pos (by omega), if_pos c]
      · rw [if_neg (by omega), if_neg c]; exact w2 c
    have v3 : gI h0 96 14 = iN t := by rw [g0, if_neg (by omega)]; exact ht
    obtain ⟨H, h1, b1, R1, f1⟩ := mk97 E0 (svw_b hwm o3) v0 v2 v3 hN hN2
    have hr1 : ∀ i, i < 12 → gI h1 109 (40 * s + i) = row i := fun i hi => by rw [f1.i (by unfold SR; omega), g0, if_neg (by omega)]; exact hr i hi
    have ct := r_off R1 H hs hr1 0
    have bt : ∀ b, b = bitOf σ T M Ln N row (svw p 0 w k) (svw p 2 wm k) k → ∃ h', g_X8_serves_51 4000 m (iN N) (iN s) (iN p) v5 (acc ||| b) (iN (k + 1)) h1 = some (orb (fun k => bitOf σ T M Ln N row (svw p 0 w k) (svw p 2 wm k) k) (j + 1) k acc, h') ∧ h'.1 = h.1 ∧ (∀ a i, ¬ SR a i → gI h' a i = if a = 96 ∧ i = 2 + p then v5 else gI h a i) := by
      intro b hb
      obtain ⟨h2, a2, k2, f2⟩ := ih (k + 1) m (acc ||| b) h1 o1 o2 (E97_fr (f1.mono (fun a k q => Or.inl q)) E0) (fun c => by rw [f1.i (by unfold SR; omega), v0]; unfold svw; rw [if_neg c]) (fun c => by rw [f1.i (by unfold SR; omega), v2]; unfold svw; rw [if_neg c]) (by rw [f1.i (by unfold SR; omega)]; exact v3) hr1
      refine ⟨h2, ?_, k2.trans (f1.1.trans f0.1), fun a i q => ?_⟩
      · rw [a2, hb]; rfl
      · rw [f2 a i q]
        by_cases c : a = 96 ∧ i = 2 + p
        · rw [if_pos c, if_pos c]
        · rw [if_neg c, if_neg c, f1.i q, g0, if_neg c]
    rw [g_X8_serves_51, if_neg o5, a0, Option.bind_some, b1, Option.bind_some, ct, Option.bind_some]
    unfold bitOf at bt
    by_cases z : fof (gr0 σ T M Ln (svw p 0 w k) (svw p 2 wm k) (-1) N) row 0 12 0 ≠ -1
    · rw [if_pos z, g_X8_serves_90, iN_add o4]
      exact bt 0 (by rw [if_pos z])
    · rw [if_neg z, g_X8_serves_90, iN_add o4]
      exact bt _ (by rw [if_neg z])
