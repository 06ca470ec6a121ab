/-! uneven -/
theorem thk_b {r : RP} (H : okP r) {c : Nat} (hc : c < 12) : 0 ≤ (thk r c).toInt ∧ (thk r c).toInt ≤ 200000 := by
  obtain ⟨⟨a1, a2⟩, ⟨b1, b2⟩, -⟩ := H c hc
  unfold thk
  rw [td b1 (by omega)]
  refine ⟨Int.ediv_nonneg b1 (by omega), ?_⟩
  have := Int.ediv_le_self (rL r c).toInt b1
  omega
theorem spr_b {r : RP} (H : okP r) : -200000 ≤ (spr r).toInt ∧ (spr r).toInt ≤ 200000 := by
  have a := thk_b H (c := lst r 11) (by have := lst_lt r 11; omega)
  have b := thk_b H (c := gst r 11) (by have := gst_lt r 11; omega)
  unfold spr thi tlo
  rw [ts] <;> omega
noncomputable def abs3 (d : Int32) : Int32 := if 0 ≤ d then d else 0 - d
theorem abs3_0 {a b : Int32} (ha : -200000 ≤ a.toInt ∧ a.toInt ≤ 200000) (hb : -200000 ≤ b.toInt ∧ b.toInt ≤ 200000) : 0 ≤ abs3 (a - b) := by
  have e : (a - b).toInt = a.toInt - b.toInt := by rw [ts] <;> omega
  rw [le32]
  unfold abs3
  by_cases c : 0 ≤ a - b
  · rw [if_pos c]; exact le32.mp c
  · rw [if_neg c]
    have c' := mt le32.mpr c
    rw [k_0] at c' ⊢
    rw [ts] <;> rw [k_0] <;> omega
noncomputable def mu1 (M : Nat → Int32) (c : Nat) : Nat → Int32 := upn M c (M c + M c / 10)
noncomputable def ued (σ : SS) (T : Nat → List Int32) (M Ln : Nat → Int32) (w wm : Int32) (N : Nat) (v3 : Int32) (c : Nat) : Int32 := abs3 (spr (gr0 σ T (mu1 M c) Ln w wm (-1) N) - v3)
noncomputable def ubs (σ : SS) (T : Nat → List Int32) (M Ln : Nat → Int32) (w wm : Int32) (N : Nat) (v3 : Int32) : Nat → Int32 × Int32
  | 0 => (0, 0)
  | c + 1 => if ued σ T M Ln w wm N v3 c ≤ (ubs σ T M Ln w wm N v3 c).2 then ubs σ T M Ln w wm N v3 c else (iN c, ued σ T M Ln w wm N v3 c)
theorem mu1_b {M : Nat → Int32} (b1 : ∀ c, c < 12 → 0 ≤ (M c).toInt ∧ (M c).toInt ≤ 99999) {k : Nat} (hk : k < 12) : ∀ c, c < 12 → 0 ≤ (mu1 M k c).toInt ∧ (mu1 M k c).toInt ≤ 200000 := by
  intro c hc
  unfold mu1 upn
  by_cases e : c = k
  · rw [if_pos e]
    have b := b1 k hk
    have d : (M k / 10).toInt = (M k).toInt / 10 := td b.1 (by decide)
    rw [ta] <;> rw [d] <;> omega
  · rw [if_neg e]
    have := b1 c hc
    omega
theorem l_cue {σ : SS} {T : Nat → List Int32} {M Ln : Nat → Int32} {w wm : Int32} {t N : Nat} (b1 : ∀ c, c < 12 → 0 ≤ (M c).toInt ∧ (M c).toInt ≤ 99999) (hwm : 0 ≤ wm.toInt ∧ wm.toInt ≤ 9) (hN : N ≤ 12) (hN2 : ∀ k, k < N → iN k < σ.1) (a v2 v3 : Int32) (j : Nat) : ∀ (k m : Nat) (h : Hp), k + j = 12 → j < m → EN σ T M Ln w wm t h → ∃ h', g_X7_uneven_51 4000 m (iN N) v2 v3 (ubs σ T M Ln w wm N v3 k).1 (ubs σ T M Ln w wm N v3 k).2 (iN k) h = some (if v2 ≠ 0 then (ubs σ T M Ln w wm N v3 12).2 else (ubs σ T M Ln w wm N v3 12).1, h') ∧ Fr SX h h' := by
  induction j with
  | zero =>
    intro k m h ek hm E
    obtain ⟨m, rfl⟩ : ∃ z, m = z + 1 := ⟨m - 1, by omega⟩
    obtain rfl : k = 12 := by omega
    refine ⟨h, ?_, Fr.rfl' _ _⟩
    rw [g_X7_uneven_51, if_pos i12e]
    by_cases c : v2 ≠ 0
    · rw [if_pos c, if_pos c]
    · rw [if_neg c, if_neg c]
  | succ j ih =>
    intro k m h ek hm E
    obtain ⟨m, rfl⟩ : ∃ z, m = z + 1 := ⟨m - 1, by omega⟩
    have o1 : k + 1 + j = 12 := by omega
    have o2 : j < m := by omega
    have o3 : k < 12 := by omega
    have o4 : k < 2147483647 := by omega
    have o9 := iN_inb o3 (show 12 < 2147483648 by decide)
    have o10 := iN_ix (k := k) (by omega)
    obtain ⟨a1, a2, a3, a4, a5, a6, a7, a8, a9, a10, a11, a12, a13, a14, a15, a16⟩ := id E
    obtain ⟨p1, p2, p3, p4, p5, p6, p7, p8⟩ := E25_of (w := w) (wm := wm) a1 a2 a4 a5 a6 a8.1 a14 a15
    have fb := Fr_hbec (h := h)
    obtain ⟨g, eg⟩ : ∃ g, g = hbec 25 17 h := ⟨_, rfl⟩
    rw [← eg] at fb p2 p5 p8
    have q26 : gI g 26 k = M k := (p8 k o3).1
    have q18 : gI g 18 k = M k := by rw [fb.i (by omega)]; exact (a8.1 k o3).1
    have t0 : gI g 28 0 = w := by rw [eg, gI_hbec (by omega), if_neg (by omega), if_pos (by omega)]; exact a8.2.1
    have t2 : gI g 28 2 = wm := by rw [eg, gI_hbec (by omega), if_neg (by omega), if_pos (by omega)]; exact a8.2.2.1
    have t3 : gI g 25 3 = iN t := by rw [eg, gI_hbec (by omega), if_pos (by omega)]; exact a8.2.2.2
    obtain ⟨h0, e0⟩ : ∃ h0, h0 = hsi g 26 k (M k + M k / 10) := ⟨_, rfl⟩
    have f0 : Fr (fun a i => a = 26 ∧ i = k) g h0 := by rw [e0]; exact (Fr.rfl' _ _).si _ ⟨rfl, rfl⟩
    have E0 : E25 σ T (mu1 M k) Ln t h0 := by
      refine ⟨p1, CS_fr f0 (fun a k => by unfold Scs; omega) p2, p3, p4, TxC_c (fun a k q => f0.i (by omega)) p5, mu1_b a14 o3, p7, fun i hi => ⟨?_, ?_⟩⟩
      · unfold mu1 upn
        rw [e0, gI_hsi]
        by_cases c : i = k
        · rw [if_pos ⟨rfl, c⟩, if_pos c]
        · rw [if_neg (by omega), if_neg c]; exact (p8 i hi).1
      · rw [f0.i (by omega)]; exact (p8 i hi).2
    obtain ⟨H, h1, b1', R1, f1⟩ := mk25 (w := w) (wm := wm) E0 hwm (by rw [f0.i (by omega)]; exact t0) (by rw [f0.i (by omega)]; exact t2) (by rw [f0.i (by omega)]; exact t3) hN hN2
    have fr1 : Fr SX h h1 := ((fb.mono (fun a k z => by unfold SX; omega)).tr (f0.mono (fun a k q => by unfold SX; omega))).tr (f1.mono (fun a k z => SM_SX z))
    have ct := c_spread R1 H
    obtain ⟨h2, a2', f2⟩ := ih (k + 1) m h1 o1 o2 (EN_fr fr1 E)
    refine ⟨h2, ?_, fr1.tr f2⟩
    rw [g_X7_uneven_51, if_neg (i12 o3), c_become (by omega), Option.bind_some, if_pos o9, o10, ← eg, q26, q18, ← e0, g_X7_uneven_95, b1', Option.bind_some, ct, Option.bind_some, g_X7_uneven_120]
    dsimp only
    have eu : ubs σ T M Ln w wm N v3 (k + 1) = if ued σ T M Ln w wm N v3 k ≤ (ubs σ T M Ln w wm N v3 k).2 then ubs σ T M Ln w wm N v3 k else (iN k, ued σ T M Ln w wm N v3 k) := rfl
    have ed : (if 0 ≤ spr (gr0 σ T (mu1 M k) Ln w wm (-1) N) - v3 then spr (gr0 σ T (mu1 M k) Ln w wm (-1) N) - v3 else 0 - (spr (gr0 σ T (mu1 M k) Ln w wm (-1) N) - v3)) = ued σ T M Ln w wm N v3 k := rfl
    rw [ed]
    rw [eu] at a2'
    by_cases c : ued σ T M Ln w wm N v3 k ≤ (ubs σ T M Ln w wm N v3 k).2
    · rw [if_pos c] at a2'; rw [if_pos c, g_X7_uneven_135, iN_add o4]; exact a2'
    · rw [if_neg c] at a2'; rw [if_neg c, g_X7_uneven_135, iN_add o4]; exact a2'
theorem neg_0 (x : Int32) : -x = 0 - x := by lia
theorem l_rue {σ : SS} {T : Nat → List Int32} {M Ln : Nat → Int32} {w wm : Int32} {t N : Nat} (b1 : ∀ c, c < 12 → 0 ≤ (M c).toInt ∧ (M c).toInt ≤ 99999) (hwm : 0 ≤ wm.toInt ∧ wm.toInt ≤ 9) (hN : N ≤ 12) (hN2 : ∀ k, k < N → iN k < σ.1) (v2 v3 : Int32) (h3 : -200000 ≤ v3.toInt ∧ v3.toInt ≤ 200000) (j : Nat) : ∀ (k m : Nat) (v4 v5 : Int32) (h : Hp), k + j = 12 → j < m → (if k = 0 then (v4, v5) = (-1, 0) else (v4, v5) = ubs σ T M Ln w wm N v3 k ∧ v4 ≠ -1) → E97 σ T M Ln t h → gI h 96 2 = w → gI h 96 4 = wm → gI h 96 14 = iN t → ∃ h', g_X8_uneven_42 4000 m (iN N) v2 v3 v4 v5 (iN k) h = some (if v2 ≠ 0 then (ubs σ T M Ln w wm N v3 12).2 else (ubs σ T M Ln w wm N v3 12).1, h') ∧ h'.1 = h.1 ∧ (∀ a i, ¬ SR a i → gI h' a i = gI h a i) := by
  induction j with
  | zero =>
    intro k m v4 v5 h ek hm hv E q0 q2 q3
    obtain ⟨m, rfl⟩ : ∃ z, m = z + 1 := ⟨m - 1, by omega⟩
    obtain rfl : k = 12 := by omega
    rw [if_neg (by decide)] at hv
    refine ⟨h, ?_, rfl, fun _ _ _ => rfl⟩
    rw [g_X8_uneven_42, if_pos i12e, ← hv.1]
    by_cases c : v2 ≠ 0
    · rw [if_pos c, if_pos c]
    · rw [if_neg c, if_neg c]
  | succ j ih =>
    intro k m v4 v5 h ek hm hv E q0 q2 q3
    obtain ⟨m, rfl⟩ : ∃ z, m = z + 1 := ⟨m - 1, by omega⟩
    have o1 : k + 1 + j = 12 := by omega
    have o2 : j < m := by omega
    have o3 : k < 12 := by omega
    have o4 : k < 2147483647 := by omega
    have o9 := iN_inb o3 (show 12 < 2147483648 by decide)
    have o10 := iN_ix (k := k) (by omega)
    obtain ⟨p1, p2, p3, p4, p5, p6, p7, p8, p9⟩ := id E
    have qM : gI h 97 k = M k := (p8 k o3).1
    obtain ⟨h0, e0⟩ : ∃ h0, h0 = hsi h 97 k (M k + M k / 10) := ⟨_, rfl⟩
    have f0 : Fr (fun a i => a = 97 ∧ i = k) h h0 := by rw [e0]; exact (Fr.rfl' _ _).si _ ⟨rfl, rfl⟩
    have E0 : E97 σ T (mu1 M k) Ln t h0 := by
      refine ⟨p1, RS_fr f0 (fun a k => by unfold Srs; omega) p2, p3, p4, TxR_c (fun a k q => f0.i (by omega)) p3 p5, mu1_b b1 o3, p7, fun i hi => ⟨?_, ?_⟩, ?_⟩
      · unfold mu1 upn
        rw [e0, gI_hsi]
        by_cases c : i = k
        · rw [if_pos ⟨rfl, c⟩, if_pos c]
        · rw [if_neg (by omega), if_neg c]; exact (p8 i hi).1
      · rw [f0.i (by omega)]; exact (p8 i hi).2
      · rw [f0.i (by omega)]; exact p9
    obtain ⟨H, h1, b1', R1, f1⟩ := mk97 (w := w) (wm := wm) E0 hwm (by rw [f0.i (by omega)]; exact q0) (by rw [f0.i (by omega)]; exact q2) (by rw [f0.i (by omega)]; exact q3) hN hN2
    obtain ⟨h2, e2⟩ : ∃ h2, h2 = hsi h1 97 k (M k) := ⟨_, rfl⟩
    have g2 : ∀ a i, ¬ SR a i → gI h2 a i = gI h a i := by
      intro a i z
      rw [e2, gI_hsi]
      by_cases c : a = 97 ∧ i = k
      · rw [if_pos c, c.1, c.2]; exact qM.symm
      · rw [if_neg c, f1.i z, f0.i c]
    have k2 : h2.1 = h.1 := by rw [e2]; exact f1.1.trans f0.1
    have R2 : RR _ h2 := RR_fr (S := fun a i => a = 97) (by rw [e2]; exact (Fr.rfl' _ _).si _ rfl) (fun a k => by omega) R1
    have E2 : E97 σ T M Ln t h2 := by
      refine ⟨p1, ?_, p3, p4, TxR_c (fun a k q => g2 a k (by unfold SR; omega)) p3 p5, p6, p7, fun i hi => ?_, ?_⟩
      · have c1 : RS σ h1 := RS_fr f1 (fun a k => by unfold Srs SR; omega) E0.2.1
        rw [e2]; exact RS_fr (S := fun a i => a = 97) ((Fr.rfl' _ _).si _ rfl) (fun a k => by unfold Srs; omega) c1
      · rw [g2 _ _ (by unfold SR; omega), g2 _ _ (by unfold SR; omega)]; exact p8 i hi
      · rw [g2 _ _ (by unfold SR; omega)]; exact p9
    have ct := r_spread R2 H
    have sz : g_X8_size (spr (gr0 σ T (mu1 M k) Ln w wm (-1) N) - v3) h2 = some (ued σ T M Ln w wm N v3 k, h2) := by
      unfold g_X8_size g_X8_size_0 ued abs3
      by_cases c : 0 ≤ spr (gr0 σ T (mu1 M k) Ln w wm (-1) N) - v3
      · rw [if_pos c, if_pos c]
      · rw [if_neg c, if_neg c, neg_0]
    have ge0 : 0 ≤ ued σ T M Ln w wm N v3 k := abs3_0 (spr_b H) h3
    have eu : ubs σ T M Ln w wm N v3 (k + 1) = if ued σ T M Ln w wm N v3 k ≤ (ubs σ T M Ln w wm N v3 k).2 then ubs σ T M Ln w wm N v3 k else (iN k, ued σ T M Ln w wm N v3 k) := rfl
    have nk : iN k ≠ -1 := by have := (iN0 o3 (show 12 < 2147483648 by decide)).1; lia
    have go : ∀ v4 v5, (v4, v5) = ubs σ T M Ln w wm N v3 (k + 1) → v4 ≠ -1 → ∃ h', g_X8_uneven_42 4000 m (iN N) v2 v3 v4 v5 (iN (k + 1)) h2 = some (if v2 ≠ 0 then (ubs σ T M Ln w wm N v3 12).2 else (ubs σ T M Ln w wm N v3 12).1, h') ∧ h'.1 = h.1 ∧ (∀ a i, ¬ SR a i → gI h' a i = gI h a i) := by
      intro v4 v5 e n
      obtain ⟨h3, a3, k3, g3⟩ := ih (k + 1) m v4 v5 h2 o1 o2 (by rw [if_neg (by omega)]; exact ⟨e, n⟩) E2 (by rw [g2 _ _ (by unfold SR; omega)]; exact q0) (by rw [g2 _ _ (by unfold SR; omega)]; exact q2) (by rw [g2 _ _ (by unfold SR; omega)]; exact q3)
      exact ⟨h3, a3, k3.trans k2, fun a i z => (g3 a i z).trans (g2 a i z)⟩
    rw [g_X8_uneven_42, if_neg (i12 o3), if_pos o9, o10, qM, ← e0, g_X8_uneven_73, b1', Option.bind_some, if_pos o9, o10, ← e2, g_X8_uneven_87, ct, Option.bind_some]
    dsimp only
    rw [sz, Option.bind_some]
    dsimp only
    by_cases k0 : k = 0
    · rw [if_pos k0] at hv
      have hv4 : v4 = -1 := congrArg Prod.fst hv
      rw [if_pos hv4, g_X8_uneven_111, g_X8_uneven_119, iN_add o4]
      subst k0
      refine go _ _ ?_ nk
      rw [eu]
      have z0 : ubs σ T M Ln w wm N v3 0 = (0, 0) := rfl
      rw [z0]
      by_cases c : ued σ T M Ln w wm N v3 0 ≤ (0 : Int32)
      · rw [if_pos c]
        have : ued σ T M Ln w wm N v3 0 = 0 := by lia
        rw [this]; rfl
      · rw [if_neg c]
    · rw [if_neg k0] at hv
      rw [if_neg hv.2]
      have e5 : v5 = (ubs σ T M Ln w wm N v3 k).2 := congrArg Prod.snd hv.1
      by_cases c : ued σ T M Ln w wm N v3 k ≤ v5
      · rw [if_pos c, g_X8_uneven_119, iN_add o4]
        exact go _ _ (by rw [eu, ← e5, if_pos c]; exact hv.1) hv.2
      · rw [if_neg c, g_X8_uneven_111, g_X8_uneven_119, iN_add o4]
        exact go _ _ (by rw [eu, ← e5, if_neg c]) nk
theorem cn_uneven (n : Nat) {a c v s : Int32} {h h1 h2 : Hp} (ha : g_X7_areSteps a h = some (1, h)) (hc : 0 ≤ c ∧ c ≤ 1) (e1 : g_X7_make n 17 a (-1) (-1) h = some h1) (es : g_X3_spread n 82 h1 = some (s, h1)) (e2 : g_X7_uneven_51 n n a c s 0 0 0 h1 = some (v, h2)) : g_X7_uneven n a c h = some (v, h2) := by
  simp only [g_X7_uneven_135, g_X7_uneven_120, g_X7_uneven_95, g_X7_uneven_0, g_X7_uneven, ha, wC, if_pos hc, Option.bind_some, ne10, eq10, ne_eq, not_false_eq_true, if_true, if_false, e1, es]
  exact e2
theorem rn_uneven (n : Nat) {a c v s : Int32} {h h1 h2 : Hp} (ha : g_X8_areSteps a h = some (1, h)) (hc : 0 ≤ c ∧ c ≤ 1) (e1 : g_X8_goes n a h = some h1) (es : g_X8_spread n h1 = some (s, h1)) (e2 : g_X8_uneven_42 n n a c s (-1) 0 0 h1 = some (v, h2)) : g_X8_uneven n a c h = some (v, h2) := by
  simp only [g_X8_uneven_119, g_X8_uneven_111, g_X8_uneven_87, g_X8_uneven_73, g_X8_uneven_0, g_X8_uneven, ha, wI, if_pos hc, Option.bind_some, ne10, eq10, ne_eq, not_false_eq_true, if_true, if_false, e1, es]
  exact e2
theorem pr_uneven {L : Nat} {h : Hp} (R : Rel L h) (a s : Int32) : Pair L (g_X7_uneven 4000 a s) (g_X8_uneven 4000 a s) h := by
  obtain ⟨σ, T, M, Ln, w, wm, t, E⟩ := EN_of R
  by_cases hn : 0 ≤ a ∧ a ≤ σ.1
  case neg => exact Pair.pure (-5) R (by simp [g_X7_uneven_135, g_X7_uneven_120, g_X7_uneven_95, g_X7_uneven_0, g_X7_uneven, cAre E, if_neg hn]) (by simp [g_X8_uneven_119, g_X8_uneven_111, g_X8_uneven_87, g_X8_uneven_73, g_X8_uneven_0, g_X8_uneven, rAre E, if_neg hn])
  by_cases hc : 0 ≤ s ∧ s ≤ 1
  case neg => exact Pair.pure (-7) R (by simp [g_X7_uneven_135, g_X7_uneven_120, g_X7_uneven_95, g_X7_uneven_0, g_X7_uneven, cAre E, if_pos hn, wC, if_neg hc]) (by simp [g_X8_uneven_119, g_X8_uneven_111, g_X8_uneven_87, g_X8_uneven_73, g_X8_uneven_0, g_X8_uneven, rAre E, if_pos hn, wI, if_neg hc])
  obtain ⟨N, hN, rfl, hN2⟩ := nOf E.1 hn
  have b1 : ∀ c, c < 12 → 0 ≤ (M c).toInt ∧ (M c).toInt ≤ 99999 := E.2.2.2.2.2.2.2.2.2.2.2.2.2.1
  have b2 : 0 ≤ wm.toInt ∧ wm.toInt ≤ 9 := E.2.2.2.2.2.2.2.2.2.2.2.2.2.2.2
  have H : okP (gr0 σ T M Ln w wm (-1) N) := EN_ok E 0 0 (-1) hN hN2
  obtain ⟨r, hr0⟩ : ∃ r, r = gr0 σ T M Ln w wm (-1) N := ⟨_, rfl⟩
  obtain ⟨h1, e1, c1, -, f1⟩ := mkC E (-1) hN hN2
  rw [← hr0] at c1 H
  have E1 := EN_fr f1 E
  obtain ⟨h2, e2, f2⟩ := l_cue b1 b2 hN hN2 0 s (spr r) 12 0 4000 h1 rfl (by omega) E1
  have E2 := EN_fr f2 E1
  obtain ⟨h3, e3, c3, -, f3⟩ := mkG E2 hN hN2
  rw [← hr0] at c3
  have E3 := EN_fr f3 E2
  obtain ⟨d1, d2, d3, d4, d5, d6, d7, d8, d9, d10, d11, d12, d13, d14, d15, d16⟩ := id E3
  have E7 : E97 σ T M Ln t h3 := ⟨d1, d3, d4, d5, d7, fun c hc => by have := d14 c hc; omega, d15, d9, d13⟩
  obtain ⟨h4, e4, k4, g4⟩ := l_rue b1 b2 hN hN2 s (spr r) (spr_b H) 12 0 4000 (-1) 0 h3 rfl (by omega) (by rw [if_pos rfl]) E7 d10 d11 d12
  have s1 : g_X7_areSteps (iN N) h = some (1, h) := by rw [cAre E, if_pos hn]
  have s2 : g_X8_areSteps (iN N) h2 = some (1, h2) := by rw [rAre E2, if_pos hn]
  refine ⟨_, h2, h4, cn_uneven 4000 s1 hc e1 (c_spread c1 H) e2, rn_uneven 4000 s2 hc e3 (r_spread c3 H) e4, ?_⟩
  have R3 := Rel_fr ((f1.tr f2).tr f3) R
  exact Rel_Tc R3 k4 (fun a i _ z => g4 a i (fun y => z (SR_SX y))) (RTc_c (fun a i z => g4 a i (by unfold SR; omega)) R3.2.2.1)
