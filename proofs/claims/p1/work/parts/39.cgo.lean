theorem c_makeStep {v : Nat} (hv : ok82 v) {e : EV} {σ : SS} {r : RP} {h : Hp} (R : CR v r h) (E : CE e h) (O : CO e (rO r) h) (H : okP r) (D : CS σ h) (Oσ : okS σ) {s : Nat} (hs : s < 12) (hsl : iN s < σ.1) : ∃ h', g_X3_make 4000 v (36 + s) h = some h' ∧ CR v (sMake e (σ.2.1 s) (σ.2.2.1 s) (σ.2.2.2 s) r) h' ∧ CO e (rO (sMake e (σ.2.1 s) (σ.2.2.1 s) (σ.2.2.2 s) r)) h' ∧ Fr (SCr v) h h' := by
  obtain ⟨d1, d2, d3⟩ := D.2 s hs hsl
  have o := Oσ.2.2 s hs hsl
  simp only [le32, k_0, k_1, show (9 : Int32).toInt = 9 from rfl] at o
  have ht := tenth_t H (k := σ.2.2.1 s) ⟨o.2.2.1, o.2.2.2.1⟩
  obtain ⟨h1, a1, R1, O1, f1⟩ := c_draw hv R E O H (x := allL r * σ.2.2.1 s / 10) (p := σ.2.2.2 s) ⟨ht.2.2.1, ht.2.2.2⟩ ⟨o.2.2.2.2.1, o.2.2.2.2.2⟩
  unfold g_X3_make g_X3_make_0
  rw [d1, d2, c_tenths R H (k := σ.2.2.1 s) ⟨o.2.2.1, o.2.2.2.1⟩]
  simp only [Option.bind_some, d3]
  unfold sMake
  by_cases k1 : σ.2.1 s = 1
  · rw [if_pos k1, if_pos k1, a1]
    exact ⟨h1, rfl, R1, O1, f1⟩
  rw [if_neg k1, if_neg k1]
  by_cases k2 : σ.2.1 s = 2
  · rw [if_pos k2, if_pos k2, a1, Option.bind_some]
    obtain ⟨h2, a2, R2, f2⟩ := c_bounce R1
    rw [a2]
    exact ⟨h2, rfl, R2, fun z => by rw [f2.l (by omega)]; exact O1 z, f1.tr (f2.mono (fun a k z => by unfold SCr; omega))⟩
  rw [if_neg k2, if_neg k2]
  obtain ⟨h3, a3, R3, f3⟩ := c_fold hv R E H
  have f3' : Fr (SCr v) h h3 := f3.mono (fun a k z => z.1)
  have O3 : CO e (rO (sFold e r)) h3 := fun z => by rw [f3.l (by unfold SCr; omega)]; exact O z
  by_cases k3 : σ.2.1 s = 3
  · rw [if_pos k3, if_pos k3, a3]
    exact ⟨h3, rfl, R3, O3, f3'⟩
  rw [if_neg k3, if_neg k3]
  by_cases k4 : σ.2.1 s = 4
  · rw [if_pos k4, if_pos k4]
    obtain ⟨h4, a4, R4, f4⟩ := c_dust R (σ.2.2.1 s)
    rw [a4]
    exact ⟨h4, rfl, R4, fun z => by rw [f4.l (by omega)]; exact O z, f4.mono (fun a k z => by unfold SCr; omega)⟩
  rw [if_neg k4, if_neg k4]
  by_cases k5 : σ.2.1 s = 5
  · rw [if_pos k5, if_pos k5, a3, Option.bind_some, f3.i (by unfold SCr isStk; omega), d2]
    obtain ⟨h5, a5, R5, f5⟩ := c_cut R3 (c := 0) (by omega) (σ.2.2.1 s)
    rw [show (0 : Int32) = iN 0 from rfl, a5, Option.bind_some, f5.i (by omega), f3.i (by unfold SCr isStk; omega), d2]
    obtain ⟨h6, a6, R6, f6⟩ := c_cut R5 (c := 11) (by omega) (σ.2.2.1 s)
    rw [show (11 : Int32) = iN 11 from rfl, a6]
    exact ⟨h6, rfl, R6, fun z => by rw [f6.l (by omega), f5.l (by omega)]; exact O3 z, (f3'.tr (f5.mono (fun a k z => by unfold SCr; omega))).tr (f6.mono (fun a k z => by unfold SCr; omega))⟩
  rw [if_neg k5, if_neg k5]
  obtain ⟨h7, a7, R7, f7⟩ := c_rest hv R E.2.2.1 (σ.2.2.1 s)
  rw [a7]
  exact ⟨h7, rfl, R7, fun z => by rw [f7.l (by omega)]; exact O z, f7.mono (fun a k z => by unfold SCr; omega)⟩
theorem l_cbeg (v : Nat) (n j : Nat) (h : Hp) : ∀ (k m : Nat), k + j = 12 → j < m → g_X3_begin_32 n m v (iN k) (hrw h (v + 3) 0 k (fun _ => 0)) = g_X3_begin_56 n v (hsi (hrw h (v + 3) 0 12 (fun _ => 0)) v 7 0) := by
  induction j with
  | zero =>
    intro k m ek hm
    obtain ⟨m, rfl⟩ : ∃ z, m = z + 1 := ⟨m - 1, by omega⟩
    obtain rfl : k = 12 := by omega
    rw [g_X3_begin_32, if_pos i12e]
  | succ j ih =>
    intro k m ek hm
    obtain ⟨m, rfl⟩ : ∃ z, m = z + 1 := ⟨m - 1, by omega⟩
    rw [g_X3_begin_32, if_neg (i12 (by omega)), if_pos (iN_inb (by omega) (by decide)), iN_ix (by omega), iN_add (by omega), hrw_s0 h (v + 3) k (fun _ => 0) rfl]
    exact ih (k + 1) m (by omega) (by omega)
theorem c_beg {v v1 : Nat} (hv : ok82 v) (hv1 : v1 + 3 < 80) {M Ln : Nat → Int32} (lot : Int64) {h : Hp} (h0 : ∀ i, i < 12 → gI h (v1 + 1) i = M i ∧ gI h (v1 + 2) i = Ln i) : ∃ h', g_X3_begin 4000 v v1 h = some h' ∧ CR v (sBeg M Ln lot) h' ∧ Fr (fun a k => (v + 1 ≤ a ∧ a ≤ v + 3) ∨ (a = v ∧ 7 ≤ k ∧ k ≤ 11)) h h' := by
  have a1 := l_cbeg v 4000 12 (hcp (hcp h (v1 + 1) 0 (v + 1) 0 12) (v1 + 2) 0 (v + 2) 0 12) 0 4000 rfl (by omega)
  rw [hrw_0] at a1
  have f : Fr (fun a k => (v + 1 ≤ a ∧ a ≤ v + 3) ∨ (a = v ∧ 7 ≤ k ∧ k ≤ 11)) h (hsl (hsl (hsi (hsi (hsi (hrw (hcp (hcp h (v1 + 1) 0 (v + 1) 0 12) (v1 + 2) 0 (v + 2) 0 12) (v + 3) 0 12 (fun _ => 0)) v 7 0) v 8 0) v 9 0) v 10 1000000000) v 11 1000000000) := by
    refine ((((((((Fr.rfl' _ _).cp (fun k _ _ => ?_)).cp (fun k _ _ => ?_)).rw' _ (fun k _ _ => ?_)).si _ ?_).si _ ?_).si _ ?_).sl _ ?_).sl _ ?_ <;> omega
  refine ⟨_, a1, ⟨fun k hk => ⟨?_, ?_, ?_⟩, ?_, ?_, ?_, ?_, ?_⟩, f⟩
  · rw [gI_hsl, gI_hsl, gI_hsi, if_neg (by omega), gI_hsi, if_neg (by omega), gI_hsi, if_neg (by omega), gI_hrw, if_neg (by omega), gI_hcp, if_neg (by omega), gI_hcp, if_pos rfl, if_pos (by omega)]
    rw [show 0 + (k - 0) = k by omega]; exact (h0 k hk).1
  · rw [gI_hsl, gI_hsl, gI_hsi, if_neg (by omega), gI_hsi, if_neg (by omega), gI_hsi, if_neg (by omega), gI_hrw, if_neg (by omega), gI_hcp, if_pos rfl, if_pos (by omega), gI_hcp, if_neg (by omega)]
    rw [show 0 + (k - 0) = k by omega]; exact (h0 k hk).2
  · rw [gI_hsl, gI_hsl, gI_hsi, if_neg (by omega), gI_hsi, if_neg (by omega), gI_hsi, if_neg (by omega), gI_hrw, if_pos (by omega)]; rfl
  · rw [gI_hsl, gI_hsl, gI_hsi, if_neg (by omega), gI_hsi, if_neg (by omega), gI_hsi, if_pos ⟨rfl, rfl⟩]; rfl
  · rw [gI_hsl, gI_hsl, gI_hsi, if_neg (by omega), gI_hsi, if_pos ⟨rfl, rfl⟩]; rfl
  · rw [gI_hsl, gI_hsl, gI_hsi, if_pos ⟨rfl, rfl⟩]; rfl
  · rw [gL_hsl, if_neg (by omega), gL_hsl, if_pos ⟨rfl, rfl⟩]; rfl
  · rw [gL_hsl, if_pos ⟨rfl, rfl⟩]; rfl
theorem l_cgo {e : EV} {σ : SS} {M Ln : Nat → Int32} {lot : Int64} {but : Int32} (Oσ : okS σ) (hM : ∀ c, c < 12 → 0 ≤ (M c).toInt ∧ (M c).toInt ≤ 200000) (hL : ∀ c, c < 12 → 1 ≤ (Ln c).toInt ∧ (Ln c).toInt ≤ 1000000) (hw : 0 ≤ e.2.2.2.toInt ∧ e.2.2.2.toInt ≤ 9) (N j : Nat) (hN : N ≤ 12) (hN2 : ∀ k, k < N → iN k < σ.1) : ∀ (k m : Nat) (h : Hp), k + j = N → j < m → CR 82 (sGo e σ M Ln lot but k) h → CE e h → CO e (rO (sGo e σ M Ln lot but k)) h → CS σ h → ∃ h', g_X7_make_74 4000 m (iN N) but (iN k) h = some h' ∧ CR 82 (sGo e σ M Ln lot but N) h' ∧ CO e (rO (sGo e σ M Ln lot but N)) h' ∧ Fr (SCr 82) h h' := by
  induction j with
  | zero =>
    intro k m h ek hm R E O D
    obtain ⟨m, rfl⟩ : ∃ z, m = z + 1 := ⟨m - 1, by omega⟩
    obtain rfl : k = N := by omega
    exact ⟨h, by rw [g_X7_make_74, if_pos (by lia)], R, O, Fr.rfl' _ _⟩
  | succ j ih =>
    intro k m h ek hm R E O D
    obtain ⟨m, rfl⟩ : ∃ z, m = z + 1 := ⟨m - 1, by omega⟩
    rw [g_X7_make_74, if_neg (by rw [iN_le (by omega) (by omega)]; omega), if_neg (i12 (by omega))]
    by_cases c : iN k = but
    · rw [if_pos c, g_X7_make_107, iN_add (by omega)]
      have e1 : sGo e σ M Ln lot but (k + 1) = sGo e σ M Ln lot but k := by show (if _ then _ else _) = _; rw [if_pos c]
      exact ih (k + 1) m h (by omega) (by omega) (by rw [e1]; exact R) E (by rw [e1]; exact O) D
    · rw [if_neg c, if_pos (iN_inb (by omega) (by decide)), iN_ix (by omega)]
      have e1 : sGo e σ M Ln lot but (k + 1) = sMake e (σ.2.1 k) (σ.2.2.1 k) (σ.2.2.2 k) (sGo e σ M Ln lot but k) := by show (if _ then _ else _) = _; rw [if_neg c]
      obtain ⟨h1, a1, R1, O1, f1⟩ := c_makeStep (Or.inl rfl) R E O (okP_go Oσ hM hL hw lot but k (by omega) (fun i hi => hN2 i (by omega))) D Oσ (s := k) (by omega) (hN2 k (by omega))
      obtain ⟨h2, a2, R2, O2, f2⟩ := ih (k + 1) m h1 (by omega) (by omega) (by rw [e1]; exact R1) (CE_fr (Or.inl rfl) f1 E) (by rw [e1]; exact O1) (CS_fr f1 (fun a k => by unfold Scs SCr isStk; omega) D)
      rw [a1, Option.bind_some, g_X7_make_107, iN_add (by omega)]
      exact ⟨h2, a2, R2, O2, f1.tr f2⟩
noncomputable def SM (a k : Nat) : Prop := (80 ≤ a ∧ a ≤ 88) ∨ isStk a
/-- a dough's cells -/
noncomputable def DG (v1 : Nat) (M Ln : Nat → Int32) (w wm : Int32) (t : Nat) (h : Hp) : Prop := (∀ i, i < 12 → gI h (v1 + 1) i = M i ∧ gI h (v1 + 2) i = Ln i) ∧ gI h (v1 + 3) 0 = w ∧ gI h (v1 + 3) 2 = wm ∧ gI h v1 3 = iN t
theorem c_go {σ : SS} {T : Nat → List Int32} {M Ln : Nat → Int32} {w wm : Int32} {t v1 : Nat} {h : Hp} (hv1 : v1 + 3 < 80) (Oσ : okS σ) (hM : ∀ c, c < 12 → 0 ≤ (M c).toInt ∧ (M c).toInt ≤ 200000) (hL : ∀ c, c < 12 → 1 ≤ (Ln c).toInt ∧ (Ln c).toInt ≤ 1000000) (hw : 0 ≤ wm.toInt ∧ wm.toInt ≤ 9) (G : DG v1 M Ln w wm t h) (ht : t < 6) (OT : okT T) (C : TxC t T h) (D : CS σ h) (but seed : Int32) (md : Nat) (hmd : (md = 0 ∧ seed = -1) ∨ (md = 1 ∧ seed ≠ -1)) {N : Nat} (hN : N ≤ 12) (hN2 : ∀ k, k < N → iN k < σ.1) : ∃ h', g_X7_make 4000 v1 (iN N) but seed h = some h' ∧ CR 82 (sGo (md, T, w, wm) σ M Ln (Int32.toInt64 seed + 1) but N) h' ∧ CE (md, T, w, wm) h' ∧ CO (md, T, w, wm) (rO (sGo (md, T, w, wm) σ M Ln (Int32.toInt64 seed + 1) but N)) h' ∧ Fr SM h h' := by
  obtain ⟨g1, g2, g3, g4⟩ := G
  obtain ⟨wn, hwn⟩ : ∃ wn : Int32, wn = if seed = -1 then 0 else 1 := ⟨_, rfl⟩
  obtain ⟨h1, e1⟩ : ∃ h1, h1 = hsl (hsi (hsi (hsi (hsr h 80 1 (some (48 + 4 * t))) 80 2 w) 80 3 wm) 80 4 wn) 80 5 (Int32.toInt64 seed + 1) := ⟨_, rfl⟩
  have f1 : Fr (fun a k => a = 80) h h1 := by
    rw [e1]; refine (((((Fr.rfl' _ _).sr _ ?_).si _ ?_).si _ ?_).si _ ?_).sl _ ?_ <;> rfl
  have E1 : CE (md, T, w, wm) h1 := by
    refine ⟨?_, ?_, ?_, OT, t, ht, ?_, TxC_c (fun a k q => f1.i (by omega)) C⟩
    · have : gI h1 80 4 = wn := by rw [e1]; simp [gI_hsi, gI_hsl]
      rw [this, hwn]
      rcases hmd with ⟨a, b⟩ | ⟨a, b⟩
      · exact Or.inl ⟨a, by rw [if_pos b]⟩
      · exact Or.inr ⟨a, by rw [if_neg b]⟩
    · rw [e1]; simp [gI_hsi, gI_hsl]
    · rw [e1]; simp [gI_hsi, gI_hsl]
    · rw [e1]; simp [gR_hsi, gR_hsl, gR_hsr]
  have O1 : CO (md, T, w, wm) (Int32.toInt64 seed + 1) h1 := fun _ => by rw [e1, gL_hsl, if_pos ⟨rfl, rfl⟩]
  obtain ⟨h2, a2, R2, f2⟩ := c_beg (v := 82) (v1 := v1) (Or.inl rfl) hv1 (M := M) (Ln := Ln) (Int32.toInt64 seed + 1) (h := h1) (fun i hi => by rw [f1.i (by omega), f1.i (by omega)]; exact g1 i hi)
  have f2' : Fr (SCr 82) h1 h2 := f2.mono (fun a k z => by unfold SCr; omega)
  have E2 := CE_fr (Or.inl rfl) f2' E1
  obtain ⟨h3, a3, R3, O3, f3⟩ := l_cgo (e := (md, T, w, wm)) (lot := Int32.toInt64 seed + 1) (but := but) Oσ hM hL hw N N hN hN2 0 4000 h2 (by omega) (by omega) R2 E2 (fun z => by rw [f2.l (by omega)]; exact O1 z) (CS_fr f2 (fun a k => by unfold Scs; omega) (CS_fr f1 (fun a k => by unfold Scs; omega) D))
  refine ⟨h3, ?_, R3, CE_fr (Or.inl rfl) f3 E2, O3, ((f1.mono (fun a k z => by unfold SM; omega)).tr (f2.mono (fun a k z => by unfold SM; omega))).tr (f3.mono (fun a k z => by unfold SCr isStk at z; unfold SM isStk; omega))⟩
  unfold g_X7_make g_X7_make_0
  have hl : 0 ≤ iN t ∧ iN t ≤ 5 := ⟨(iN0 (n := 6) ht (by decide)).1, by show iN t ≤ iN 5; rw [iN_le (by omega) (by omega)]; omega⟩
  rw [g4, wC, if_pos hl, Option.bind_some]
  simp only [eq10, if_false]
  rw [g4, if_pos (iN_inb ht (by decide)), iN_ix (by omega)]
  unfold g_X7_make_28 g_X7_make_41 g_X7_make_54
  have ew : g_X1_wander seed (hsi (hsi (hsr h 80 1 (some (48 + 4 * t))) 80 2 w) 80 3 wm) = some h1 := by
    simp only [g_X1_wander_14, g_X1_wander_11, g_X1_wander_0, g_X1_wander]
    rw [e1, hwn]
    by_cases z : seed = -1
    · simp [z]
    · simp [z]
  rw [show ix 0 = 0 from rfl, show ix 2 = 2 from rfl]
  have q2 : gI (hsr h 80 1 (some (48 + 4 * t))) (v1 + 3) 0 = w := g2
  have q3 : gI (hsi (hsr h 80 1 (some (48 + 4 * t))) 80 2 w) (v1 + 3) 2 = wm := by rw [gI_hsi, if_neg (by omega)]; exact g3
  rw [q2, q3, ew, Option.bind_some, a2, Option.bind_some]
  exact a3
/-- the rope tried is the rope -/
theorem c_tried {r : RP} {h : Hp} (R : CR 82 r h) : ∃ h', g_X3_become 89 82 h = some h' ∧ CR 89 r h' ∧ CR 82 r h' ∧ Fr (fun a _ => 89 ≤ a ∧ a ≤ 92) h h' := by
  obtain ⟨h1, e1⟩ : ∃ h1, h1 = hcp (hcp (hcp h 83 0 90 0 12) 84 0 91 0 12) 85 0 92 0 12 := ⟨_, rfl⟩
  have f1 : Fr (fun a _ => 89 ≤ a ∧ a ≤ 92) h h1 := by
    rw [e1]; refine (((Fr.rfl' _ _).cp (fun k _ _ => ?_)).cp (fun k _ _ => ?_)).cp (fun k _ _ => ?_) <;> omega
  obtain ⟨q1, q2, q3, q4, q5, q6⟩ := R
  obtain ⟨h2, e2⟩ : ∃ h2, h2 = hsl (hsl (hsi (hsi (hsi h1 89 7 (rF r)) 89 8 (rD r)) 89 9 (rC r)) 89 10 (rW r)) 89 11 (rE r) := ⟨_, rfl⟩
  have f2 : Fr (fun a _ => 89 ≤ a ∧ a ≤ 92) h h2 := by
    rw [e2]; refine (((((f1).si _ ?_).si _ ?_).si _ ?_).sl _ ?_).sl _ ?_ <;> omega
  have rows : ∀ a k, 90 ≤ a → gI h2 a k = gI h1 a k := by
    intro a k ha
    rw [e2, gI_hsl, gI_hsl, gI_hsi, if_neg (by omega), gI_hsi, if_neg (by omega), gI_hsi, if_neg (by omega)]
  refine ⟨h2, ?_, ⟨fun k hk => ⟨?_, ?_, ?_⟩, ?_, ?_, ?_, ?_, ?_⟩, CR_fr f2 (fun a k => by omega) ⟨q1, q2, q3, q4, q5, q6⟩, f2⟩
  · unfold g_X3_become g_X3_become_0 g_X3_become_15 g_X3_become_30 g_X3_become_45 g_X3_become_53 g_X3_become_61 g_X3_become_69 g_X3_become_77
    rw [ix0, ix12]
    show some (hsl (hsl (hsi (hsi (hsi (hcp (hcp (hcp h 83 0 90 0 12) 84 0 91 0 12) 85 0 92 0 12) 89 7 _) 89 8 _) 89 9 _) 89 10 _) 89 11 _) = _
    rw [← e1, e2]
    have w7 : gI h1 82 7 = rF r := by rw [f1.i (by omega)]; exact q2
    have w8 : gI h1 82 8 = rD r := by rw [f1.i (by omega)]; exact q3
    have w9 : gI h1 82 9 = rC r := by rw [f1.i (by omega)]; exact q4
    have w10 : gL' h1 82 10 = rW r := by rw [f1.l (by omega)]; exact q5
    have w11 : gL' h1 82 11 = rE r := by rw [f1.l (by omega)]; exact q6
    simp only [gI_hsi, gL_hsi, gL_hsl, gI_hsl]
    simp [w7, w8, w9, w10, w11]
  · rw [rows _ _ (by omega), e1, gI_hcp, if_neg (by omega), gI_hcp, if_neg (by omega), gI_hcp, if_pos rfl, if_pos (by omega), show 0 + (k - 0) = k by omega]; exact (q1 k hk).1
  · rw [rows _ _ (by omega), e1, gI_hcp, if_neg (by omega), gI_hcp, if_pos rfl, if_pos (by omega), show 0 + (k - 0) = k by omega, gI_hcp, if_neg (by omega)]; exact (q1 k hk).2.1
  · rw [rows _ _ (by omega), e1, gI_hcp, if_pos rfl, if_pos (by omega), show 0 + (k - 0) = k by omega, gI_hcp, if_neg (by omega), gI_hcp, if_neg (by omega)]; exact (q1 k hk).2.2
  · rw [e2, gI_hsl, gI_hsl, gI_hsi, if_neg (by omega), gI_hsi, if_neg (by omega), gI_hsi, if_pos ⟨rfl, rfl⟩]
  · rw [e2, gI_hsl, gI_hsl, gI_hsi, if_neg (by omega), gI_hsi, if_pos ⟨rfl, rfl⟩]
  · rw [e2, gI_hsl, gI_hsl, gI_hsi, if_pos ⟨rfl, rfl⟩]
  · rw [e2, gL_hsl, if_neg (by omega), gL_hsl, if_pos ⟨rfl, rfl⟩]
  · rw [e2, gL_hsl, if_pos ⟨rfl, rfl⟩]
