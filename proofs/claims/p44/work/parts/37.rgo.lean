theorem r_make {e : EV} {σ : SS} {r : RP} {h : Hp} (R : RR r h) (E : RE e h) (O : RO e (rO r) h) (H : okP r) (D : RS σ h) (Oσ : okS σ) {s : Nat} (hs : s < 12) (hsl : iN s < σ.1) : ∃ h', g_X8_makes 4000 (iN s) h = some h' ∧ RR (sMake e (σ.2.1 s) (σ.2.2.1 s) (σ.2.2.2 s) r) h' ∧ RO e (rO (sMake e (σ.2.1 s) (σ.2.2.1 s) (σ.2.2.2 s) r)) h' ∧ Fr SR h h' := by
  obtain ⟨d1, d2, d3⟩ := D.2 s hs hsl
  have o := Oσ.2.2 s hs hsl
  simp only [le32, k_0, k_1, show (9 : Int32).toInt = 9 from rfl] at o
  have ht := tenth_t H (k := σ.2.2.1 s) ⟨o.2.2.1, o.2.2.2.1⟩
  obtain ⟨h1, a1, R1, O1, f1⟩ := r_draw R E O H (x := allL r * σ.2.2.1 s / 10) (p := σ.2.2.2 s) ⟨ht.2.2.1, ht.2.2.2⟩ ⟨o.2.2.2.2.1, o.2.2.2.2.2⟩
  unfold g_X8_makes g_X8_makes_0
  rw [if_pos (iN_inb hs (by decide)), iN_ix (by omega), d1, r_all R]
  simp only [Option.bind_some, d2, d3]
  unfold sMake
  by_cases k1 : σ.2.1 s = 1
  · rw [if_pos k1, if_pos k1]
    rw [a1]
    exact ⟨h1, rfl, R1, O1, f1⟩
  rw [if_neg k1, if_neg k1]
  by_cases k2 : σ.2.1 s = 2
  · rw [if_pos k2, if_pos k2]
    rw [a1, Option.bind_some]
    obtain ⟨h2, a2, R2, f2⟩ := r_bounce R1
    rw [a2]
    exact ⟨h2, rfl, R2, fun z => by rw [f2.l (by omega)]; exact O1 z, f1.tr (f2.mono (fun a k z => by unfold SR; omega))⟩
  rw [if_neg k2, if_neg k2]
  obtain ⟨h3, a3, R3, f3⟩ := r_fold R E H
  have f3' : Fr SR h h3 := f3.mono (fun a k z => z.1)
  have O3 : RO e (rO (sFold e r)) h3 := fun z => by rw [f3.l (by unfold SR; omega)]; exact O z
  by_cases k3 : σ.2.1 s = 3
  · rw [if_pos k3, if_pos k3, a3]
    exact ⟨h3, rfl, R3, O3, f3'⟩
  rw [if_neg k3, if_neg k3]
  by_cases k4 : σ.2.1 s = 4
  · rw [if_pos k4, if_pos k4]
    obtain ⟨h4, a4, R4, f4⟩ := r_dust R (σ.2.2.1 s)
    rw [a4]
    exact ⟨h4, rfl, R4, fun z => by rw [f4.l (by omega)]; exact O z, f4.mono (fun a k z => by unfold SR; omega)⟩
  rw [if_neg k4, if_neg k4]
  by_cases k5 : σ.2.1 s = 5
  · rw [if_pos k5, if_pos k5, a3, Option.bind_some, f3.i (by unfold SR; omega), d2]
    obtain ⟨h5, a5, R5, f5⟩ := r_cut R3 (c := 0) (by omega) (σ.2.2.1 s)
    rw [show (0 : Int32) = iN 0 from rfl, a5, Option.bind_some, f5.i (by omega), f3.i (by unfold SR; omega), d2]
    obtain ⟨h6, a6, R6, f6⟩ := r_cut R5 (c := 11) (by omega) (σ.2.2.1 s)
    rw [show (11 : Int32) = iN 11 from rfl, a6]
    exact ⟨h6, rfl, R6, fun z => by rw [f6.l (by omega), f5.l (by omega)]; exact O3 z, (f3'.tr (f5.mono (fun a k z => by unfold SR; omega))).tr (f6.mono (fun a k z => by unfold SR; omega))⟩
  rw [if_neg k5, if_neg k5]
  obtain ⟨h7, a7, R7, f7⟩ := r_rest R E.2.2.1 (σ.2.2.1 s)
  rw [a7]
  exact ⟨h7, rfl, R7, fun z => by rw [f7.l (by omega)]; exact O z, f7.mono (fun a k z => by unfold SR; omega)⟩
theorem l_rbeg (M Ln : Nat → Int32) (n j : Nat) (h : Hp) (h0 : ∀ i, i < 12 → gI h 97 i = M i ∧ gI h 98 i = Ln i) : ∀ (k m : Nat), k + j = 12 → j < m → g_X8_begins_2 n m (iN k) (hrw (hrw (hrw h 115 0 k M) 116 0 k Ln) 117 0 k (fun _ => 0)) = g_X8_begins_50 n (hsi (hrw (hrw (hrw h 115 0 12 M) 116 0 12 Ln) 117 0 12 (fun _ => 0)) 96 40 0) := by
  induction j with
  | zero =>
    intro k m ek hm
    obtain ⟨m, rfl⟩ : ∃ z, m = z + 1 := ⟨m - 1, by omega⟩
    obtain rfl : k = 12 := by omega
    rw [g_X8_begins_2, if_pos i12e]
  | succ j ih =>
    intro k m ek hm
    obtain ⟨m, rfl⟩ : ∃ z, m = z + 1 := ⟨m - 1, by omega⟩
    have hin := iN_inb (k := k) (n := 12) (by omega) (by decide)
    have hix := iN_ix (k := k) (by omega)
    obtain ⟨g, eg⟩ : ∃ g, g = hrw (hrw (hrw h 115 0 k M) 116 0 k Ln) 117 0 k (fun _ => 0) := ⟨_, rfl⟩
    have e : ∀ a, a ≠ 115 → a ≠ 116 → a ≠ 117 → ∀ q, gI g a q = gI h a q := fun a z1 z2 z3 q => by
      rw [eg, gI_hrw, if_neg (by omega), gI_hrw, if_neg (by omega), gI_hrw, if_neg (by omega)]
    have hk := h0 k (by omega)
    rw [← eg, g_X8_begins_2, if_neg (i12 (by omega)), if_pos hin, hix, g_X8_begins_20, if_pos hin, hix, g_X8_begins_32, if_pos hin, hix, iN_add (by omega), gI_hsi, if_neg (c := 98 = 115 ∧ k = k) (by omega), e 97 (by omega) (by omega) (by omega), e 98 (by omega) (by omega) (by omega), hk.1, hk.2]
    rw [eg, hsi_hrw (a := 115) (b := 117) (by omega), hsi_hrw (a := 115) (b := 116) (by omega), hrw_s0 h 115 k M rfl, hsi_hrw (a := 116) (b := 117) (by omega), hrw_s0 _ 116 k Ln rfl, hrw_s0 _ 117 k (fun _ => 0) rfl]
    exact ih (k + 1) m (by omega) (by omega)
theorem r_beg {M Ln : Nat → Int32} (lot : Int64) {h : Hp} (h0 : ∀ i, i < 12 → gI h 97 i = M i ∧ gI h 98 i = Ln i) : ∃ h', g_X8_begins 4000 h = some h' ∧ RR (sBeg M Ln lot) h' ∧ Fr (fun a k => (115 ≤ a ∧ a ≤ 117) ∨ (a = 96 ∧ 40 ≤ k ∧ k ≤ 44)) h h' := by
  have a1 := l_rbeg M Ln 4000 12 h h0 0 4000 rfl (by omega)
  rw [hrw_0, hrw_0, hrw_0] at a1
  refine ⟨_, a1, ⟨fun k hk => ⟨?_, ?_, ?_⟩, ?_, ?_, ?_, ?_, ?_⟩, ?_⟩
  · rw [gI_hsl, gI_hsl, gI_hsi, if_neg (by omega), gI_hsi, if_neg (by omega), gI_hsi, if_neg (by omega), gI_hrw, if_neg (by omega), gI_hrw, if_neg (by omega), gI_hrw, if_pos (by omega)]; rfl
  · rw [gI_hsl, gI_hsl, gI_hsi, if_neg (by omega), gI_hsi, if_neg (by omega), gI_hsi, if_neg (by omega), gI_hrw, if_neg (by omega), gI_hrw, if_pos (by omega)]; rfl
  · rw [gI_hsl, gI_hsl, gI_hsi, if_neg (by omega), gI_hsi, if_neg (by omega), gI_hsi, if_neg (by omega), gI_hrw, if_pos (by omega)]; rfl
  · rw [gI_hsl, gI_hsl, gI_hsi, if_neg (by omega), gI_hsi, if_neg (by omega), gI_hsi, if_pos ⟨rfl, rfl⟩]; rfl
  · rw [gI_hsl, gI_hsl, gI_hsi, if_neg (by omega), gI_hsi, if_pos ⟨rfl, rfl⟩]; rfl
  · rw [gI_hsl, gI_hsl, gI_hsi, if_pos ⟨rfl, rfl⟩]; rfl
  · rw [gL_hsl, if_neg (by omega), gL_hsl, if_pos ⟨rfl, rfl⟩]; rfl
  · rw [gL_hsl, if_pos ⟨rfl, rfl⟩]; rfl
  · refine ((((((((Fr.rfl' _ _).rw' _ (fun k _ _ => ?_)).rw' _ (fun k _ _ => ?_)).rw' _ (fun k _ _ => ?_)).si _ ?_).si _ ?_).si _ ?_).sl _ ?_).sl _ ?_ <;> omega
/-- what a making of the rope asks of the world: steps, rolled cells -/
theorem l_rgo {e : EV} {σ : SS} {M Ln : Nat → Int32} {lot : Int64} {but : Int32} (Oσ : okS σ) (hM : ∀ c, c < 12 → 0 ≤ (M c).toInt ∧ (M c).toInt ≤ 200000) (hL : ∀ c, c < 12 → 1 ≤ (Ln c).toInt ∧ (Ln c).toInt ≤ 1000000) (hw : 0 ≤ e.2.2.2.toInt ∧ e.2.2.2.toInt ≤ 9) (N j : Nat) (hN : N ≤ 12) (hN2 : ∀ k, k < N → iN k < σ.1) : ∀ (k m : Nat) (h : Hp), k + j = N → j < m → RR (sGo e σ M Ln lot but k) h → RE e h → RO e (rO (sGo e σ M Ln lot but k)) h → RS σ h → ∃ h', g_X8_goesBut_6 4000 m (iN N) but (iN k) h = some h' ∧ RR (sGo e σ M Ln lot but N) h' ∧ RO e (rO (sGo e σ M Ln lot but N)) h' ∧ Fr SR h h' := by
  induction j with
  | zero =>
    intro k m h ek hm R E O D
    obtain ⟨m, rfl⟩ : ∃ z, m = z + 1 := ⟨m - 1, by omega⟩
    obtain rfl : k = N := by omega
    exact ⟨h, by rw [g_X8_goesBut_6, if_pos (by lia)], R, O, Fr.rfl' _ _⟩
  | succ j ih =>
    intro k m h ek hm R E O D
    obtain ⟨m, rfl⟩ : ∃ z, m = z + 1 := ⟨m - 1, by omega⟩
    rw [g_X8_goesBut_6, if_neg (by rw [iN_le (by omega) (by omega)]; omega)]
    by_cases c : iN k = but
    · rw [if_pos c, g_X8_goesBut_21, iN_add (by omega)]
      have e1 : sGo e σ M Ln lot but (k + 1) = sGo e σ M Ln lot but k := by show (if _ then _ else _) = _; rw [if_pos c]
      exact ih (k + 1) m h (by omega) (by omega) (by rw [e1]; exact R) E (by rw [e1]; exact O) D
    · rw [if_neg c]
      have e1 : sGo e σ M Ln lot but (k + 1) = sMake e (σ.2.1 k) (σ.2.2.1 k) (σ.2.2.2 k) (sGo e σ M Ln lot but k) := by show (if _ then _ else _) = _; rw [if_neg c]
      obtain ⟨h1, a1, R1, O1, f1⟩ := r_make R E O (okP_go Oσ hM hL hw lot but k (by omega) (fun i hi => hN2 i (by omega))) D Oσ (s := k) (by omega) (hN2 k (by omega))
      obtain ⟨h2, a2, R2, O2, f2⟩ := ih (k + 1) m h1 (by omega) (by omega) (by rw [e1]; exact R1) (RE_fr f1 E) (by rw [e1]; exact O1) (RS_fr f1 (fun a k => by unfold Srs SR; omega) D)
      rw [a1, Option.bind_some, g_X8_goesBut_21, iN_add (by omega)]
      exact ⟨h2, a2, R2, O2, f1.tr f2⟩
theorem r_go {e : EV} {σ : SS} {M Ln : Nat → Int32} {lot : Int64} {h : Hp} (Oσ : okS σ) (hM : ∀ c, c < 12 → 0 ≤ (M c).toInt ∧ (M c).toInt ≤ 200000) (hL : ∀ c, c < 12 → 1 ≤ (Ln c).toInt ∧ (Ln c).toInt ≤ 1000000) (hw : 0 ≤ e.2.2.2.toInt ∧ e.2.2.2.toInt ≤ 9) (E : RE e h) (O : RO e lot h) (D : RS σ h) (h0 : ∀ i, i < 12 → gI h 97 i = M i ∧ gI h 98 i = Ln i) (but : Int32) {N : Nat} (hN : N ≤ 12) (hN2 : ∀ k, k < N → iN k < σ.1) : ∃ h', g_X8_goesBut 4000 (iN N) but h = some h' ∧ RR (sGo e σ M Ln lot but N) h' ∧ RO e (rO (sGo e σ M Ln lot but N)) h' ∧ Fr SR h h' := by
  obtain ⟨h1, a1, R1, f1⟩ := r_beg lot h0
  have f1' : Fr SR h h1 := f1.mono (fun a k z => by unfold SR; omega)
  obtain ⟨h2, a2, R2, O2, f2⟩ := l_rgo (e := e) (lot := lot) (but := but) Oσ hM hL hw N N hN hN2 0 4000 h1 (by omega) (by omega) R1 (RE_fr f1' E) (fun z => by rw [f1.l (by omega)]; exact O z) (RS_fr f1 (fun a k => by unfold Srs; omega) D)
  refine ⟨h2, ?_, R2, O2, f1'.tr f2⟩
  unfold g_X8_goesBut g_X8_goesBut_0
  rw [a1, Option.bind_some]
  exact a2
theorem r_goes {n : Int32} {h h' : Hp} (a : g_X8_goesBut 4000 n (-1) h = some h') : g_X8_goes 4000 n h = some h' := by
  unfold g_X8_goes g_X8_goes_0
  rw [a]; rfl
