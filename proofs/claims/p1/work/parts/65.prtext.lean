/-! text -/
/-- what the text number t may touch on either side -/
noncomputable def SZt (t a k : Nat) : Prop := SCt t a k ∨ SRt t a k ∨ (a = 31 ∧ k = 1) ∨ (a = 96 ∧ k = 10) ∨ (a = 96 ∧ k = 26) ∨ (a = 96 ∧ k = 34)
theorem szt {t a k : Nat} : SZt t a k ↔ ((a = 31 ∧ 1 ≤ k ∧ k ≤ 5) ∨ (a = 48 + 4 * t ∧ k = 3) ∨ a = 49 + 4 * t ∨ a = 50 + 4 * t ∨ a = 112 ∨ (a = 103 ∧ 200 * t ≤ k ∧ k < 200 * t + 200) ∨ (a = 96 ∧ ((26 ≤ k ∧ k ≤ 29) ∨ (32 ≤ k ∧ k ≤ 34) ∨ k = 10)) ∨ (a = 104 ∧ 4 * t ≤ k ∧ k < 4 * t + 4)) := by
  unfold SZt SCt SRt SCd SRd SMc
  constructor
  · intro h
    rcases h with ((⟨h1, h2, h3⟩ | h | h) | h) | (((h | h | ⟨h1, h2, h3⟩) | ⟨h1, h2, h3⟩) | h) | ⟨h1, h2⟩ | ⟨h1, h2⟩ | ⟨h1, h2⟩ | ⟨h1, h2⟩
    · exact Or.inl ⟨h1, by omega, h3⟩
    · exact Or.inr (Or.inl h)
    · exact Or.inr (Or.inr (Or.inl h))
    · exact Or.inr (Or.inr (Or.inr (Or.inl h)))
    · exact Or.inr (Or.inr (Or.inr (Or.inr (Or.inl h))))
    · exact Or.inr (Or.inr (Or.inr (Or.inr (Or.inr (Or.inl h)))))
    · exact Or.inr (Or.inr (Or.inr (Or.inr (Or.inr (Or.inr (Or.inl ⟨h1, Or.inr (Or.inl ⟨h2, h3⟩)⟩))))))
    · exact Or.inr (Or.inr (Or.inr (Or.inr (Or.inr (Or.inr (Or.inl ⟨h1, Or.inl ⟨h2, h3⟩⟩))))))
    · exact Or.inr (Or.inr (Or.inr (Or.inr (Or.inr (Or.inr (Or.inr (h)))))))
    · exact Or.inl ⟨h1, by omega, by omega⟩
    · exact Or.inr (Or.inr (Or.inr (Or.inr (Or.inr (Or.inr (Or.inl ⟨h1, Or.inr (Or.inr h2)⟩))))))
    · exact Or.inr (Or.inr (Or.inr (Or.inr (Or.inr (Or.inr (Or.inl ⟨h1, Or.inl ⟨by omega, by omega⟩⟩))))))
    · exact Or.inr (Or.inr (Or.inr (Or.inr (Or.inr (Or.inr (Or.inl ⟨h1, Or.inr (Or.inl ⟨by omega, by omega⟩)⟩))))))
  · intro h
    rcases h with ⟨h1, h2, h3⟩ | h | h | h | h | h | ⟨h1, (⟨h2, h3⟩ | ⟨h2, h3⟩ | h2)⟩ | h
    · by_cases k1 : k = 1
      · exact Or.inr (Or.inr (Or.inl ⟨h1, k1⟩))
      · exact Or.inl (Or.inl (Or.inl ⟨h1, by omega, h3⟩))
    · exact Or.inl (Or.inl (Or.inr (Or.inl h)))
    · exact Or.inl (Or.inl (Or.inr (Or.inr h)))
    · exact Or.inl (Or.inr h)
    · exact Or.inr (Or.inl (Or.inl (Or.inl (Or.inl h))))
    · exact Or.inr (Or.inl (Or.inl (Or.inl (Or.inr (Or.inl h)))))
    · exact Or.inr (Or.inl (Or.inl (Or.inr ⟨h1, h2, h3⟩)))
    · exact Or.inr (Or.inl (Or.inl (Or.inl (Or.inr (Or.inr ⟨h1, h2, h3⟩)))))
    · exact Or.inr (Or.inr (Or.inr (Or.inl ⟨h1, h2⟩)))
    · exact Or.inr (Or.inl (Or.inr h))
theorem RTx_old {h h' : Hp} {t : Nat} (ht : t < 6) (e : ∀ a k, ¬ SZt t a k → ¬ (a = 16 ∧ k = 13) → ¬ (a = 96 ∧ k = 13) → gI h' a k = gI h a k) {T : Nat → List Int32} {u : Nat} (hu : u < t) (H : okT T ∧ TxC u T h ∧ TxR u T h) : okT T ∧ TxC u T h' ∧ TxR u T h' := by
  refine ⟨H.1, TxC_c (fun a k q => e a k (by rw [szt]; omega) (by omega) (by omega)) H.2.1, TxR_c (fun a k q => e a k (by rw [szt]; omega) (by omega) (by omega)) H.1 H.2.2⟩
theorem p5_le1 {v : Int32} (h : 1 ≤ v) : 0 ≤ v := by lia
theorem p5_lt7 {v : Int32} (h : v ≤ 6) : v < 7 := by lia
theorem p5_lt161 {v : Int32} (h : v ≤ 160) : v < 161 := by lia
theorem p5_n1 {k : Nat} (h : k ≤ 160) : iN k ≠ -1 := by
  intro z
  have := (iN0 (k := k) (n := 161) (by omega) (by decide)).1
  lia
theorem p5_no {k : Nat} (h : k < 161) (hl : iN k < 0) : False := by
  have := (iN0 (k := k) (n := 161) h (by decide)).1
  lia
theorem p5_up {t : Nat} (ht : t < 6) {v : Int32} (h : v < iN t) : v < iN (t + 1) := by
  have : iN t < iN (t + 1) := by rw [iN_lt (by omega) (by omega)]; omega
  lia
theorem pr_text {L : Nat} {h : Hp} (R : Rel L h) : Pair L (g_X7_text 4000) (g_X8_text 4000) h := by
  obtain ⟨r1, r2, r3, r4, r5, r6, r7, r8, r9⟩ := id R
  obtain ⟨t, ht7, et⟩ := iex (n := 7) (v := gI h 96 13) (by decide) (p5_le1 r3.2.2.1) (show gI h 96 13 < 7 from p5_lt7 r3.2.2.2.1)
  have ec : gI h 16 13 = iN t := r3.2.1.trans et
  have ht1 : 1 ≤ t := by
    have := r3.2.2.1
    rw [et, show (1 : Int32) = iN 1 from rfl, iN_le (by omega) (by omega)] at this
    exact this
  by_cases t6 : t = 6
  · subst t6
    refine Pair.pure (-4) R ?_ ?_
    · unfold g_X7_text g_X7_text_0
      rw [ec, wC, if_neg (by decide), Option.bind_some, if_neg (fun z => z rfl)]
    · unfold g_X8_text g_X8_text_0
      rw [et, if_neg (fun z => z rfl)]
  have ht : t < 6 := by omega
  obtain ⟨n, hn, en'⟩ := iex (n := 161) (v := gI h 96 10) (by decide) r6.2.1 (show gI h 96 10 < 161 from p5_lt161 r6.2.2.1)
  obtain ⟨B, eB⟩ : ∃ B : Nat → Int32, B = gI h 32 := ⟨_, rfl⟩
  have tape : ∀ k, k < n → gI h 32 k = B k ∧ gI h 102 k = B k ∧ 0 ≤ B k ∧ B k ≤ 255 := by
    intro k hk
    have := r6.2.2.2 k (by omega) (by rw [en', iN_lt (by omega) (by omega)]; exact hk)
    rw [eB]
    exact ⟨rfl, this.1.symm, by rw [this.1]; exact this.2.1, by rw [this.1]; exact this.2.2⟩
  have O : okB2 B n := ⟨by omega, fun k hk => (tape k hk).2.2⟩
  obtain ⟨ha, ea⟩ : ∃ ha, ha = hsi (hsi h (48 + 4 * t) 3 0) 31 2 0 := ⟨_, rfl⟩
  have fa : Fr (SCt t) h ha := by rw [ea]; exact ((Fr.rfl' _ _).si _ (by unfold SCt SCd; omega)).si _ (by unfold SCt SCd; omega)
  have Ha : TPc B n L ha := ⟨ROK_fr fa.1 (ROK_of r9.1), by rw [fa.i (by unfold SCt SCd; omega), r6.1]; exact en', fun k hk => by rw [fa.i (by unfold SCt SCd; omega)]; exact (tape k hk).1⟩
  obtain ⟨hb, ab, Ab, fb⟩ := c_adv (p := 0) O Ha (by omega) (by rw [ea, gI_hsi, if_pos ⟨rfl, rfl⟩]; rfl)
  have fb' : Fr (SCt t) ha hb := fb.mono (fun a k z => Or.inl (Or.inl z))
  have Cb : CC t (cat (fun _ => []) 0) hb := ⟨by rw [fb.i (by omega), ea, gI_hsi, if_neg (by omega), gI_hsi, if_pos ⟨rfl, rfl⟩]; rfl, fun i hi => absurd hi (by show ¬ i < 0; omega)⟩
  have lt := l_text (L := L) O ht 3 0 0 (fun _ => []) 4000 hb rfl (by omega) (TPc_fr fb (fun a k => by omega) Ha) Ab Cb (by omega) (by show 0 ≤ 0; omega) (fun i hi => by omega) (fun i hi => by omega)
  have cread : ∀ v hc, g_X2_read_15 4000 4000 (48 + 4 * t) (iN 0) hb = some (v, hc) → g_X7_text 4000 h = if v = -1 then g_X7_text_59 4000 (hsi (hsi hc 31 1 0) 16 13 (gI (hsi hc 31 1 0) 16 13 + 1)) else some (-100 - v, hsi hc 31 1 0) := by
    intro v hc e
    unfold g_X7_text g_X7_text_0
    have c5 : 0 ≤ iN t ∧ iN t ≤ 5 := (show ∀ t, t < 6 → 0 ≤ iN t ∧ iN t ≤ 5 by decide) t ht
    rw [ec, wC, if_pos c5, Option.bind_some, if_pos (show (1 : Int32) ≠ 0 by decide)]
    dsimp only
    rw [ec, if_pos (iN_inb ht (by decide)), iN_ix (by omega)]
    have er : g_X2_read 4000 (48 + 4 * t) h = some (v, hc) := by
      unfold g_X2_read g_X2_read_0 g_X2_read_9 g_X6_clear g_X6_clear_0
      rw [Option.bind_some, ← ea, ab, Option.bind_some]
      exact e
    rw [er, Option.bind_some]
    unfold g_X2_empty g_X2_empty_0
    rw [Option.bind_some]
  -- the reference's start, behind the class
  have rstart : ∀ hz, (∀ a k, ¬ SZt t a k → ¬ (a = 16 ∧ k = 13) → gI hz a k = gI h a k) → gI hz 96 10 = iN n → RTt B n t 0 0 (fun _ => []) (hsi (hsi hz 96 26 0) 96 34 0) ∧ gI hz 96 13 = iN t := by
    intro hz fz z10
    have g : ∀ a k, ¬ SZt t a k → ¬ (a = 16 ∧ k = 13) → gI (hsi (hsi hz 96 26 0) 96 34 0) a k = gI h a k := by
      intro a k z z2
      have z' := mt (szt (t := t) (a := a) (k := k)).mpr z
      rw [gI_hsi, if_neg (by omega), gI_hsi, if_neg (by omega)]; exact fz a k z z2
    refine ⟨⟨⟨?_, fun k hk => ?_, fun k hk => ?_⟩, ?_, ⟨?_, fun i hi => absurd hi (by show ¬ i < 0; omega), ?_⟩, fun i hi => by omega⟩, ?_⟩
    · rw [gI_hsi, if_neg (by omega), gI_hsi, if_neg (by omega)]; exact z10
    · rw [g _ _ (by rw [szt]; omega) (by omega)]; exact (tape k hk).2.1
    · rw [g _ _ (by rw [szt]; omega) (by omega)]; exact r9.2.2 k hk
    · rw [gI_hsi, if_neg (by omega), gI_hsi, if_pos ⟨rfl, rfl⟩]; rfl
    · rw [gI_hsi, if_pos ⟨rfl, rfl⟩]; rfl
    · rw [g _ _ (by rw [szt]; omega) (by omega)]; exact et
    · rw [fz _ _ (by rw [szt]; omega) (by omega)]; exact et
  have e43 : 4 * iN t + 3 = iN (4 * t + 3) := (show ∀ t, t < 6 → 4 * iN t + 3 = iN (4 * t + 3) by decide) t ht
  have ne6 : iN t ≠ 6 := (show ∀ t, t < 6 → iN t ≠ 6 by decide) t ht
  rcases lt with ⟨pf, hc, p1, p2, p3, p4⟩ | ⟨T, hc, p0, p1, p2, p3, p4⟩
  · have fc : Fr (SCt t) h hc := (fa.tr fb').tr p3
    obtain ⟨W, W13⟩ := rstart (hsi hc 31 1 0) (fun a k z _ => by
      have z' := mt (szt (t := t) (a := a) (k := k)).mpr z
      rw [gI_hsi, if_neg (by omega), fc.i (fun w => z (Or.inl w))]) (by rw [gI_hsi, if_neg (by omega), fc.i (by unfold SCt SCd; omega)]; exact en')
    obtain ⟨h2, a2, q27, f2⟩ := p4 _ 4000 (by omega) W
    have e1 := cread _ hc p2
    have sb : st B n pf ≤ 160 := by have := en_b O p1; omega
    rw [if_neg (p5_n1 sb)] at e1
    obtain ⟨h3, e3⟩ : ∃ h3, h3 = hsi (hsi h2 104 (4 * t + 3) (gI h2 96 34)) 96 10 0 := ⟨_, rfl⟩
    have q13 : gI h2 96 13 = iN t := by rw [f2.i (by unfold SRt SRd SMc; omega)]; exact W.2.2.1.2.2
    have e2 : g_X8_text 4000 (hsi hc 31 1 0) = some (-100 - iN (st B n pf), h3) := by
      unfold g_X8_text g_X8_text_0 g_X8_text_17
      rw [W13, if_pos ne6]
      have a2' : g_X8_text_26 4000 4000 1 0 (hsi (hsi (hsi hc 31 1 0) 96 26 0) 96 34 0) = g_X8_text_122 4000 0 h2 := a2
      rw [a2']
      unfold g_X8_text_122 g_X8_text_139 g_X8_text_144
      rw [q13, e43, if_pos (iN_inb (by omega) (by decide)), iN_ix (by omega), if_neg (fun z => z rfl), ← e3, show gI h3 96 27 = iN (st B n pf) by rw [e3, gI_hsi, if_neg (by omega), gI_hsi, if_neg (by omega)]; exact q27]
    have g : ∀ a k, ¬ SZt t a k → gI h3 a k = gI h a k := by
      intro a k z
      have z' := mt (szt (t := t) (a := a) (k := k)).mpr z
      rw [e3, gI_hsi, if_neg (by omega), gI_hsi, if_neg (by omega), f2.i (fun w => z (Or.inr (Or.inl w))), gI_hsi, if_neg (by omega), gI_hsi, if_neg (by omega), gI_hsi, if_neg (by omega), fc.i (fun w => z (Or.inl w))]
    have hk : h3.1 = h.1 := by
      rw [e3]
      exact f2.1.trans fc.1
    refine ⟨_, _, h3, e1, e2, RDo_c (fun a k q => g a k (by rw [szt]; omega)) r1, RTa_c (fun a k q => g a k (by rw [szt]; omega)) r2, RTc_c (fun a k q => g a k (by rw [szt]; omega)) r3, RIm_c (fun a k q => g a k (by rw [szt]; omega)) r4, RSt_c (fun a k q => g a k (by rw [szt]; omega)) r5, ?_, ?_, RSh_c (fun a k q => g a k (by rw [szt]; omega)) r8, RKk_c hk (fun a k q => g a k (by rw [szt]; omega)) r9⟩
    · have v1 : gI h3 31 1 = 0 := by rw [e3, gI_hsi, if_neg (by omega), gI_hsi, if_neg (by omega), f2.i (by unfold SRt SRd SMc; omega), gI_hsi, if_neg (by omega), gI_hsi, if_neg (by omega), gI_hsi, if_pos ⟨rfl, rfl⟩]
      have v2 : gI h3 96 10 = 0 := by rw [e3, gI_hsi, if_pos ⟨rfl, rfl⟩]
      unfold RTp
      rw [v1, v2]
      refine ⟨rfl, by decide, by decide, fun k hk hl => ?_⟩
      exact (p5_no (by omega) hl).elim
    · intro u hu hl
      rw [g 96 13 (by rw [szt]; omega)] at hl
      obtain ⟨T, X⟩ := r7 u hu hl
      rw [et, iN_lt (by omega) (by omega)] at hl
      exact ⟨T, RTx_old ht (fun a k z _ _ => g a k z) hl X⟩
  · have fc : Fr (SCt t) h hc := (fa.tr fb').tr p3
    obtain ⟨hz, ez⟩ : ∃ hz, hz = hsi (hsi hc 31 1 0) 16 13 (iN (t + 1)) := ⟨_, rfl⟩
    have q16 : gI (hsi hc 31 1 0) 16 13 = iN t := by rw [gI_hsi, if_neg (by omega), fc.i (by unfold SCt SCd; omega)]; exact ec
    have gz : ∀ a k, ¬ SZt t a k → ¬ (a = 16 ∧ k = 13) → gI hz a k = gI h a k := fun a k z z2 => by
      have z' := mt (szt (t := t) (a := a) (k := k)).mpr z
      rw [ez, gI_hsi, if_neg z2, gI_hsi, if_neg (by omega), fc.i (fun w => z (Or.inl w))]
    obtain ⟨W, W13⟩ := rstart hz gz (by rw [ez, gI_hsi, if_neg (by omega), gI_hsi, if_neg (by omega), fc.i (by unfold SCt SCd; omega)]; exact en')
    obtain ⟨h2, a2, q34, q104, q103, f2⟩ := p4 _ 4000 (by omega) W
    have z16 : gI hz 16 13 = iN (t + 1) := by rw [ez, gI_hsi, if_pos ⟨rfl, rfl⟩]
    have e1 := cread _ hc p1
    rw [if_pos rfl, q16, iN_add (by omega), ← ez] at e1
    unfold g_X7_text_59 at e1
    rw [z16] at e1
    obtain ⟨h3, e3⟩ : ∃ h3, h3 = hsi (hsi (hsi h2 104 (4 * t + 3) (gI h2 96 34)) 96 10 0) 96 13 (iN (t + 1)) := ⟨_, rfl⟩
    have q13 : gI h2 96 13 = iN t := by rw [f2.i (by unfold SRt SRd SMc; omega)]; exact W.2.2.1.2.2
    have e2 : g_X8_text 4000 hz = some (iN (t + 1) - 1, h3) := by
      unfold g_X8_text g_X8_text_0 g_X8_text_17
      rw [W13, if_pos ne6]
      have a2' : g_X8_text_26 4000 4000 1 0 (hsi (hsi hz 96 26 0) 96 34 0) = g_X8_text_122 4000 1 h2 := a2
      rw [a2']
      unfold g_X8_text_122 g_X8_text_139 g_X8_text_144 g_X8_text_166
      rw [q13, e43, if_pos (iN_inb (by omega) (by decide)), iN_ix (by omega), if_pos (show (1 : Int32) ≠ 0 by decide), show gI (hsi (hsi h2 104 (4 * t + 3) (gI h2 96 34)) 96 10 0) 96 13 = iN t by rw [gI_hsi, if_neg (by omega), gI_hsi, if_neg (by omega)]; exact q13, iN_add (by omega), ← e3, show gI h3 96 13 = iN (t + 1) by rw [e3, gI_hsi, if_pos ⟨rfl, rfl⟩]]
    have g : ∀ a k, ¬ SZt t a k → ¬ (a = 16 ∧ k = 13) → ¬ (a = 96 ∧ k = 13) → gI h3 a k = gI h a k := by
      intro a k z z2 z3
      have z' := mt (szt (t := t) (a := a) (k := k)).mpr z
      rw [e3, gI_hsi, if_neg z3, gI_hsi, if_neg (by omega), gI_hsi, if_neg (by omega), f2.i (fun w => z (Or.inr (Or.inl w))), gI_hsi, if_neg (by omega), gI_hsi, if_neg (by omega)]
      exact gz a k z z2
    have hk : h3.1 = h.1 := by
      rw [e3]
      refine f2.1.trans ?_
      show hz.1 = h.1
      rw [ez]
      exact fc.1
    have c16 : gI h3 16 13 = iN (t + 1) := by
      rw [e3, gI_hsi, if_neg (by omega), gI_hsi, if_neg (by omega), gI_hsi, if_neg (by omega), f2.i (by unfold SRt SRd SMc; omega), gI_hsi, if_neg (by omega), gI_hsi, if_neg (by omega)]; exact z16
    have c13 : gI h3 96 13 = iN (t + 1) := by rw [e3, gI_hsi, if_pos ⟨rfl, rfl⟩]
    have up : ∀ v : Int32, v < iN t → v < iN (t + 1) := fun v hv => p5_up ht hv
    refine ⟨_, hz, h3, e1, e2, RDo_c (fun a k q => g a k (by rw [szt]; omega) (by omega) (by omega)) r1, RTa_c (fun a k q => g a k (by rw [szt]; omega) (by omega) (by omega)) r2, ?_, ?_, RSt_c (fun a k q => g a k (by rw [szt]; omega) (by omega) (by omega)) r5, ?_, ?_, RSh_c (fun a k q => g a k (by rw [szt]; omega) (by omega) (by omega)) r8, RKk_c hk (fun a k q => g a k (by rw [szt]; omega) (by omega) (by omega)) r9⟩
    · unfold RTc
      rw [c16, c13, g 17 3 (by rw [szt]; omega) (by omega) (by omega), g 96 14 (by rw [szt]; omega) (by omega) (by omega)]
      refine ⟨r3.1, rfl, ?_, ?_, r3.2.2.2.2.1, up _ (by rw [← et]; exact r3.2.2.2.2.2)⟩
      · exact (show ∀ t, t < 6 → 1 ≤ iN (t + 1) by decide) t ht
      · exact (show ∀ t, t < 6 → iN (t + 1) ≤ 6 by decide) t ht
    · have q : ∀ a k, ((21 ≤ a ∧ a ≤ 24) ∨ (a = 16 ∧ k = 14) ∨ a = 105 ∨ a = 106 ∨ (a = 96 ∧ 15 ≤ k ∧ k ≤ 19)) → gI h3 a k = gI h a k := fun a k z => g a k (by rw [szt]; omega) (by omega) (by omega)
      unfold RIm
      rw [c13, q 16 14 (by omega), q 96 15 (by omega), q 24 0 (by omega), q 24 1 (by omega), q 24 2 (by omega), q 96 16 (by omega), q 96 17 (by omega), q 96 18 (by omega), q 96 19 (by omega), q 21 3 (by omega)]
      refine ⟨r4.1, r4.2.imp id (fun z => ⟨z.1, fun k hk => ?_, z.2.2.1, z.2.2.2.1, z.2.2.2.2.1, up _ (by rw [← et]; exact z.2.2.2.2.2)⟩)⟩
      rw [q 22 k (by omega), q 23 k (by omega), q 105 k (by omega), q 106 k (by omega)]
      exact z.2.1 k hk
    · have v1 : gI h3 31 1 = 0 := by rw [e3, gI_hsi, if_neg (by omega), gI_hsi, if_neg (by omega), gI_hsi, if_neg (by omega), f2.i (by unfold SRt SRd SMc; omega), gI_hsi, if_neg (by omega), gI_hsi, if_neg (by omega), ez, gI_hsi, if_neg (by omega), gI_hsi, if_pos ⟨rfl, rfl⟩]
      have v2 : gI h3 96 10 = 0 := by rw [e3, gI_hsi, if_neg (by omega), gI_hsi, if_pos ⟨rfl, rfl⟩]
      unfold RTp
      rw [v1, v2]
      refine ⟨rfl, by decide, by decide, fun k hk hl => ?_⟩
      exact (p5_no (by omega) hl).elim
    · intro u hu hl
      rw [c13, iN_lt (by omega) (by omega)] at hl
      by_cases ut : u = t
      · subst ut
        refine ⟨T, p0, TxC_c (fun a k q => ?_) p2, fun p hp => ?_, fun p hp k hk => ?_⟩
        · rw [e3, gI_hsi, if_neg (by omega), gI_hsi, if_neg (by omega), gI_hsi, if_neg (by omega), f2.i (by unfold SRt SRd SMc; omega), gI_hsi, if_neg (by omega), gI_hsi, if_neg (by omega), ez, gI_hsi, if_neg (by omega), gI_hsi, if_neg (by omega)]
        · rw [e3, gI_hsi, if_neg (by omega), gI_hsi, if_neg (by omega), gI_hsi]
          by_cases c : p = 3
          · rw [if_pos ⟨rfl, by omega⟩, c]; exact q34
          · rw [if_neg (by omega)]; exact q104 p (by omega)
        · rw [e3, gI_hsi, if_neg (by omega), gI_hsi, if_neg (by omega), gI_hsi, if_neg (by omega)]; exact q103 p hp k hk
      · obtain ⟨T2, X⟩ := r7 u hu (by rw [et, iN_lt (by omega) (by omega)]; omega)
        exact ⟨T2, RTx_old ht g (by omega) X⟩
