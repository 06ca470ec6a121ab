/-! THE FIRST TEXT -/
noncomputable def tpB (l : List Int32) : Nat → Int32 := fun k => l.getD k 0
noncomputable def T0 : Nat → List Int32 := fun p => if p = 0 then [100020, 0, 100002, 18, 16, 2, 17] else if p = 1 then [100040, 3, 100009, 18, 1, 17, 14] else if p = 2 then [4, 100002, 18, 5, 17] else []
noncomputable def hrc (l : List Int32) : Hp := (KK8 0, fun a k => if a = 96 ∧ k = 10 then iN l.length else if a = 102 then l.getD k 0 else if a = 111 then wordsT.getD k 0 else 0, fun _ _ => 0, fun _ _ => none)
noncomputable def hcc (l : List Int32) : Hp := (KK8 0, fun a k => if a = 31 ∧ k = 1 then iN l.length else if a = 32 then l.getD k 0 else 0, fun _ _ => 0, fun _ _ => none)
noncomputable def pinOk (l : List Int32) : Bool := match g_X8_text_26 4000 4000 1 0 (hrc l) with
  | some (v, h) => v == 0 && (List.range 4).all (fun i => gI h 104 i == iN (toff T0 i)) && (List.range 3).all (fun p => (List.range (T0 p).length).all (fun k => gI h 103 (toff T0 p + k) == (T0 p).getD k 0))
  | none => false
set_option maxRecDepth 1000000 in
theorem pin84 : pinOk by1 = true := by decide +kernel
set_option maxRecDepth 1000000 in
theorem pin83 : pinOk lawT = true := by decide +kernel
theorem RTt_hrc {l : List Int32} : RTt (tpB l) l.length 0 0 0 (fun _ => []) (hrc l) := by
  refine ⟨⟨rfl, fun k hk => rfl, fun k hk => rfl⟩, rfl, ⟨rfl, fun i hi => absurd hi (by show ¬ i < 0; omega), rfl⟩, fun i hi => by omega⟩
theorem T0_len (p : Nat) (hp : 3 ≤ p) : T0 p = [] := by
  unfold T0
  rw [if_neg (by omega), if_neg (by omega), if_neg (by omega)]
theorem toff_3 (T : Nat → List Int32) : toff T 0 = 0 ∧ toff T 1 = (T 0).length ∧ toff T 2 = (T 0).length + (T 1).length ∧ toff T 3 = (T 0).length + (T 1).length + (T 2).length := by
  refine ⟨rfl, ?_, ?_, ?_⟩
  · rw [toff_s]; exact Nat.zero_add _
  · rw [toff_s, toff_s]; show 0 + _ + _ = _; omega
  · rw [toff_s, toff_s, toff_s]; show 0 + _ + _ + _ = _; omega
theorem okT_0 : ∀ p, p < 4 → toff T0 p ≤ 160 := by decide
/-- what the reader of the class makes of it -/
theorem pin {l : List Int32} (hl : l.length ≤ 160) (hb : ∀ k, k < l.length → 0 ≤ l.getD k 0 ∧ l.getD k 0 ≤ 255) (hp : pinOk l = true) {L : Nat} {h : Hp} (H : TPc (tpB l) l.length L h) (A : CAt (tpB l) l.length 0 h) (C : CC 0 [] h) : okT T0 ∧ (∃ h1, g_X2_read_15 4000 4000 48 0 h = some (-1, h1) ∧ TxC 0 T0 h1 ∧ Fr (SCt 0) h h1) ∧ ∀ hr, RTt (tpB l) l.length 0 0 0 (fun _ => []) hr → ∃ h2, g_X8_text_26 4000 4000 1 0 hr = g_X8_text_122 4000 1 h2 ∧ gI h2 96 34 = iN (toff T0 3) ∧ (∀ i, i < 3 → gI h2 104 i = iN (toff T0 i)) ∧ (∀ p, p < 3 → ∀ k, k < (T0 p).length → gI h2 103 (toff T0 p + k) = (T0 p).getD k 0) ∧ Fr (SRt 0) hr h2 := by
  have O : okB2 (tpB l) l.length := ⟨hl, hb⟩
  have lt := l_text (L := L) O (by omega : 0 < 6) 3 0 0 (fun _ => []) 4000 h rfl (by omega) H A C (by omega) (by show 0 ≤ 0; omega) (fun i hi => by omega) (fun i hi => by omega)
  unfold pinOk at hp
  rcases lt with ⟨pf, hc, p1, p2, p3, p4⟩ | ⟨T, hc, p0, p1, p2, p3, p4⟩
  · obtain ⟨h2, a2, q27, f2⟩ := p4 _ 4000 (by omega) RTt_hrc
    have a2' : g_X8_text_26 4000 4000 1 0 (hrc l) = g_X8_text_122 4000 0 h2 := a2
    have q13 : gI h2 96 13 = 0 := by rw [f2.i (by unfold SRt SRd SMc; omega)]; rfl
    have e : g_X8_text_122 4000 0 h2 = some (-100 - iN (st (tpB l) l.length pf), hsi (hsi h2 104 3 (gI h2 96 34)) 96 10 0) := by
      unfold g_X8_text_122 g_X8_text_139 g_X8_text_144
      rw [q13, if_pos (by decide), if_neg (fun z => z rfl), show ix (4 * 0 + 3) = 3 from rfl, show gI (hsi (hsi h2 104 3 (gI h2 96 34)) 96 10 0) 96 27 = iN (st (tpB l) l.length pf) by rw [gI_hsi, if_neg (by omega), gI_hsi, if_neg (by omega)]; exact q27]
    rw [a2', e] at hp
    simp only [Bool.and_eq_true, beq_iff_eq] at hp
    have sb : st (tpB l) l.length pf ≤ 160 := by have := en_b O p1; omega
    have b1 := (iN0 (k := st (tpB l) l.length pf) (n := 161) (by omega) (by decide))
    have b2' : iN (st (tpB l) l.length pf) < 161 := b1.2
    have z := hp.1.1
    exfalso
    have := b1.1
    lia
  · obtain ⟨h2, a2, q34, q104, q103, f2⟩ := p4 _ 4000 (by omega) RTt_hrc
    have a2' : g_X8_text_26 4000 4000 1 0 (hrc l) = g_X8_text_122 4000 1 h2 := a2
    have q13 : gI h2 96 13 = 0 := by rw [f2.i (by unfold SRt SRd SMc; omega)]; rfl
    obtain ⟨h3, e3⟩ : ∃ h3, h3 = hsi (hsi (hsi h2 104 3 (gI h2 96 34)) 96 10 0) 96 13 1 := ⟨_, rfl⟩
    have e : g_X8_text_122 4000 1 h2 = some (0, h3) := by
      unfold g_X8_text_122 g_X8_text_139 g_X8_text_144 g_X8_text_166
      rw [q13, if_pos (by decide), if_pos (show (1 : Int32) ≠ 0 by decide), show ix (4 * 0 + 3) = 3 from rfl, show gI (hsi (hsi h2 104 3 (gI h2 96 34)) 96 10 0) 96 13 = 0 by rw [gI_hsi, if_neg (by omega), gI_hsi, if_neg (by omega)]; exact q13, show (0 : Int32) + 1 = 1 by decide, ← e3, show gI h3 96 13 = 1 by rw [e3, gI_hsi, if_pos ⟨rfl, rfl⟩]]
      rfl
    rw [a2', e] at hp
    simp only [Bool.and_eq_true, beq_iff_eq, List.all_eq_true, List.mem_range] at hp
    obtain ⟨⟨-, w1⟩, w2⟩ := hp
    have o160 := p0.2
    have eo : ∀ i, i < 4 → toff T i = toff T0 i := by
      intro i hi
      have hT : toff T i ≤ 160 := Nat.le_trans (toff_m T i 3 (by omega)) o160
      have h1 := w1 i hi
      have h2' := okT_0 i hi
      have : gI h3 104 i = iN (toff T i) := by
        rw [e3, gI_hsi, if_neg (by omega), gI_hsi, if_neg (by omega), gI_hsi]
        by_cases c : i = 3
        · rw [if_pos ⟨rfl, c⟩, c]; exact q34
        · rw [if_neg (by omega)]
          have := q104 i (by omega)
          rw [show 4 * 0 + i = i by omega] at this
          exact this
      rw [this, iN_eq (by omega) (by omega)] at h1
      exact h1
    have el : ∀ p, p < 3 → (T p).length = (T0 p).length := by
      intro p hp
      have a := toff_s T p
      have b := toff_s T0 p
      have c := eo p (by omega)
      have d := eo (p + 1) (by omega)
      omega
    have eT : ∀ p, p < 3 → T p = T0 p := by
      intro p hp
      refine List.ext_getElem (el p hp) (fun k h1 h2' => ?_)
      have a := q103 p hp k h1
      have b := w2 p hp k h2'
      rw [e3, gI_hsi, if_neg (by omega), gI_hsi, if_neg (by omega), gI_hsi, if_neg (by omega)] at b
      rw [show 200 * 0 + (toff T p + k) = toff T p + k by omega, eo p (by omega)] at a
      rw [a] at b
      rw [List.getD_eq_getElem?_getD, List.getD_eq_getElem?_getD, List.getElem?_eq_getElem h1, List.getElem?_eq_getElem h2'] at b
      exact b
    have oc : ∀ i, i < 4 → toff T i = toff T0 i := eo
    refine ⟨⟨fun p hp => by rw [← eT p hp]; exact p0.1 p hp, by rw [← eo 3 (by omega)]; exact o160⟩, ⟨hc, p1, ⟨fun p hp => ?_, fun p hp k hk => ?_⟩, p3⟩, fun hr W => ?_⟩
    · rw [p2.1 p hp, eo (p + 1) (by omega)]
    · rw [← eT p hp] at hk ⊢
      rw [← eo p (by omega)]
      exact p2.2 p hp k hk
    · obtain ⟨h5, b1, b2', b3, b4, b5⟩ := p4 hr 4000 (by omega) W
      refine ⟨h5, b1, by rw [b2', eo 3 (by omega)], fun i hi => ?_, fun p hp k hk => ?_, b5⟩
      · have := b3 i hi
        rw [show 4 * 0 + i = i by omega, eo i (by omega)] at this
        exact this
      · rw [← eT p hp] at hk ⊢
        have := b4 p hp k hk
        rw [show 200 * 0 + (toff T p + k) = toff T p + k by omega, eo p (by omega)] at this
        exact this
/-- what the reader of the reference makes of it -/
theorem pinR {l : List Int32} (hl : l.length ≤ 160) (hb : ∀ k, k < l.length → 0 ≤ l.getD k 0 ∧ l.getD k 0 ≤ 255) (hp : pinOk l = true) : ∀ hr, RTt (tpB l) l.length 0 0 0 (fun _ => []) hr → ∃ h2, g_X8_text_26 4000 4000 1 0 hr = g_X8_text_122 4000 1 h2 ∧ gI h2 96 34 = iN (toff T0 3) ∧ (∀ i, i < 3 → gI h2 104 i = iN (toff T0 i)) ∧ (∀ p, p < 3 → ∀ k, k < (T0 p).length → gI h2 103 (toff T0 p + k) = (T0 p).getD k 0) ∧ Fr (SRt 0) hr h2 := by
  have O : okB2 (tpB l) l.length := ⟨hl, hb⟩
  have H : TPc (tpB l) l.length 0 (hcc l) := ⟨ROK_of rfl, rfl, fun k hk => rfl⟩
  obtain ⟨h1, a1, A1, f1⟩ := c_adv (p := 0) O H (by omega) rfl
  exact (pin hl hb hp (TPc_fr f1 (fun a k => by omega) H) A1 (CC_fr f1 ⟨rfl, fun i hi => absurd hi (by show ¬ i < 0; omega)⟩)).2.2
