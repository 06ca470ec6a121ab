theorem wix_lt (B : Nat → Int32) (s e : Nat) : wix B s e < 13 := by
  unfold wix
  rcases fw_spec (B := B) (s := s) (e := e) 12 0 with ⟨w, a, b, c, d⟩ | ⟨a, b⟩
  · rw [d]; omega
  · rw [b]; omega
theorem kw_facts : ∀ w, w < 13 → (kw w = 3 → 3 ≤ w) ∧ kw w ≠ 2 ∧ (10 ≤ kw w ∧ kw w ≤ 12 → w < 3 ∧ kw w - 10 = iN w) ∧ (if 3 ≤ iN w then (if 9 ≤ iN w then (if iN w ≠ 12 then (4 + iN w) - 9 else -1) else 2) else (3 : Int32)) = rkd (kw w) ∧ (if 3 ≤ iN w then iN w - 3 else iN w) = (if 3 ≤ w then iN (w - 3) else iN w) := by decide +kernel
theorem sg_rkd0 : ∀ k, k < 256 → (isS (iN k) = true → rkd (iN k) = iN k) := by decide +kernel
theorem sg_rkd1 : ∀ k, k < 256 → (isS (iN k) = true → ¬ (iN k = 2 ∨ iN k = 3)) := by decide +kernel
theorem sg_rkd2 : ∀ k, k < 256 → (isS (iN k) = true → ¬ (10 ≤ iN k ∧ iN k ≤ 12)) := by decide +kernel
theorem sg_rkd (k : Nat) (hk : k < 256) (h : isS (iN k) = true) : rkd (iN k) = iN k ∧ ¬ (iN k = 2 ∨ iN k = 3) ∧ ¬ (10 ≤ iN k ∧ iN k ≤ 12) := ⟨sg_rkd0 k hk h, sg_rkd1 k hk h, sg_rkd2 k hk h⟩
theorem r_next {B : Nat → Int32} {n p : Nat} {h : Hp} (O : okB2 B n) (H : TPr B n h) (hp : p ≤ n) (q : gI h 96 26 = iN p) : ∃ h', g_X8_next 4000 h = some h' ∧ RAt B n p h' ∧ Fr S96 h h' := by
  have h160 := O.1
  obtain ⟨h1, a1, b1, f1⟩ := l_rskip O (160 - p) p 4000 h (by omega) (by omega) hp H q
  obtain ⟨s, es⟩ : ∃ s, s = st B n p := ⟨_, rfl⟩
  have bs := upto_b (B := B) (Q := isBk) hp
  have e0 : rn B n isBk (160 - p) p = s := es.symm
  rw [e0] at b1
  have hsn : s ≤ n := by rw [es]; exact bs.2
  obtain ⟨h2, e2⟩ : ∃ h2, h2 = hsi (hsi (hsi h1 96 27 (iN s)) 96 28 0) 96 29 0 := ⟨_, rfl⟩
  have f2 : Fr S96 h h2 := by rw [e2]; exact ((f1.si _ (by omega)).si _ (by omega)).si _ (by omega)
  have H2 := TPr_fr f2 (fun a k => by omega) H
  have q6 : gI h2 96 26 = iN s := by rw [e2, gI_hsi, if_neg (by omega), gI_hsi, if_neg (by omega), gI_hsi, if_neg (by omega)]; exact b1
  have q7 : gI h2 96 27 = iN s := by rw [e2, gI_hsi, if_neg (by omega), gI_hsi, if_neg (by omega), gI_hsi, if_pos ⟨rfl, rfl⟩]
  have q8 : gI h2 96 28 = 0 := by rw [e2, gI_hsi, if_neg (by omega), gI_hsi, if_pos ⟨rfl, rfl⟩]
  have q9 : gI h2 96 29 = 0 := by rw [e2, gI_hsi, if_pos ⟨rfl, rfl⟩]
  have go : ∃ h', g_X8_next_70 4000 h2 = some h' ∧ RAt B n p h' ∧ Fr S96 h2 h' := by
    unfold g_X8_next_70 RAt en kd vl
    rw [← es, q6, H2.1]
    unfold en0 kd0 vl0
    by_cases c : s < n
    case neg =>
      have : s = n := by omega
      rw [if_neg (fun z => z (by rw [this])), if_neg c, if_neg c]
      exact ⟨h2, rfl, ⟨q6, q7, q8, fun z => z.elim (fun z => absurd z (by decide)) (fun z => absurd z (by decide)), fun z => absurd z (by decide)⟩, Fr.rfl' _ _⟩
    rw [if_pos (by intro z; rw [iN_eq (by omega) (by omega)] at z; omega), if_pos (iN_inb (by omega) (by decide)), iN_ix (by omega), H2.2.1 s c, if_pos c, if_pos c, r_let, Option.bind_some]
    have hB := O.2 s c
    by_cases d : isLt (B s) = true
    · simp only [if_pos d]
      rw [if_neg (fun e => absurd e (show ¬ (1 : Int32) = 0 by decide))]
      obtain ⟨h3, a3, b3, f3⟩ := l_rlet O (160 - s) s 4000 h2 (by omega) (by omega) hsn H2 q6
      have bl := upto_b (B := B) (Q := isLt) hsn
      have H3 := TPr_fr f3 (fun a k => by omega) H2
      have q73 : gI h3 96 27 = iN s := by rw [f3.i (by omega)]; exact q7
      have ew := l_rword O H3 bl.1 bl.2 12 0 4000 rfl (by omega)
      have ew' : g_X8_wordFrom 4000 (iN s) (iN (upto B n isLt s)) h3 = some (iN (wix B s (upto B n isLt s)), h3) := ew
      have b3' : gI h3 96 26 = iN (upto B n isLt s) := b3
      obtain ⟨w, hw⟩ : ∃ w, w = wix B s (upto B n isLt s) := ⟨_, rfl⟩
      have hw13 : w < 13 := by rw [hw]; exact wix_lt _ _ _
      obtain ⟨k1, k2, k3, k4, k5⟩ := kw_facts w hw13
      rw [a3]
      unfold g_X8_next_146
      rw [q73, b3', ew', ← hw, Option.bind_some]
      have e195 : (if 3 ≤ iN w then (if 9 ≤ iN w then (if iN w ≠ 12 then g_X8_next_195 4000 (iN w) ((4 + iN w) - 9) h3 else g_X8_next_195 4000 (iN w) (-1) h3) else g_X8_next_195 4000 (iN w) 2 h3) else g_X8_next_195 4000 (iN w) 3 h3) = g_X8_next_195 4000 (iN w) (rkd (kw w)) h3 := by
        rw [← k4]
        by_cases x1 : 3 ≤ iN w
        · rw [if_pos x1, if_pos x1]
          by_cases x2 : 9 ≤ iN w
          · rw [if_pos x2, if_pos x2]
            by_cases x3 : iN w ≠ 12
            · rw [if_pos x3, if_pos x3]
            · rw [if_neg x3, if_neg x3]
          · rw [if_neg x2, if_neg x2]
        · rw [if_neg x1, if_neg x1]
      dsimp only
      rw [e195]
      have e198 : g_X8_next_195 4000 (iN w) (rkd (kw w)) h3 = some (hsi (hsi h3 96 28 (rkd (kw w))) 96 29 (if 3 ≤ w then iN (w - 3) else iN w)) := by
        rw [← k5]
        unfold g_X8_next_195 g_X8_next_198 g_X8_next_211
        by_cases x1 : 3 ≤ iN w
        · rw [if_pos x1, if_pos x1]
        · rw [if_neg x1, if_neg x1]
      rw [e198]
      refine ⟨_, rfl, ⟨?_, ?_, ?_, fun z => ?_, fun z => ?_⟩, ((f3.mono (fun a k z => by omega)).si _ (by omega)).si _ (by omega)⟩
      · rw [gI_hsi, if_neg (by omega), gI_hsi, if_neg (by omega)]; exact b3'
      · rw [gI_hsi, if_neg (by omega), gI_hsi, if_neg (by omega)]; exact q73
      · rw [gI_hsi, if_neg (by omega), gI_hsi, if_pos ⟨rfl, rfl⟩]
      · have := k1 (z.resolve_left k2)
        rw [gI_hsi, if_pos ⟨rfl, rfl⟩, if_pos this]
      · have := k3 z
        rw [gI_hsi, if_pos ⟨rfl, rfl⟩, if_neg (by omega)]; exact this.2.symm
    · simp only [if_neg d]
      rw [if_pos trivial, r_dig, Option.bind_some]
      by_cases g : isDg (B s) = true
      · simp only [if_pos g]
        rw [if_neg (fun e => absurd e (show ¬ (1 : Int32) = 0 by decide))]
        obtain ⟨h3, a3, b3, c3, d3, e3, f3⟩ := l_rnum O (s := s) (V := numv B (upto B n isDg s - s) s 0) (160 - s) s 4000 h2 (by omega) (by omega) (Nat.le_refl _) hsn H2 q6 (fun _ => by rw [q9]; rfl)
        rw [Nat.sub_self] at a3
        have a3' : g_X8_next_230 4000 4000 0 h2 = some h3 := a3
        rw [a3']
        refine ⟨h3, rfl, ⟨b3, d3.trans q7, ?_, fun z => ?_, fun z => ?_⟩, f3⟩
        · rw [c3]
          show (if upto B n isDg s - s ≤ 4 then (1 : Int32) else -1) = _
          by_cases w : upto B n isDg s - s ≤ 4
          · rw [if_pos w, if_pos w]; decide
          · rw [if_neg w, if_neg w]; decide
        · by_cases w : upto B n isDg s - s ≤ 4
          · exact e3 w
          · rw [if_neg w] at z
            exact z.elim (fun z => absurd z (by decide)) (fun z => absurd z (by decide))
        · by_cases w : upto B n isDg s - s ≤ 4
          · rw [if_pos w] at z; exact absurd z (by decide)
          · rw [if_neg w] at z; exact absurd z (by decide)
      · simp only [if_neg g]
        rw [if_pos trivial]
        obtain ⟨b, hb, ebk⟩ := iex (n := 256) (by decide) hB.1 (by have := hB.2; show B s < 256; lia)
        have fin : ∀ x : Int32, x = (if isS (B s) = true then 1 else 0) → ∃ h', g_X8_next_379 4000 (B s) x h2 = some h' ∧ (gI h' 96 26 = iN (s + 1) ∧ gI h' 96 27 = iN s ∧ gI h' 96 28 = rkd (if isS (B s) = true then B s else 1) ∧ ((if isS (B s) = true then B s else 1) = 2 ∨ (if isS (B s) = true then B s else 1) = 3 → gI h' 96 29 = numv B (upto B n isDg s - s) s 0) ∧ (10 ≤ (if isS (B s) = true then B s else 1) ∧ (if isS (B s) = true then B s else 1) ≤ 12 → gI h' 96 29 = (if isS (B s) = true then B s else 1) - 10)) ∧ Fr S96 h2 h' := by
          intro x hx
          have fr : ∀ K, Fr S96 h2 (hsi (hsi h2 96 28 K) 96 26 (iN (s + 1))) := fun K => ((Fr.rfl' _ _).si _ (by omega)).si _ (by omega)
          have tail : ∀ K, g_X8_next_390 4000 K h2 = some (hsi (hsi h2 96 28 K) 96 26 (iN (s + 1))) := by
            intro K
            unfold g_X8_next_390 g_X8_next_393
            rw [show gI (hsi h2 96 28 K) 96 26 = iN s by rw [gI_hsi, if_neg (by omega)]; exact q6, iN_add (by omega)]
          unfold g_X8_next_379
          by_cases t : isS (B s) = true
          · rw [if_pos t] at hx
            simp only [if_pos t]
            rw [if_neg (by rw [hx]; decide), tail]
            have sr := sg_rkd b hb (by rw [← ebk]; exact t)
            rw [← ebk] at sr
            refine ⟨_, rfl, ⟨?_, ?_, ?_, fun z => absurd z sr.2.1, fun z => absurd z sr.2.2⟩, fr _⟩
            · rw [gI_hsi, if_pos ⟨rfl, rfl⟩]
            · rw [gI_hsi, if_neg (by omega), gI_hsi, if_neg (by omega)]; exact q7
            · rw [gI_hsi, if_neg (by omega), gI_hsi, if_pos ⟨rfl, rfl⟩]; exact sr.1.symm
          · rw [if_neg t] at hx
            simp only [if_neg t]
            rw [if_pos hx, tail]
            refine ⟨_, rfl, ⟨?_, ?_, ?_, fun z => z.elim (fun z => absurd z (by decide)) (fun z => absurd z (by decide)), fun z => absurd z (by decide)⟩, fr _⟩
            · rw [gI_hsi, if_pos ⟨rfl, rfl⟩]
            · rw [gI_hsi, if_neg (by omega), gI_hsi, if_neg (by omega)]; exact q7
            · rw [gI_hsi, if_neg (by omega), gI_hsi, if_pos ⟨rfl, rfl⟩]; decide
        have t74 : ∀ c, B s = c → isS c = true → ∃ x : Int32, g_X8_next_374 4000 (B s) h2 = g_X8_next_379 4000 (B s) x h2 ∧ x = (if isS (B s) = true then 1 else 0) := by
          intro c e z
          exact ⟨1, rfl, by rw [e, if_pos z]⟩
        have key : ∃ x : Int32, (if B s = 40 then g_X8_next_374 4000 (B s) h2 else if B s = 41 then g_X8_next_374 4000 (B s) h2 else if B s = 59 then g_X8_next_374 4000 (B s) h2 else if B s = 43 then g_X8_next_374 4000 (B s) h2 else if B s = 45 then g_X8_next_374 4000 (B s) h2 else if B s = 42 then g_X8_next_374 4000 (B s) h2 else if B s = 60 then g_X8_next_374 4000 (B s) h2 else if B s ≠ 61 then g_X8_next_379 4000 (B s) 0 h2 else g_X8_next_374 4000 (B s) h2) = g_X8_next_379 4000 (B s) x h2 ∧ x = (if isS (B s) = true then 1 else 0) := by
          by_cases c1 : B s = 40
          · rw [if_pos c1]; exact t74 _ c1 (by decide)
          rw [if_neg c1]
          by_cases c2 : B s = 41
          · rw [if_pos c2]; exact t74 _ c2 (by decide)
          rw [if_neg c2]
          by_cases c3 : B s = 59
          · rw [if_pos c3]; exact t74 _ c3 (by decide)
          rw [if_neg c3]
          by_cases c4 : B s = 43
          · rw [if_pos c4]; exact t74 _ c4 (by decide)
          rw [if_neg c4]
          by_cases c5 : B s = 45
          · rw [if_pos c5]; exact t74 _ c5 (by decide)
          rw [if_neg c5]
          by_cases c6 : B s = 42
          · rw [if_pos c6]; exact t74 _ c6 (by decide)
          rw [if_neg c6]
          by_cases c7 : B s = 60
          · rw [if_pos c7]; exact t74 _ c7 (by decide)
          rw [if_neg c7]
          by_cases c8 : B s = 61
          · rw [if_neg (fun z => z c8)]; exact t74 _ c8 (by decide)
          rw [if_pos c8]
          refine ⟨0, rfl, ?_⟩
          rw [if_neg]
          unfold isS
          simp [c1, c2, c3, c4, c5, c6, c7, c8]
        obtain ⟨x, k1, k2⟩ := key
        rw [k1]
        exact fin x k2
  obtain ⟨h3, a3, b3, f3⟩ := go
  refine ⟨h3, ?_, b3, f2.tr f3⟩
  have ea : g_X8_next 4000 h = g_X8_next_52 4000 h1 := a1
  rw [ea]
  unfold g_X8_next_52 g_X8_next_60 g_X8_next_65
  rw [b1, ← e2]
  exact a3
