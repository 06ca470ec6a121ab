/-! THE CONSTRUCTORS read the first text -/
theorem s_len1 {L : Nat} {h : Hp} (e : ROK L h) : f_J0_length_8abf5 1 h = some (84, h) := by
  have h2 : hk h 1 = (20, 2) := e _ (by omega)
  have h5 : hk h 4 = (21, 84) := e _ (by omega)
  unfold f_J0_length_8abf5 f_J0_length_8abf5_0 f_J0_coder_7d493 f_J0_coder_7d493_0
  rw [if_pos h2, h5, if_pos rfl, if_pos h2, Option.bind_some]
  show some (Int32.ofNat 84 >>> ((0 : Int32) &&& 31), h) = some (84, h)
  rw [show Int32.ofNat 84 >>> ((0 : Int32) &&& 31) = 84 by decide]
theorem by1_b : ∀ i, i < 84 → (((Int32.toUInt32 ((roC 4 i) &&& 255)) % 65536).toInt32) = by1.getD i 0 ∧ narrow .char (.int (((Int32.toUInt32 ((roC 4 i) &&& 255)) % 65536).toInt32)) = .int (((Int32.toUInt32 ((roC 4 i) &&& 255)) % 65536).toInt32) := by decide +kernel
theorem s_char1 {L : Nat} {h : Hp} (e : ROK L h) {i : Nat} (hi : i < 84) : f_J0_charAt_5068e 1 (iN i) h = some (by1.getD i 0, h) := by
  have h2 : hk h 1 = (20, 2) := e _ (by omega)
  have h5 : hk h 4 = (21, 84) := e _ (by omega)
  obtain ⟨b1, b2⟩ := by1_b i hi
  have c1 := iN0 hi (show 84 < 2147483648 by decide)
  unfold f_J0_charAt_5068e f_J0_charAt_5068e_0 f_J0_isLatin1_aae02 f_J0_isLatin1_aae02_0
  rw [if_pos h2, if_pos h2, Option.bind_some, if_neg (fun z => absurd z (show ¬ (1 : Int32) = 0 by decide)), if_pos h2]
  have e1 : f_J1_charAt_3b067 (1 + 3) (iN i) h = some (by1.getD i 0, h) := by
    unfold f_J1_charAt_3b067 f_J1_charAt_3b067_0
    rw [show 1 + 3 = 4 from rfl, h5, if_pos rfl]
    have e2 : f_J0_checkIndex_df160 (iN i) (Int32.ofNat 84) h = some h := by
      unfold f_J0_checkIndex_df160 f_J0_checkIndex_df160_0 f_J3_checkIndex_8e157 f_J3_checkIndex_8e157_0
      rw [if_neg (by have := c1.1; lia), if_pos (show iN i < Int32.ofNat 84 from c1.2), Option.bind_some]
    rw [e2, Option.bind_some, if_pos (okB_of h5 hi (by decide)), if_pos (by decide), iN_ix (by omega), if_pos b2, b1]
  rw [e1, Option.bind_some, ← b1, if_pos b2]
theorem by1_r : ∀ k, k < by1.length → 0 ≤ by1.getD k 0 ∧ by1.getD k 0 ≤ 255 := by decide +kernel
theorem lawT_r : ∀ k, k < lawT.length → 0 ≤ lawT.getD k 0 ∧ lawT.getD k 0 ≤ 255 := by decide +kernel
theorem by1_l : by1.length = 84 := by decide
theorem lawT_l : lawT.length = 83 := by decide
noncomputable def SC7 (a k : Nat) : Prop := SCt 0 a k ∨ (a = 31 ∧ k = 1) ∨ a = 32
theorem l_put {L : Nat} (j : Nat) : ∀ (k m : Nat) (h : Hp), k + j = 84 → j < m → ROK L h → gI h 31 1 = iN k → (∀ i, i < k → gI h 32 i = by1.getD i 0) → ∃ h', g_X7_init_234 4000 m (iN k) h = ((g_X2_read 4000 (48 + 4 * ix 0) h').bind fun o3 => (g_X2_empty o3.2).bind fun o4 => some o4) ∧ gI h' 31 1 = iN 84 ∧ (∀ i, i < 84 → gI h' 32 i = by1.getD i 0) ∧ Fr (fun a k => (a = 31 ∧ k = 1) ∨ a = 32) h h' := by
  induction j with
  | zero =>
    intro k m h ek hm H q r
    obtain ⟨m, rfl⟩ : ∃ z, m = z + 1 := ⟨m - 1, by omega⟩
    obtain rfl : k = 84 := by omega
    refine ⟨h, ?_, q, r, Fr.rfl' _ _⟩
    rw [g_X7_init_234, s_len1 H, Option.bind_some, if_pos (show (84 : Int32) ≤ iN 84 by decide)]
  | succ j ih =>
    intro k m h ek hm H q r
    obtain ⟨m, rfl⟩ : ∃ z, m = z + 1 := ⟨m - 1, by omega⟩
    obtain ⟨h1, e1⟩ : ∃ h1, h1 = hsi (hsi h 32 k (by1.getD k 0)) 31 1 (iN (k + 1)) := ⟨_, rfl⟩
    have f1 : Fr (fun a k => (a = 31 ∧ k = 1) ∨ a = 32) h h1 := by rw [e1]; exact ((Fr.rfl' _ _).si _ (Or.inr rfl)).si _ (Or.inl ⟨rfl, rfl⟩)
    obtain ⟨h2, a2, b2', c2, d2⟩ := ih (k + 1) m h1 (by omega) (by omega) (ROK_fr f1.1 H) (by rw [e1, gI_hsi, if_pos ⟨rfl, rfl⟩]) (fun i hi => by
      rw [e1, gI_hsi, if_neg (by omega), gI_hsi]
      by_cases c : i = k
      · rw [if_pos ⟨rfl, c⟩, c]
      · rw [if_neg (by omega)]; exact r i (by omega))
    refine ⟨h2, ?_, b2', c2, f1.tr d2⟩
    have ea : g_X2_add (by1.getD k 0) h = some h1 := by
      unfold g_X2_add g_X2_add_0 g_X2_add_20
      rw [q, if_neg (show ¬ (160 : Int32) ≤ iN k by rw [show (160 : Int32) = iN 160 from rfl, iN_le (by omega) (by omega)]; omega), if_pos (iN_inb (by omega) (by decide)), iN_ix (by omega), show gI (hsi h 32 k (by1.getD k 0)) 31 1 = iN k by rw [gI_hsi, if_neg (by omega)]; exact q, iN_add (by omega), ← e1]
    rw [g_X7_init_234, s_len1 H, Option.bind_some, if_neg (show ¬ (84 : Int32) ≤ iN k by rw [show (84 : Int32) = iN 84 from rfl, iN_le (by omega) (by omega)]; omega), s_char1 H (by omega), Option.bind_some, ea, Option.bind_some, iN_add (by omega)]
    exact a2
theorem first7 {L : Nat} {p : Hp} (H : ROK L p) (q : gI p 31 1 = 0) : ∃ p', g_X7_init_232 4000 p = some p' ∧ okT T0 ∧ TxC 0 T0 p' ∧ gI p' 31 1 = 0 ∧ Fr SC7 p p' := by
  obtain ⟨h1, a1, b1, c1, f1⟩ := l_put (L := L) 84 0 4000 p rfl (by omega) H q (fun i hi => by omega)
  obtain ⟨ha, ea⟩ : ∃ ha, ha = hsi (hsi h1 48 3 0) 31 2 0 := ⟨_, rfl⟩
  have fa : Fr SC7 h1 ha := by rw [ea]; exact ((Fr.rfl' _ _).si _ (by unfold SC7 SCt SCd; omega)).si _ (by unfold SC7 SCt SCd; omega)
  have f1' : Fr SC7 p h1 := f1.mono (fun a k z => by unfold SC7; omega)
  have O : okB2 (tpB by1) by1.length := ⟨by rw [by1_l]; omega, by1_r⟩
  have Ha : TPc (tpB by1) by1.length L ha := ⟨ROK_fr (fa.1.trans f1.1) H, by rw [ea, gI_hsi, if_neg (by omega), gI_hsi, if_neg (by omega), b1, by1_l], fun k hk => by rw [ea, gI_hsi, if_neg (by omega), gI_hsi, if_neg (by omega)]; exact c1 k (by rw [by1_l] at hk; exact hk)⟩
  obtain ⟨hb, ab, Ab, fb⟩ := c_adv (p := 0) O Ha (by omega) (by rw [ea, gI_hsi, if_pos ⟨rfl, rfl⟩]; rfl)
  have Cb : CC 0 [] hb := ⟨by rw [fb.i (by omega), ea, gI_hsi, if_neg (by omega), gI_hsi, if_pos ⟨rfl, rfl⟩]; rfl, fun i hi => absurd hi (by show ¬ i < 0; omega)⟩
  obtain ⟨o1, ⟨hc, d1, d2, d3⟩, -⟩ := pin (L := L) (by rw [by1_l]; omega) by1_r pin84 (TPc_fr fb (fun a k => by omega) Ha) Ab Cb
  refine ⟨hsi hc 31 1 0, ?_, o1, TxC_c (fun a k z => by rw [gI_hsi, if_neg (by omega)]) d2, by rw [gI_hsi, if_pos ⟨rfl, rfl⟩], (((f1'.tr fa).tr (fb.mono (fun a k z => Or.inl (Or.inl (Or.inl z))))).tr (d3.mono (fun a k z => Or.inl z))).si _ (Or.inr (Or.inl ⟨rfl, rfl⟩))⟩
  have er : g_X2_read 4000 (48 + 4 * ix 0) h1 = some (-1, hc) := by
    show g_X2_read 4000 48 h1 = some (-1, hc)
    unfold g_X2_read g_X2_read_0 g_X2_read_9 g_X6_clear g_X6_clear_0
    rw [Option.bind_some, ← ea, ab, Option.bind_some]
    exact d1
  have a1' : g_X7_init_232 4000 p = ((g_X2_read 4000 (48 + 4 * ix 0) h1).bind fun o3 => (g_X2_empty o3.2).bind fun o4 => some o4) := a1
  rw [a1', er, Option.bind_some]
  unfold g_X2_empty g_X2_empty_0
  rw [Option.bind_some]
