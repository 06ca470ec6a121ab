noncomputable def bC (w : Int64) (k : Nat) : Int32 := (Int64.toInt32 ((Int64.toUInt64 w >>> ((Int32.toInt64 (8 * iN k)).toUInt64 &&& Int64.toUInt64 63)).toInt64)) &&& 255
noncomputable def bR (w : Int64) (k : Nat) : Int32 := Int64.toInt32 ((w >>> (Int32.toInt64 (8 * iN k) &&& 63)) &&& 255)
theorem b255 (i : Nat) : (255#32).getLsbD i = decide (i < 8) := by
  by_cases h : i < 32
  · have : ∀ i, i < 32 → (255#32).getLsbD i = decide (i < 8) := by decide
    exact this i h
  · rw [BitVec.getLsbD_of_ge _ _ (by omega)]; simp; omega
theorem b255' (i : Nat) : (255#64).getLsbD i = decide (i < 8) := by
  by_cases h : i < 64
  · have : ∀ i, i < 64 → (255#64).getLsbD i = decide (i < 8) := by decide
    exact this i h
  · rw [BitVec.getLsbD_of_ge _ _ (by omega)]; simp; omega
theorem shN : ∀ k, k < 8 → ((Int32.toInt64 (8 * iN k)).toUInt64 &&& Int64.toUInt64 63).toBitVec = BitVec.ofNat 64 (8 * k) ∧ (Int32.toInt64 (8 * iN k) &&& 63).toBitVec = BitVec.ofNat 64 (8 * k) := by decide
theorem bCR (w : Int64) (k : Nat) (hk : k < 8) : bC w k = bR w k := by
  obtain ⟨s1, s2⟩ := shN k hk
  unfold bC bR
  apply Int32.toBitVec_inj.1
  generalize ((Int32.toInt64 (8 * iN k)).toUInt64 &&& Int64.toUInt64 63) = p at s1
  generalize (Int32.toInt64 (8 * iN k) &&& 63) = q at s2
  have p1 : p.toNat % 64 = 8 * k := by
    have : p.toNat = p.toBitVec.toNat := rfl
    rw [this, s1, BitVec.toNat_ofNat]; omega
  have q1 : (q.toBitVec.smod 64#64).toNat = 8 * k := by
    rw [s2]
    have : ∀ k, k < 8 → ((BitVec.ofNat 64 (8 * k)).smod 64#64).toNat = 8 * k := by decide
    exact this k hk
  simp
  rw [p1, q1]
  apply BitVec.eq_of_getLsbD_eq
  intro i hi
  rw [BitVec.getLsbD_and, BitVec.getLsbD_and, b255]
  by_cases h8 : i < 8
  · rw [BitVec.getLsbD_signExtend, BitVec.getLsbD_signExtend, BitVec.getLsbD_ushiftRight, BitVec.getLsbD_sshiftRight]
    simp [h8, hi, show i < 64 by omega, show 8 * k + i < 64 by omega]
  · simp [h8]
theorem bR_r (w : Int64) (k : Nat) (hk : k < 8) : 0 ≤ bR w k ∧ bR w k ≤ 255 := by
  rw [← bCR w k hk]
  unfold bC
  generalize Int64.toInt32 _ = x
  have h1 : (x &&& 255).toBitVec.toNat ≤ 255 := by
    rw [Int32.toBitVec_and, BitVec.toNat_and]
    exact Nat.and_le_right
  have h2 : (x &&& 255).toInt = (x &&& 255).toBitVec.toInt := rfl
  have h3 := BitVec.toInt_eq_toNat_of_lt (x := (x &&& 255).toBitVec) (by omega)
  have k0 : (0 : Int32).toInt = 0 := rfl
  have k255 : (255 : Int32).toInt = 255 := rfl
  rw [le32, le32]
  omega
theorem fe_i {j : Nat} (hj : j < 8) : ¬ iN j < 0 := by
  show ¬ iN j < iN 0
  rw [iN_lt (by omega) (by omega)]; omega
theorem fe_s {j : Nat} (hj : j < 9) : iN j + (-1) = iN j - 1 := by lia
theorem l_cfeed (n : Nat) (w : Int64) (j : Nat) : ∀ (m sz : Nat) (h : Hp), j ≤ 8 → gI h 31 1 = iN sz → sz + j ≤ 160 → j < m → ∃ h', g_X7_feed_36 n m w (iN j - 1) h = some (iN (sz + j), h') ∧ Fr (fun a k => a = 32 ∨ (a = 31 ∧ k = 1)) h h' ∧ gI h' 31 1 = iN (sz + j) ∧ ∀ q, gI h' 32 q = if sz ≤ q ∧ q < sz + j then bR w (j - 1 - (q - sz)) else gI h 32 q := by
  induction j with
  | zero =>
    intro m sz h hj hs hz hm
    obtain ⟨m, rfl⟩ : ∃ z, m = z + 1 := ⟨m - 1, by omega⟩
    refine ⟨h, ?_, Fr.rfl' _ _, hs, fun q => by rw [if_neg (by omega)]⟩
    rw [g_X7_feed_36, if_pos (by decide), hs]; rfl
  | succ j ih =>
    intro m sz h hj hs hz hm
    obtain ⟨m, rfl⟩ : ∃ z, m = z + 1 := ⟨m - 1, by omega⟩
    have e : iN (j + 1) - 1 = iN j := iN_sub (by omega) (by omega)
    have h160 : ¬ (160 : Int32) ≤ iN sz := by
      show ¬ iN 160 ≤ iN sz
      rw [iN_le (by omega) (by omega)]; omega
    obtain ⟨h1, e1⟩ : ∃ h1, h1 = hsi (hsi h 32 sz (bR w j)) 31 1 (iN (sz + 1)) := ⟨_, rfl⟩
    have ea : ∀ x, x = bR w j → g_X2_add x h = some h1 := by
      intro x hx
      simp only [g_X2_add, g_X2_add_0, g_X2_add_20, hs, if_neg h160, if_pos (iN_inb (show sz < 160 by omega) (by decide)), iN_ix (show sz < 2147483648 by omega)]
      rw [e1, hx]
      simp only [gI_hsi]
      simp [hs, iN_add (show sz < 2147483647 by omega)]
    obtain ⟨h2, i1, i2, i3, i4⟩ := ih m (sz + 1) h1 (by omega) (by rw [e1]; simp [gI_hsi]) (by omega) (by omega)
    have f1 : Fr (fun a k => a = 32 ∨ (a = 31 ∧ k = 1)) h h1 := by
      rw [e1]; exact (((Fr.rfl' _ _).si _ (Or.inl rfl)).si _ (Or.inr ⟨rfl, rfl⟩))
    refine ⟨h2, ?_, f1.tr i2, by rw [i3]; congr 1; omega, fun q => ?_⟩
    · have ea2 := ea _ (bCR w j (by omega))
      unfold bC at ea2
      rw [g_X7_feed_36, e, if_neg (fe_i (by omega)), ea2, Option.bind_some, fe_s (by omega), i1]
      congr 2; congr 1; omega
    · have key : gI h1 32 q = if q = sz then bR w j else gI h 32 q := by
        rw [e1, gI_hsi, gI_hsi, if_neg (by omega)]; simp
      rw [i4, key]
      by_cases c : q = sz
      · subst c
        rw [if_neg (by omega), if_pos rfl, if_pos (by omega)]
        congr 1; omega
      · by_cases d : sz + 1 ≤ q ∧ q < sz + 1 + j
        · rw [if_pos d, if_pos (by omega)]; congr 1; omega
        · rw [if_neg d, if_neg c, if_neg (by omega)]
theorem l_rfeed (n : Nat) (w : Int64) (j : Nat) : ∀ (m sz : Nat) (h : Hp), j ≤ 8 → gI h 96 10 = iN sz → sz + j ≤ 160 → j < m → ∃ h', g_X8_feed_33 n m w (iN j - 1) h = some (iN (sz + j), h') ∧ Fr (fun a k => a = 102 ∨ (a = 96 ∧ k = 10)) h h' ∧ gI h' 96 10 = iN (sz + j) ∧ ∀ q, gI h' 102 q = if sz ≤ q ∧ q < sz + j then bR w (j - 1 - (q - sz)) else gI h 102 q := by
  induction j with
  | zero =>
    intro m sz h hj hs hz hm
    obtain ⟨m, rfl⟩ : ∃ z, m = z + 1 := ⟨m - 1, by omega⟩
    refine ⟨h, ?_, Fr.rfl' _ _, hs, fun q => by rw [if_neg (by omega)]⟩
    rw [g_X8_feed_33, if_pos (by decide), hs]; rfl
  | succ j ih =>
    intro m sz h hj hs hz hm
    obtain ⟨m, rfl⟩ : ∃ z, m = z + 1 := ⟨m - 1, by omega⟩
    have e : iN (j + 1) - 1 = iN j := iN_sub (by omega) (by omega)
    obtain ⟨h1, e1⟩ : ∃ h1, h1 = hsi (hsi h 102 sz (bR w j)) 96 10 (iN (sz + 1)) := ⟨_, rfl⟩
    obtain ⟨h2, i1, i2, i3, i4⟩ := ih m (sz + 1) h1 (by omega) (by rw [e1]; simp [gI_hsi]) (by omega) (by omega)
    have f1 : Fr (fun a k => a = 102 ∨ (a = 96 ∧ k = 10)) h h1 := by
      rw [e1]; exact (((Fr.rfl' _ _).si _ (Or.inl rfl)).si _ (Or.inr ⟨rfl, rfl⟩))
    refine ⟨h2, ?_, f1.tr i2, by rw [i3]; congr 1; omega, fun q => ?_⟩
    · rw [g_X8_feed_33, e, if_neg (fe_i (by omega)), hs, if_pos (iN_inb (show sz < 160 by omega) (by decide)), iN_ix (show sz < 2147483648 by omega), g_X8_feed_59]
      have : gI (hsi h 102 sz (bR w j)) 96 10 = iN sz := by rw [gI_hsi, if_neg (by omega)]; exact hs
      show g_X8_feed_33 n m w (iN j + -1) (hsi (hsi h 102 sz (bR w j)) 96 10 (gI (hsi h 102 sz (bR w j)) 96 10 + 1)) = _
      rw [this, iN_add (by omega), ← e1, fe_s (by omega), i1]
      congr 2; congr 1; omega
    · have key : gI h1 102 q = if q = sz then bR w j else gI h 102 q := by
        rw [e1, gI_hsi, gI_hsi, if_neg (by omega)]; simp
      rw [i4, key]
      by_cases c : q = sz
      · subst c
        rw [if_neg (by omega), if_pos rfl, if_pos (by omega)]
        congr 1; omega
      · by_cases d : sz + 1 ≤ q ∧ q < sz + 1 + j
        · rw [if_pos d, if_pos (by omega)]; congr 1; omega
        · rw [if_neg d, if_neg c, if_neg (by omega)]
theorem cn_feed (n : Nat) {w : Int64} {b v : Int32} {h h' : Hp} (hb : 1 ≤ b ∧ b ≤ 8) (hz : gI h 31 1 + b ≤ 160) (e : g_X7_feed_36 n n w (b - 1) h = some (v, h')) : g_X7_feed n w b h = some (v, h') := by
  simp only [g_X7_feed_0, g_X7_feed, wC, if_pos hb, Option.bind_some, ne10, if_true, if_pos hz]
  exact e
theorem rn_feed (n : Nat) {w : Int64} {b v : Int32} {h h' : Hp} (hb : 1 ≤ b ∧ b ≤ 8) (hz : gI h 96 10 + b ≤ 160) (e : g_X8_feed_33 n n w (b - 1) h = some (v, h')) : g_X8_feed n w b h = some (v, h') := by
  simp only [g_X8_feed_59, g_X8_feed_0, g_X8_feed, wI, if_pos hb, Option.bind_some, ne10, if_true, if_pos hz]
  exact e
theorem pr_feed {L : Nat} {h : Hp} (R : Rel L h) (w : Int64) (b : Int32) : Pair L (g_X7_feed 4000 w b) (g_X8_feed 4000 w b) h := by
  by_cases hb : 1 ≤ b ∧ b ≤ 8
  case neg => exact Pair.pure (-2) R (by simp [g_X7_feed_0, g_X7_feed, wC, if_neg hb]) (by simp [g_X8_feed_59, g_X8_feed_0, g_X8_feed, wI, if_neg hb])
  have hP := R.2.2.2.2.2.1
  obtain ⟨sz, hsz, hz⟩ := iex (n := 161) (by decide) hP.2.1 (by have := hP.2.2.1; show _ < (161 : Int32); clear hP; lia)
  by_cases hf : gI h 96 10 + b ≤ 160
  case neg => exact Pair.pure (-4) R (by simp [g_X7_feed_0, g_X7_feed, wC, if_pos hb, hP.1, hf]) (by simp [g_X8_feed_59, g_X8_feed_0, g_X8_feed, wI, if_pos hb, hf])
  obtain ⟨j, hj, rfl⟩ := iex (n := 9) (by decide) (show 0 ≤ b by lia) (by show b < 9; lia)
  have hj2 : sz + j ≤ 160 := by
    rw [hz, le32, ta] at hf <;> rw [iN_t (by omega), iN_t (by omega)] at * <;> (have : (160 : Int32).toInt = 160 := rfl) <;> omega
  obtain ⟨h1, i1, f1, i2, i3⟩ := l_cfeed 4000 w j 4000 sz h (by omega) (hP.1.trans hz) hj2 (by omega)
  have z96 : gI h1 96 10 = iN sz := by rw [f1.i (by omega)]; exact hz
  obtain ⟨h2, j1, f2, j2, j3⟩ := l_rfeed 4000 w j 4000 sz h1 (by omega) z96 hj2 (by omega)
  refine ⟨iN (sz + j), h1, h2, cn_feed 4000 hb (by rw [hP.1]; exact hf) i1, rn_feed 4000 hb (by rw [z96, ← hz]; exact hf) j1, ?_⟩
  refine Rel_Tp R (f2.1.trans f1.1) (fun a k q _ => by rw [f2.i (by omega), f1.i (by omega)]) ?_
  unfold RTp
  rw [f2.i (by omega), i2, j2]
  refine ⟨rfl, (iN0 (n := 161) (by omega) (by decide)).1, by show iN (sz + j) ≤ iN 160; rw [iN_le (by omega) (by omega)]; exact hj2, fun k hk hl => ?_⟩
  rw [iN_lt (by omega) (by omega)] at hl
  rw [f2.i (by omega), i3, j3, f1.i (by omega)]
  by_cases c : sz ≤ k ∧ k < sz + j
  · rw [if_pos c, if_pos c]
    exact ⟨rfl, bR_r w _ (by omega)⟩
  · rw [if_neg c, if_neg c]
    exact hP.2.2.2 k hk (by rw [hz, iN_lt (by omega) (by omega)]; omega)
