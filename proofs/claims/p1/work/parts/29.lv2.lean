/-! ROWS that are filled place by place -/
noncomputable def hrw (h : Hp) (a o n : Nat) (f : Nat → Int32) : Hp := (h.1, up1 h.2.1 a (fun k => if o ≤ k ∧ k < o + n then f (k - o) else h.2.1 a k), h.2.2)
theorem gI_hrw (h : Hp) (a o n : Nat) (f : Nat → Int32) (b k : Nat) : gI (hrw h a o n f) b k = if b = a ∧ o ≤ k ∧ k < o + n then f (k - o) else gI h b k := by
  show (if b = a then (fun k => if o ≤ k ∧ k < o + n then f (k - o) else h.2.1 a k) else h.2.1 b) k = _
  by_cases e : b = a
  · subst e; simp
  · simp [e]
theorem gL_hrw (h : Hp) (a o n : Nat) (f : Nat → Int32) (b k : Nat) : gL' (hrw h a o n f) b k = gL' h b k := rfl
theorem gR_hrw (h : Hp) (a o n : Nat) (f : Nat → Int32) (b k : Nat) : gR (hrw h a o n f) b k = gR h b k := rfl
theorem hrw_0 (h : Hp) (a o : Nat) (f : Nat → Int32) : hrw h a o 0 f = h := by
  show (h.1, _, h.2.2) = (h.1, h.2.1, h.2.2)
  congr 2
  funext b
  by_cases e : b = a
  · subst e; unfold up1; simp only [if_true]
    funext k; rw [if_neg (by omega)]
  · simp [up1, e]
theorem hrw_s (h : Hp) (a o n : Nat) (f : Nat → Int32) {x : Int32} (hx : x = f n) : hsi (hrw h a o n f) a (o + n) x = hrw h a o (n + 1) f := by
  subst hx
  show (h.1, _, h.2.2) = (h.1, _, h.2.2)
  congr 2
  funext b k
  show (if b = a ∧ k = o + n then f n else gI (hrw h a o n f) b k) = gI (hrw h a o (n + 1) f) b k
  rw [gI_hrw, gI_hrw]
  by_cases e : b = a
  · subst e
    by_cases z : k = o + n
    · subst z
      simp [show o + n - o = n by omega]
    · by_cases w : o ≤ k ∧ k < o + n
      · rw [if_neg (by omega), if_pos (by omega), if_pos (by omega)]
      · rw [if_neg (by omega), if_neg (by omega), if_neg (by omega)]
  · simp [e]
theorem Fr.rw' {S : Nat → Nat → Prop} {h h1 : Hp} (f : Fr S h h1) {a o n : Nat} (g : Nat → Int32) (c : ∀ k, o ≤ k → k < o + n → S a k) : Fr S h (hrw h1 a o n g) := ⟨f.1, fun x k q => by
  refine ⟨?_, (f.2 x k q).2⟩
  rw [gI_hrw]
  split
  · rename_i z; rw [z.1] at q; exact absurd (c k z.2.1 z.2.2) q
  · exact (f.2 x k q).1⟩
theorem i40 {k : Nat} (h : k < 40) : ¬ (40 : Int32) ≤ iN k := by
  show ¬ iN 40 ≤ iN k
  rw [iN_le (by omega) (by omega)]; omega
theorem l_zero (n v0 j : Nat) : ∀ (k m : Nat) (h : Hp), k + j = 40 → j < m → g_X4_become_21 n m v0 (iN k) (hrw h (v0 + 1) 0 k (fun _ => 0)) = some (hrw h (v0 + 1) 0 40 (fun _ => 0)) := by
  induction j with
  | zero =>
    intro k m h e hm
    obtain ⟨m, rfl⟩ : ∃ z, m = z + 1 := ⟨m - 1, by omega⟩
    obtain rfl : k = 40 := by omega
    rw [g_X4_become_21, if_pos (by decide)]
  | succ j ih =>
    intro k m h e hm
    obtain ⟨m, rfl⟩ : ∃ z, m = z + 1 := ⟨m - 1, by omega⟩
    rw [g_X4_become_21, if_neg (i40 (by omega)), if_pos (iN_inb (by omega) (by decide)), iN_ix (by omega), iN_add (by omega)]
    have := ih (k + 1) m h (by omega) (by omega)
    rw [← this]
    have h2 := hrw_s h (v0 + 1) 0 k (fun _ => (0 : Int32)) (x := 0) rfl
    rw [Nat.zero_add] at h2
    rw [h2]
/-- a sheet made anew -/
noncomputable def hsh (s : Nat) (sort size : Int32) (h : Hp) : Hp := hrw (hsi (hsi h (72 + 2 * s) 1 sort) (72 + 2 * s) 2 size) (73 + 2 * s) 0 40 (fun _ => 0)
theorem c_shbec (s : Nat) (sort size : Int32) (hz : 0 ≤ size ∧ size ≤ 40) (h : Hp) : g_X4_become 4000 (72 + 2 * s) sort size h = some (hsh s sort size h) := by
  unfold g_X4_become g_X4_become_0 g_X4_become_5
  have e : (if 0 < (if size < 40 then size else 40) then (if size < 40 then size else 40) else 0) = size := by
    by_cases h1 : size < 40
    · rw [if_pos h1]
      by_cases h2 : 0 < size
      · rw [if_pos h2]
      · rw [if_neg h2]; lia
    · rw [if_neg h1, if_pos (by decide)]; lia
  rw [e]
  have := l_zero 4000 (72 + 2 * s) 40 0 4000 (hsi (hsi h (72 + 2 * s) 1 sort) (72 + 2 * s) 2 size) rfl (by decide)
  rw [hrw_0, show 72 + 2 * s + 1 = 73 + 2 * s by omega] at this
  exact this
theorem m40 {s k : Nat} (hs : s < 4) (hk : k < 40) : (40 : Int32) * iN s + iN k = iN (40 * s + k) ∧ inb (iN (40 * s + k)) 160 = true ∧ ix (iN (40 * s + k)) = 40 * s + k := by
  refine ⟨?_, iN_inb (by omega) (by decide), iN_ix (by omega)⟩
  have h40 : (40 : Int32).toInt = 40 := rfl
  have h1 : ((40 : Int32) * iN s).toInt = 40 * (s : Int) := by
    rw [tm] <;> rw [h40, iN_t (by omega)] <;> omega
  rw [e32, ta] <;> rw [h1, iN_t (by omega)]
  · rw [iN_t (by omega)]; omega
  · omega
  · omega
theorem l_rsheet (n s j : Nat) (hs : s < 4) : ∀ (k m : Nat) (h : Hp), k + j = 40 → j < m → g_X8_sheet_70 n m (iN s) (iN k) (hrw h 109 (40 * s) k (fun _ => 0)) = some (1, hrw h 109 (40 * s) 40 (fun _ => 0)) := by
  induction j with
  | zero =>
    intro k m h e hm
    obtain ⟨m, rfl⟩ : ∃ z, m = z + 1 := ⟨m - 1, by omega⟩
    obtain rfl : k = 40 := by omega
    rw [g_X8_sheet_70, if_pos (by decide)]
  | succ j ih =>
    intro k m h e hm
    obtain ⟨m, rfl⟩ : ∃ z, m = z + 1 := ⟨m - 1, by omega⟩
    obtain ⟨m1, m2, m3⟩ := m40 (k := k) hs (by omega)
    rw [g_X8_sheet_70, if_neg (i40 (by omega)), m1, if_pos m2, m3, iN_add (by omega)]
    rw [← ih (k + 1) m h (by omega) (by omega), hrw_s h 109 (40 * s) k (fun _ => (0 : Int32)) (x := 0) rfl]
theorem csheet (a : Int32) (h : Hp) : g_X7_isSheet a h = if 0 ≤ a ∧ a ≤ 3 then some (1, h) else some (0, h) := by
  by_cases ha : 0 ≤ a ∧ a ≤ 3
  · simp [g_X7_isSheet_0, g_X7_isSheet, wC, if_pos ha]
  · simp [g_X7_isSheet_0, g_X7_isSheet, wC, if_neg ha]
noncomputable def hsr8 (s : Nat) (sort size : Int32) (h : Hp) : Hp := hrw (hsi (hsi h 107 s sort) 108 s size) 109 (40 * s) 40 (fun _ => 0)
theorem Rel_hsh {L : Nat} {h : Hp} (R : Rel L h) {s : Nat} (hs : s < 4) {sort size : Int32} (h1 : sort = -1 ∨ (0 ≤ sort ∧ sort ≤ 2 ∧ 0 ≤ size ∧ size ≤ 40)) : Rel L (hsr8 s sort size (hsh s sort size h)) := by
  have g : ∀ a k, gI (hsr8 s sort size (hsh s sort size h)) a k = if a = 109 ∧ 40 * s ≤ k ∧ k < 40 * s + 40 then 0 else if a = 108 ∧ k = s then size else if a = 107 ∧ k = s then sort else if a = 73 + 2 * s ∧ 0 ≤ k ∧ k < 0 + 40 then 0 else if a = 72 + 2 * s ∧ k = 2 then size else if a = 72 + 2 * s ∧ k = 1 then sort else gI h a k := by
    intro a k
    unfold hsr8 hsh
    simp only [gI_hrw, gI_hsi]
  refine Rel_Sh R rfl (fun a k q _ => ?_) (fun z hz => ?_)
  · rw [g, if_neg (by omega), if_neg (by omega), if_neg (by omega), if_neg (by omega), if_neg (by omega), if_neg (by omega)]
  · have r := R.2.2.2.2.2.2.2.1 z hz
    simp only [g]
    by_cases e : z = s
    · subst e
      simp [show ¬ (72 + 2 * z = 109) by omega, show ¬ (72 + 2 * z = 108) by omega, show ¬ (72 + 2 * z = 107) by omega, show ¬ (72 + 2 * z = 73 + 2 * z) by omega, show ¬ (73 + 2 * z = 72 + 2 * z) by omega, show ¬ (73 + 2 * z = 109) by omega, show ¬ (73 + 2 * z = 108) by omega, show ¬ (73 + 2 * z = 107) by omega]
      refine h1.imp id (fun w => ⟨w.1, w.2.1, w.2.2.1, w.2.2.2, fun k hk => ?_⟩)
      rw [if_pos hk, if_pos hk]
    · rw [if_neg (by omega), if_neg (by omega), if_neg (by omega), if_neg (by omega), if_neg (by omega), if_neg (by omega)]
      rw [if_neg (by omega), if_neg (by omega), if_neg (by omega), if_neg (by omega), if_neg (by omega), if_neg (by omega)]
      rw [if_neg (by omega), if_neg (by omega), if_neg (by omega), if_neg (by omega), if_neg (by omega), if_neg (by omega)]
      rw [if_neg (by omega), if_neg (by omega), if_neg (by omega), if_neg (by omega), if_neg (by omega), if_neg (by omega)]
      refine ⟨r.1, r.2.imp id (fun w => ⟨w.1, w.2.1, w.2.2.1, w.2.2.2.1, w.2.2.2.2.1, fun k hk => ?_⟩)⟩
      rw [if_neg (by omega), if_neg (by omega), if_neg (by omega), if_neg (by omega), if_neg (by omega), if_neg (by omega)]
      rw [if_neg (by omega), if_neg (by omega), if_neg (by omega), if_neg (by omega), if_neg (by omega), if_neg (by omega)]
      exact w.2.2.2.2.2 k hk
theorem pr_sheet {L : Nat} {h : Hp} (R : Rel L h) (a b c : Int32) : Pair L (g_X7_sheet 4000 a b c) (g_X8_sheet 4000 a b c) h := by
  by_cases ha : 0 ≤ a ∧ a ≤ 3
  case neg => exact Pair.pure (-2) R (by simp [g_X7_sheet_0, g_X7_sheet, csheet, if_neg ha]) (by simp [g_X8_sheet_66, g_X8_sheet_51, g_X8_sheet_44, g_X8_sheet_32, g_X8_sheet_0, g_X8_sheet, wI, if_neg ha])
  by_cases hb : -1 ≤ b ∧ b ≤ 2
  case neg => exact Pair.pure (-2) R (by simp [g_X7_sheet_0, g_X7_sheet, csheet, wC, if_pos ha, if_neg hb]) (by simp [g_X8_sheet_66, g_X8_sheet_51, g_X8_sheet_44, g_X8_sheet_32, g_X8_sheet_0, g_X8_sheet, wI, if_pos ha, if_neg hb])
  obtain ⟨s, hs, rfl⟩ := iex (n := 4) (by decide) ha.1 (by show a < 4; lia)
  have hin := iN_inb hs (by decide)
  have hix := iN_ix (k := s) (by omega)
  have hl : ∀ h, g_X8_sheet_70 4000 4000 (iN s) 0 h = some (1, hrw h 109 (40 * s) 40 (fun _ => 0)) := by
    intro h
    have := l_rsheet 4000 s 40 hs 0 4000 h rfl (by decide)
    rw [hrw_0] at this
    exact this
  by_cases b1 : b = -1
  · subst b1
    refine ⟨1, hsh s (-1) 0 h, _, ?_, ?_, Rel_hsh R hs (size := 0) (Or.inl rfl)⟩
    · simp [g_X7_sheet_0, g_X7_sheet, csheet, wC, if_pos ha, if_pos hb, hin, hix, c_shbec s (-1) 0 (by decide)]
    · simp [g_X8_sheet_66, g_X8_sheet_51, g_X8_sheet_44, g_X8_sheet_32, g_X8_sheet_0, g_X8_sheet, wI, if_pos ha, if_pos hb, hin, hix, hl]
      rfl
  have hb' : 0 ≤ b := by lia
  by_cases c1 : c ≤ 40
  case neg => exact Pair.pure (-2) R (by simp [g_X7_sheet_0, g_X7_sheet, csheet, wC, if_pos ha, if_pos hb, b1, c1]) (by simp [g_X8_sheet_66, g_X8_sheet_51, g_X8_sheet_44, g_X8_sheet_32, g_X8_sheet_0, g_X8_sheet, wI, if_pos ha, if_pos hb, b1, c1])
  by_cases c2 : 0 ≤ c
  case neg => exact Pair.pure (-14) R (by simp [g_X7_sheet_0, g_X7_sheet, csheet, wC, if_pos ha, if_pos hb, b1, c1, c2]) (by simp [g_X8_sheet_66, g_X8_sheet_51, g_X8_sheet_44, g_X8_sheet_32, g_X8_sheet_0, g_X8_sheet, wI, if_pos ha, if_pos hb, b1, c1, c2])
  refine ⟨1, hsh s b c h, _, ?_, ?_, Rel_hsh R hs (Or.inr ⟨hb', hb.2, c2, c1⟩)⟩
  · simp [g_X7_sheet_0, g_X7_sheet, csheet, wC, if_pos ha, if_pos hb, b1, c1, c2, hin, hix, c_shbec s b c ⟨c2, c1⟩]
  · simp [g_X8_sheet_66, g_X8_sheet_51, g_X8_sheet_44, g_X8_sheet_32, g_X8_sheet_0, g_X8_sheet, wI, if_pos ha, if_pos hb, b1, c1, c2, hin, hix, hl]
    rfl
theorem chas (s : Nat) (i m : Int32) (h : Hp) (hz : 0 ≤ gI h (72 + 2 * s) 2 ∧ gI h (72 + 2 * s) 2 ≤ 40) : g_X4_has (72 + 2 * s) i m h = if 0 ≤ i ∧ 0 ≤ m ∧ i ≤ gI h (72 + 2 * s) 2 ∧ m ≤ gI h (72 + 2 * s) 2 - i then some (1, h) else some (0, h) := by
  simp only [g_X4_has_0, g_X4_has]
  by_cases h1 : i < 0
  · rw [if_pos h1, if_neg (by lia)]
  by_cases h2 : m < 0
  · rw [if_neg h1, if_pos h2, if_neg (by lia)]
  rw [if_neg h1, if_neg h2]
  have e1 : ((Int32.toInt64 i) + (Int32.toInt64 m)).toInt = i.toInt + m.toInt := by
    have a1 := i.toInt_lt
    have a2 := m.toInt_lt
    have a3 := i.le_toInt
    have a4 := m.le_toInt
    rw [tda, tw, tw] <;> rw [tw, tw] <;> omega
  have e2 : (Int32.toInt64 (gI h (72 + 2 * s) 2)).toInt = (gI h (72 + 2 * s) 2).toInt := tw _
  have i0 : ¬ i.toInt < 0 := by rw [l32] at h1; exact h1
  have m0 : ¬ m.toInt < 0 := by rw [l32] at h2; exact h2
  have z1 : 0 ≤ (gI h (72 + 2 * s) 2).toInt := le32.mp hz.1
  have z2 : (gI h (72 + 2 * s) 2).toInt ≤ 40 := le32.mp hz.2
  have k0 : (0 : Int32).toInt = 0 := rfl
  by_cases h3 : i ≤ gI h (72 + 2 * s) 2 ∧ m ≤ gI h (72 + 2 * s) 2 - i
  · have h3' := h3
    rw [le32, le32] at h3'
    rw [ts (by omega) (by omega)] at h3'
    rw [if_neg (by rw [l64, e1, e2]; omega), if_pos ⟨by rw [le32, k0]; omega, by rw [le32, k0]; omega, h3⟩]
  · rw [if_pos, if_neg (fun z => h3 z.2.2)]
    rw [l64, e1, e2]
    by_cases h4 : i ≤ gI h (72 + 2 * s) 2
    · have h5 : ¬ m ≤ gI h (72 + 2 * s) 2 - i := fun z => h3 ⟨h4, z⟩
      rw [le32] at h4 h5
      rw [ts (by omega) (by omega)] at h5
      omega
    · rw [le32] at h4
      omega
noncomputable def narr (sort v : Int32) : Int32 := if sort = 0 then (Int32.toInt8 v).toInt32 else if sort = 1 then (Int32.toInt16 v).toInt32 else v
theorem pr_cell {L : Nat} {h : Hp} (R : Rel L h) (a b c : Int32) : Pair L (g_X7_cell a b c) (g_X8_cell a b c) h := by
  by_cases ha : 0 ≤ a ∧ a ≤ 3
  case neg => exact Pair.pure (-2) R (by simp [g_X7_cell_0, g_X7_cell, csheet, if_neg ha]) (by simp [g_X8_cell_84, g_X8_cell_0, g_X8_cell, wI, if_neg ha])
  obtain ⟨s, hs, rfl⟩ := iex (n := 4) (by decide) ha.1 (by show a < 4; lia)
  have hin := iN_inb hs (by decide)
  have hix := iN_ix (k := s) (by omega)
  have r := R.2.2.2.2.2.2.2.1 s hs
  rcases r.2 with hm | ⟨q1, q2, q3, q4, q5, q6⟩
  · exact Pair.pure (-11) R (by simp [g_X7_cell_0, g_X7_cell, csheet, if_pos ha, hin, hix, r.1, hm]) (by simp [g_X8_cell_84, g_X8_cell_0, g_X8_cell, wI, if_pos ha, hin, hix, hm])
  have hm : ¬ gI h 107 s = -1 := by lia
  have hz : 0 ≤ gI h (72 + 2 * s) 2 ∧ gI h (72 + 2 * s) 2 ≤ 40 := by rw [q3]; exact ⟨q4, q5⟩
  by_cases hb : 0 ≤ b ∧ b ≤ gI h 108 s - 1
  case neg =>
    refine Pair.pure (-12) R ?_ (by simp [g_X8_cell_84, g_X8_cell_0, g_X8_cell, wI, if_pos ha, hin, hix, hm, if_neg hb])
    simp only [g_X7_cell_0, g_X7_cell, csheet, if_pos ha, hin, hix, r.1, Option.bind_some, ne10, eq10, if_pos, ne_eq, hm, not_false_eq_true, if_true]
    rw [chas s b 1 h hz, if_neg (by rw [q3]; lia)]
    simp
  obtain ⟨j, hj, rfl⟩ := iex (n := 40) (by decide) hb.1 (by show b < 40; lia)
  have hin2 := iN_inb hj (by decide)
  have hix2 := iN_ix (k := j) (by omega)
  obtain ⟨m1, m2, m3⟩ := m40 hs hj
  have hh : 0 ≤ iN j ∧ 0 ≤ (1 : Int32) ∧ iN j ≤ gI h (72 + 2 * s) 2 ∧ 1 ≤ gI h (72 + 2 * s) 2 - iN j := by rw [q3]; refine ⟨hb.1, by decide, by lia, by lia⟩
  have e1 : g_X4_put (72 + 2 * s) (iN j) c h = some (hsi h (73 + 2 * s) j (narr (gI h 107 s) c)) := by
    simp only [g_X4_put_40, g_X4_put_0, g_X4_put]
    rw [chas s _ _ h hz, if_pos hh]
    simp only [Option.bind_some, ne10, eq10, if_false, r.1, hin2, if_true, hix2, narr, show 72 + 2 * s + 1 = 73 + 2 * s by omega]
    by_cases n0 : gI h 107 s = 0
    · simp [n0]
    · by_cases n1 : gI h 107 s = 1
      · simp [n1]
      · simp [n0, n1]
  refine ⟨1, hsi h (73 + 2 * s) j (narr (gI h 107 s) c), hsi (hsi h (73 + 2 * s) j (narr (gI h 107 s) c)) 109 (40 * s + j) (narr (gI h 107 s) c), ?_, ?_, ?_⟩
  · simp only [g_X7_cell_0, g_X7_cell, csheet, if_pos ha, hin, hix, r.1, Option.bind_some, ne10, eq10, if_pos, ne_eq, hm, not_false_eq_true, if_true]
    rw [chas s _ _ h hz, if_pos hh]
    simp [e1]
  · have g107 : gI (hsi h (73 + 2 * s) j (narr (gI h 107 s) c)) 107 s = gI h 107 s := by rw [gI_hsi, if_neg (by omega)]
    have g108 : gI (hsi h (73 + 2 * s) j (narr (gI h 107 s) c)) 108 s = gI h 108 s := by rw [gI_hsi, if_neg (by omega)]
    simp only [g_X8_cell_84, g_X8_cell_0, g_X8_cell, wI, if_pos ha, hin, hix, if_true, Option.bind_some, ne10, eq10, g107, g108, if_pos hb, ne_eq, hm, not_false_eq_true, m1, m2, m3]
    unfold narr
    by_cases n0 : gI h 107 s = 0
    · simp [n0]
    · by_cases n1 : gI h 107 s = 1
      · simp [n1]
      · simp [n0, n1]
  · refine Rel_Sh R rfl (fun a k q _ => by simp only [gI_hsi, gI_hsl, gI_hsr]; repeat rw [if_neg (by omega)]) (fun z hz2 => ?_)
    have r := R.2.2.2.2.2.2.2.1 z hz2
    simp only [gI_hsi, gI_hsl, gI_hsr]
    rw [if_neg (by omega), if_neg (by omega), if_neg (by omega), if_neg (by omega), if_neg (by omega), if_neg (by omega), if_neg (by omega), if_neg (by omega)]
    refine ⟨r.1, r.2.imp id (fun w => ⟨w.1, w.2.1, w.2.2.1, w.2.2.2.1, w.2.2.2.2.1, fun k hk => ?_⟩)⟩
    rw [if_neg (by omega)]
    simp only [true_and]
    by_cases e : z = s ∧ k = j
    · rw [if_pos (by omega), if_pos (by omega)]
    · have n1 : ¬ (73 + 2 * z = 73 + 2 * s ∧ k = j) := by omega
      have n2 : ¬ (40 * z + k = 40 * s + j) := by omega
      have n3 : ¬ (109 = 73 + 2 * s ∧ 40 * z + k = j) := by omega
      rw [if_neg n1, if_neg n2, if_neg n3]
      exact w.2.2.2.2.2 k hk
/-- behind a copy -/
noncomputable def cpd (n a b : Nat) (h h' : Hp) : Prop := ∀ q, gI h' 109 q = if b ≤ q ∧ q < b + n then gI h 109 (a + (q - b)) else gI h 109 q
theorem l_copy (n N a b j : Nat) (ha : a + N ≤ 160) (hb : b + N ≤ 160) (h : Hp) : ∀ (k m : Nat) (h1 : Hp), k + j = N → j < m → Fr (fun a _ => a = 109) h h1 → (∀ q, gI h1 109 q = if a < b then (if b + (N - k) ≤ q ∧ q < b + N then gI h 109 (a + (q - b)) else gI h 109 q) else (if b ≤ q ∧ q < b + k then gI h 109 (a + (q - b)) else gI h 109 q)) → ∃ h', g_X8_copy_147 n m (iN N) (iN a) (iN b) (iN k) h1 = some (iN N, h') ∧ Fr (fun a _ => a = 109) h h' ∧ cpd N a b h h' := by
  induction j with
  | zero =>
    intro k m h1 e hm f hq
    obtain ⟨m, rfl⟩ : ∃ z, m = z + 1 := ⟨m - 1, by omega⟩
    obtain rfl : k = N := by omega
    refine ⟨h1, by rw [g_X8_copy_147, if_pos (by rw [iN_le (by omega) (by omega)]; omega)], f, fun q => ?_⟩
    rw [hq q]
    by_cases c : a < b
    · rw [if_pos c]; simp
    · rw [if_neg c]
  | succ j ih =>
    intro k m h1 e hm f hq
    obtain ⟨m, rfl⟩ : ∃ z, m = z + 1 := ⟨m - 1, by omega⟩
    rw [g_X8_copy_147, if_neg (by rw [iN_le (by omega) (by omega)]; omega)]
    have hs : ∀ x, x < N → iN a + iN x = iN (a + x) ∧ iN b + iN x = iN (b + x) := by
      intro x hx
      constructor <;> rw [e32, ta] <;> rw [iN_t (by omega), iN_t (by omega)] <;> (try rw [iN_t (by omega)]) <;> omega
    have hgo : ∀ x, x < N → (if a < b then x = N - 1 - k else x = k) → ∃ h', g_X8_copy_173 n (g_X8_copy_147 n m) (iN N) (iN a) (iN b) (iN k) (iN x) h1 = some (iN N, h') ∧ Fr (fun a _ => a = 109) h h' ∧ cpd N a b h h' := by
      intro x hx hx2
      obtain ⟨s1, s2⟩ := hs x hx
      rw [g_X8_copy_173, s1, s2, if_pos (iN_inb (by omega) (by decide)), if_pos (iN_inb (by omega) (by decide)), iN_ix (by omega), iN_ix (by omega), iN_add (by omega)]
      refine ih (k + 1) m _ (by omega) (by omega) (f.si _ rfl) (fun q => ?_)
      rw [gI_hsi, hq q, hq (a + x)]
      simp only [true_and]
      by_cases c : a < b
      · simp only [if_pos c] at hx2 ⊢
        by_cases e1 : q = b + x
        · subst e1
          rw [if_pos rfl, if_neg (by omega), if_pos (by omega)]
          congr 1; omega
        · rw [if_neg (by omega)]
          by_cases e2 : b + (N - k) ≤ q ∧ q < b + N
          · rw [if_pos e2, if_pos (by omega)]
          · rw [if_neg e2, if_neg (by omega)]
      · simp only [if_neg c] at hx2 ⊢
        by_cases e1 : q = b + x
        · subst e1
          rw [if_pos rfl, if_neg (by omega), if_pos (by omega)]
          congr 1; omega
        · rw [if_neg (by omega)]
          by_cases e2 : b ≤ q ∧ q < b + k
          · rw [if_pos e2, if_pos (by omega)]
          · rw [if_neg e2, if_neg (by omega)]
    by_cases c : a < b
    · rw [if_neg (by rw [iN_le (by omega) (by omega)]; omega)]
      have e3 : iN N - 1 - iN k = iN (N - 1 - k) := by
        rw [iN_sub (by omega) (by omega), e32, ts] <;> rw [iN_t (by omega), iN_t (by omega)]
        · rw [iN_t (by omega)]; omega
        · omega
        · omega
      rw [e3]
      exact hgo _ (by omega) (by rw [if_pos c])
    · rw [if_pos (by rw [iN_le (by omega) (by omega)]; omega)]
      exact hgo _ (by omega) (by rw [if_neg c])
theorem pr_copy {L : Nat} {h : Hp} (R : Rel L h) (a i b j n : Int32) : Pair L (g_X7_copy a i b j n) (g_X8_copy 4000 a i b j n) h := by
  by_cases ha : 0 ≤ a ∧ a ≤ 3
  case neg => exact Pair.pure (-2) R (by simp [g_X7_copy_0, g_X7_copy, csheet, if_neg ha]) (by simp [g_X8_copy_173, g_X8_copy_0, g_X8_copy, wI, if_neg ha])
  by_cases hb : 0 ≤ b ∧ b ≤ 3
  case neg => exact Pair.pure (-2) R (by simp [g_X7_copy_0, g_X7_copy, csheet, if_neg hb, if_pos ha]) (by simp [g_X8_copy_173, g_X8_copy_0, g_X8_copy, wI, if_neg hb, if_pos ha])
  obtain ⟨s, hs, rfl⟩ := iex (n := 4) (by decide) ha.1 (by show a < 4; lia)
  obtain ⟨t, ht, rfl⟩ := iex (n := 4) (by decide) hb.1 (by show b < 4; lia)
  have hin := iN_inb hs (by decide)
  have hix := iN_ix (k := s) (by omega)
  have hin2 := iN_inb ht (by decide)
  have hix2 := iN_ix (k := t) (by omega)
  have r := R.2.2.2.2.2.2.2.1 s hs
  have r2 := R.2.2.2.2.2.2.2.1 t ht
  rcases r.2 with hm | ⟨q1, q2, q3, q4, q5, q6⟩
  · exact Pair.pure (-11) R (by simp [g_X7_copy_0, g_X7_copy, csheet, if_pos ha, if_pos hb, hin, hix, r.1, hm]) (by simp [g_X8_copy_173, g_X8_copy_0, g_X8_copy, wI, if_pos ha, if_pos hb, hin, hix, hm])
  have hm : ¬ gI h 107 s = -1 := by lia
  rcases r2.2 with hm2 | ⟨p1, p2, p3, p4, p5, p6⟩
  · exact Pair.pure (-11) R (by simp [g_X7_copy_0, g_X7_copy, csheet, if_pos ha, if_pos hb, hin, hix, r.1, hm, hin2, hix2, r2.1, hm2]) (by simp [g_X8_copy_173, g_X8_copy_0, g_X8_copy, wI, if_pos ha, if_pos hb, hin, hix, hm, hin2, hix2, hm2])
  have hm2 : ¬ gI h 107 t = -1 := by lia
  by_cases hu : gI h 107 s = gI h 107 t
  case neg => exact Pair.pure (-13) R (by simp [g_X7_copy_0, g_X7_copy, csheet, if_pos ha, if_pos hb, hin, hix, r.1, hm, hin2, hix2, r2.1, hm2, hu]) (by simp [g_X8_copy_173, g_X8_copy_0, g_X8_copy, wI, if_pos ha, if_pos hb, hin, hix, hm, hin2, hix2, hm2, hu])
  have hz : 0 ≤ gI h (72 + 2 * s) 2 ∧ gI h (72 + 2 * s) 2 ≤ 40 := by rw [q3]; exact ⟨q4, q5⟩
  have hz2 : 0 ≤ gI h (72 + 2 * t) 2 ∧ gI h (72 + 2 * t) 2 ≤ 40 := by rw [p3]; exact ⟨p4, p5⟩
  by_cases hc : (0 ≤ i ∧ 0 ≤ n ∧ i ≤ gI h 108 s ∧ n ≤ gI h 108 s - i) ∧ (0 ≤ j ∧ 0 ≤ n ∧ j ≤ gI h 108 t ∧ n ≤ gI h 108 t - j)
  case neg =>
    refine Pair.pure (-12) R ?_ ?_
    · simp only [g_X7_copy_0, g_X7_copy, csheet, if_pos ha, if_pos hb, hin, hix, hin2, hix2, r.1, r2.1, Option.bind_some, ne10, eq10, if_false, ne_eq, hm, hm2, hu, not_false_eq_true, if_true]
      rw [chas s _ _ h hz, q3]
      by_cases h1 : 0 ≤ i ∧ 0 ≤ n ∧ i ≤ gI h 108 s ∧ n ≤ gI h 108 s - i
      · rw [if_pos h1]
        simp only [Option.bind_some, ne10, eq10, if_false]
        rw [chas t _ _ h hz2, p3, if_neg (fun z => hc ⟨h1, z⟩)]
        simp
      · rw [if_neg h1]; simp
    · simp only [g_X8_copy_173, g_X8_copy_0, g_X8_copy, wI, if_pos ha, if_pos hb, hin, hix, hin2, hix2, Option.bind_some, ne10, eq10, if_false, ne_eq, hm, hm2, hu, not_false_eq_true, if_true]
      by_cases z1 : n < 0
      · rw [if_pos z1]
      rw [if_neg z1]
      by_cases z2 : i < 0
      · rw [if_pos z2]
      rw [if_neg z2]
      by_cases z3 : j < 0
      · rw [if_pos z3]
      rw [if_neg z3]
      by_cases z4 : gI h 108 s < i
      · rw [if_pos z4]
      rw [if_neg z4]
      by_cases z5 : gI h 108 t < j
      · rw [if_pos z5]
      rw [if_neg z5]
      by_cases z6 : gI h 108 s - i < n
      · rw [if_pos z6]
      rw [if_neg z6, if_neg]
      intro z7
      exact hc ⟨⟨by lia, by lia, by lia, by lia⟩, by lia, by lia, by lia, z7⟩
  obtain ⟨c1, c2⟩ := hc
  obtain ⟨x, hx, rfl⟩ := iex (n := 41) (by decide) c1.1 (by show i < 41; lia)
  obtain ⟨y, hy, rfl⟩ := iex (n := 41) (by decide) c2.1 (by show j < 41; lia)
  obtain ⟨w, hw, rfl⟩ := iex (n := 41) (by decide) c1.2.1 (by show n < 41; lia)
  have b1 : x + w ≤ 40 := by
    have a1 := c1.2.2.2
    have a2 := c1.1
    have a3 : (iN w) ≤ 40 - iN x := by lia
    rw [le32, ts] at a3 <;> rw [iN_t (by omega)] at * <;> (try rw [iN_t (by omega)] at a3) <;> (have : (40 : Int32).toInt = 40 := rfl) <;> omega
  have b2 : y + w ≤ 40 := by
    have a1 := c2.2.2.2
    have a2 := c2.1
    have a3 : (iN w) ≤ 40 - iN y := by lia
    rw [le32, ts] at a3 <;> rw [iN_t (by omega)] at * <;> (try rw [iN_t (by omega)] at a3) <;> (have : (40 : Int32).toInt = 40 := rfl) <;> omega
  have m1 : (40 : Int32) * iN s + iN x = iN (40 * s + x) := by
    have h40 : (40 : Int32).toInt = 40 := rfl
    have h1 : ((40 : Int32) * iN s).toInt = 40 * (s : Int) := by
      rw [tm] <;> rw [h40, iN_t (by omega)] <;> omega
    rw [e32, ta] <;> rw [h1, iN_t (by omega)] <;> (try rw [iN_t (by omega)]) <;> omega
  have m2 : (40 : Int32) * iN t + iN y = iN (40 * t + y) := by
    have h40 : (40 : Int32).toInt = 40 := rfl
    have h1 : ((40 : Int32) * iN t).toInt = 40 * (t : Int) := by
      rw [tm] <;> rw [h40, iN_t (by omega)] <;> omega
    rw [e32, ta] <;> rw [h1, iN_t (by omega)] <;> (try rw [iN_t (by omega)]) <;> omega
  obtain ⟨h1, e1⟩ : ∃ h1, h1 = hcp h (72 + 2 * s + 1) x (72 + 2 * t + 1) y w := ⟨_, rfl⟩
  have f1 : Fr (fun a _ => a = 73 + 2 * t) h h1 := by rw [e1]; exact (Fr.rfl' _ _).cp (fun k _ _ => by omega)
  obtain ⟨h2, e2, f2, q⟩ := l_copy 4000 w (40 * s + x) (40 * t + y) w (by omega) (by omega) h1 0 4000 h1 (by omega) (by omega) (Fr.rfl' _ _) (fun q => by
    by_cases c : 40 * s + x < 40 * t + y
    · rw [if_pos c, if_neg (by omega)]
    · rw [if_neg c, if_neg (by omega)])
  have o : ∀ a k, a ≠ 73 + 2 * t → gI h1 a k = gI h a k := fun a k z => f1.i z
  refine ⟨iN w, h1, h2, ?_, ?_, ?_⟩
  · simp only [g_X7_copy_0, g_X7_copy, csheet, if_pos ha, if_pos hb, hin, hix, hin2, hix2, r.1, r2.1, Option.bind_some, ne10, eq10, if_false, ne_eq, hm, hm2, hu, not_false_eq_true, if_true]
    rw [chas s _ _ h hz, q3, if_pos c1]
    simp only [Option.bind_some, ne10, eq10, if_false]
    rw [chas t _ _ h hz2, p3, if_pos c2]
    have hcp' : cpOk (iN x) 40 (iN y) 40 (iN w) := by
      unfold cpOk
      rw [iN_t (by omega), iN_t (by omega), iN_t (by omega), iN_ix (by omega), iN_ix (by omega), iN_ix (by omega)]
      omega
    simp [hcp', iN_ix (show w < 2147483648 by omega), iN_ix (show x < 2147483648 by omega), iN_ix (show y < 2147483648 by omega), e1]
    exact ⟨b1, b2⟩
  · simp only [g_X8_copy_173, g_X8_copy_0, g_X8_copy, wI, if_pos ha, if_pos hb, hin, hix, hin2, hix2, Option.bind_some, ne10, eq10, if_false, ne_eq, o 107 s (by omega), o 107 t (by omega), o 108 s (by omega), o 108 t (by omega), hm, hm2, hu, not_false_eq_true, if_true]
    rw [if_neg (by lia), if_neg (by lia), if_neg (by lia), if_neg (by lia), if_neg (by lia), if_neg (by lia), if_pos (by lia), m1, m2]
    exact e2
  · refine Rel_Sh R (f2.1.trans f1.1) (fun a k q _ => by rw [f2.i (by omega), f1.i (by omega)]) (fun z hz2 => ?_)
    have r := R.2.2.2.2.2.2.2.1 z hz2
    have o2 : ∀ a k, a ≠ 109 → gI h2 a k = gI h1 a k := fun a k z => f2.i z
    rw [o2 _ _ (by omega), o2 _ _ (by omega), o2 _ _ (by omega), o2 _ _ (by omega), o _ _ (by omega), o _ _ (by omega), o _ _ (by omega), o _ _ (by omega)]
    refine ⟨r.1, r.2.imp id (fun v => ⟨v.1, v.2.1, v.2.2.1, v.2.2.2.1, v.2.2.2.2.1, fun k hk => ?_⟩)⟩
    have hq2 : gI h2 109 (40 * z + k) = if 40 * t + y ≤ 40 * z + k ∧ 40 * z + k < 40 * t + y + w then gI h 109 (40 * s + x + (40 * z + k - (40 * t + y))) else gI h 109 (40 * z + k) := by
      rw [q, o 109 _ (by omega), o 109 _ (by omega)]
    rw [o2 _ _ (by omega), hq2, e1, gI_hcp]
    by_cases e : z = t
    · subst e
      rw [if_pos (by omega)]
      by_cases c : y ≤ k ∧ k < y + w
      · rw [if_pos c, if_pos (by omega), show 72 + 2 * s + 1 = 73 + 2 * s by omega, q6 _ (by omega)]
        congr 1; omega
      · rw [if_neg c, if_neg (by omega), show 72 + 2 * z + 1 = 73 + 2 * z by omega]
        exact p6 k hk
    · rw [if_neg (by omega), if_neg (by omega)]
      exact v.2.2.2.2.2 k hk
