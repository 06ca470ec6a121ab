/-! COLOURS -/
noncomputable def col0 (bits : Int32) (c : Nat) : Int32 := (bits >>> (iN c &&& 31)) &&& 1
noncomputable def dbr (f : Nat → Int32) (c : Nat) : Int32 := f (c / 2) + f (15 - c / 2)
noncomputable def itc : Nat → (Nat → Int32) → Nat → Int32
  | 0, f => f
  | k + 1, f => itc k (dbr f)
theorem itc_c (k : Nat) : ∀ (f g : Nat → Int32), (∀ c, c < 16 → f c = g c) → ∀ c, c < 16 → itc k f c = itc k g c := by
  induction k with
  | zero => intro f g h c hc; exact h c hc
  | succ k ih => intro f g h c hc; exact ih _ _ (fun c hc => by unfold dbr; rw [h _ (by omega), h _ (by omega)]) c hc
noncomputable def fin (f : Nat → Int32) (P : Int32) : Nat → Nat → Int32 → Int32 → Int32 → Int32 × Int32 × Int32
  | 0, _, a, b, m => (a, b, m)
  | j + 1, c, a, b, m => fin f P j (c + 1) (if f c < a then f c else a) (if b < f c then f c else b) (if 0 < f c ∧ f c < P then m + 1 else m)
noncomputable def pick (w : Int32) (r : Int32 × Int32 × Int32) : Int32 := if w ≠ 0 then if w ≠ 1 then r.2.2 else r.2.1 else r.1
theorem i16 {k : Nat} (h : k < 16) : ¬ (16 : Int32) ≤ iN k := by
  show ¬ iN 16 ≤ iN k
  rw [iN_le (by omega) (by omega)]; omega
theorem i2d {c : Nat} (hc : c < 1000) : iN c / 2 = iN (c / 2) := by
  have k2 : (2 : Int32).toInt = 2 := rfl
  rw [e32, td (by rw [iN_t (by omega)]; omega) (by decide), iN_t (by omega), iN_t (by omega), k2]
  omega
theorem i15 {c : Nat} (hc : c < 16) : (15 : Int32) - iN c = iN (15 - c) := by
  have k15 : (15 : Int32).toInt = 15 := rfl
  rw [e32, ts] <;> rw [k15, iN_t (by omega)] <;> (try rw [iN_t (by omega)]) <;> omega
theorem l_c2 (n : Nat) (b v2 : Int32) (h : Hp) (j : Nat) : ∀ (k m : Nat), k + j = 16 → j < m → g_X7_colour_2 n m b v2 (iN k) (hrw h 34 0 k (col0 b)) = g_X7_colour_27 n n v2 0 (hrw h 34 0 16 (col0 b)) := by
  induction j with
  | zero =>
    intro k m e hm
    obtain ⟨m, rfl⟩ : ∃ z, m = z + 1 := ⟨m - 1, by omega⟩
    obtain rfl : k = 16 := by omega
    rw [g_X7_colour_2, if_pos (by decide)]
  | succ j ih =>
    intro k m e hm
    obtain ⟨m, rfl⟩ : ∃ z, m = z + 1 := ⟨m - 1, by omega⟩
    rw [g_X7_colour_2, if_neg (i16 (by omega)), if_pos (iN_inb (by omega) (by decide)), iN_ix (by omega), iN_add (by omega), ← ih (k + 1) m (by omega) (by omega)]
    have := hrw_s h 34 0 k (col0 b) (x := (b >>> (iN k &&& 31)) &&& 1) rfl
    rw [Nat.zero_add] at this
    rw [this]
theorem l_c35 (n : Nat) (K : Int32 → Int32 → Hp → Option Hp) (v2 v3 : Int32) (h : Hp) (f : Nat → Int32) (hf : ∀ c, c < 16 → gI h 34 c = f c) (j : Nat) : ∀ (k m : Nat), k + j = 16 → j < m → g_X7_colour_35 n K m v2 v3 (iN k) (hrw h 35 0 k (dbr f)) = K v2 (v3 + 1) (hcp (hrw h 35 0 16 (dbr f)) 35 0 34 0 16) := by
  induction j with
  | zero =>
    intro k m e hm
    obtain ⟨m, rfl⟩ : ∃ z, m = z + 1 := ⟨m - 1, by omega⟩
    obtain rfl : k = 16 := by omega
    rw [g_X7_colour_35, if_pos (by decide)]; rfl
  | succ j ih =>
    intro k m e hm
    obtain ⟨m, rfl⟩ : ∃ z, m = z + 1 := ⟨m - 1, by omega⟩
    rw [g_X7_colour_35, if_neg (i16 (by omega)), i2d (by omega), i15 (by omega), if_pos (iN_inb (by omega) (by decide)), if_pos (iN_inb (by omega) (by decide)), if_pos (iN_inb (by omega) (by decide)), iN_ix (by omega), iN_ix (by omega), iN_ix (by omega), iN_add (by omega), ← ih (k + 1) m (by omega) (by omega)]
    have := hrw_s h 35 0 k (dbr f) (x := gI (hrw h 35 0 k (dbr f)) 34 (k / 2) + gI (hrw h 35 0 k (dbr f)) 34 (15 - k / 2)) (by
      rw [gI_hrw, gI_hrw, if_neg (by omega), if_neg (by omega), hf _ (by omega), hf _ (by omega)]; rfl)
    rw [Nat.zero_add] at this
    rw [this]
theorem l_c27 (N j : Nat) (hN : N < 100) : ∀ (k m : Nat) (h : Hp) (f : Nat → Int32), k + j = N → j < m → (∀ c, c < 16 → gI h 34 c = f c) → ∃ h', g_X7_colour_27 4000 m (iN N) (iN k) h = some h' ∧ Fr (fun a _ => a = 34 ∨ a = 35) h h' ∧ ∀ c, c < 16 → gI h' 34 c = itc j f c := by
  induction j with
  | zero =>
    intro k m h f e hm hf
    obtain ⟨m, rfl⟩ : ∃ z, m = z + 1 := ⟨m - 1, by omega⟩
    exact ⟨h, by rw [g_X7_colour_27, if_pos (by rw [iN_le (by omega) (by omega)]; omega)], Fr.rfl' _ _, hf⟩
  | succ j ih =>
    intro k m h f e hm hf
    obtain ⟨m, rfl⟩ : ∃ z, m = z + 1 := ⟨m - 1, by omega⟩
    have h35 := l_c35 4000 (g_X7_colour_27 4000 m) (iN N) (iN k) h f hf 16 0 4000 rfl (by omega)
    rw [hrw_0] at h35
    obtain ⟨h', e1, f1, q⟩ := ih (k + 1) m (hcp (hrw h 35 0 16 (dbr f)) 35 0 34 0 16) (dbr f) (by omega) (by omega) (fun c hc => by
      rw [gI_hcp, if_pos rfl, if_pos (by omega), gI_hrw, if_pos (by omega)]; congr 1; omega)
    refine ⟨h', ?_, (((Fr.rfl' _ _).rw' _ (fun k _ _ => Or.inr rfl)).cp (fun k _ _ => Or.inl rfl)).tr f1, q⟩
    rw [g_X7_colour_27, if_neg (by rw [iN_le (by omega) (by omega)]; omega)]
    rw [iN_add (by omega)] at h35
    exact h35.trans e1
theorem l_c61 (n : Nat) (v2 w P : Int32) (hP : P = 1 <<< (v2 &&& 31)) (hP0 : 0 < P) (h : Hp) (f : Nat → Int32) (hf : ∀ c, c < 16 → gI h 34 c = f c) (j : Nat) : ∀ (k m : Nat) (a b x : Int32), k + j = 16 → j < m → g_X7_colours_61 n m v2 w a b x (iN k) h = some (pick w (fin f P j k a b x), h) := by
  induction j with
  | zero =>
    intro k m a b x e hm
    obtain ⟨m, rfl⟩ : ∃ z, m = z + 1 := ⟨m - 1, by omega⟩
    obtain rfl : k = 16 := by omega
    rw [g_X7_colours_61, if_pos (by decide)]
    unfold pick fin
    by_cases h0 : w ≠ 0
    · by_cases h1 : w ≠ 1
      · rw [if_pos h0, if_pos h1, if_pos h0, if_pos h1]
      · rw [if_pos h0, if_neg h1, if_pos h0, if_neg h1]
    · rw [if_neg h0, if_neg h0]
  | succ j ih =>
    intro k m a b x e hm
    obtain ⟨m, rfl⟩ : ∃ z, m = z + 1 := ⟨m - 1, by omega⟩
    rw [g_X7_colours_61, if_neg (i16 (by omega)), if_pos (iN_inb (by omega) (by decide)), g_X7_colours_82, if_pos (iN_inb (by omega) (by decide)), g_X7_colours_96, if_pos (iN_inb (by omega) (by decide)), iN_ix (by omega), hf k (by omega), wC, ← hP]
    unfold fin
    have hh : (1 ≤ f k ∧ f k ≤ P - 1) ↔ (0 < f k ∧ f k < P) := by
      constructor
      · intro z; exact ⟨by lia, by lia⟩
      · intro z; exact ⟨by lia, by lia⟩
    by_cases c : 0 < f k ∧ f k < P
    · rw [if_pos (hh.mpr c), if_pos c, Option.bind_some, if_neg (by rw [eq10]; exact id), g_X7_colours_118, iN_add (by omega)]
      exact ih (k + 1) m _ _ _ (by omega) (by omega)
    · rw [if_neg (fun z => c (hh.mp z)), if_neg c, Option.bind_some, if_pos rfl, g_X7_colours_118, iN_add (by omega)]
      exact ih (k + 1) m _ _ _ (by omega) (by omega)
theorem l_r36 (n : Nat) (b v2 v3 : Int32) (h : Hp) (j : Nat) : ∀ (k m : Nat), k + j = 16 → j < m → g_X8_colours_36 n m b v2 v3 (iN k) (hrw h 123 0 k (col0 b)) = g_X8_colours_65 n n v2 v3 0 (hrw h 123 0 16 (col0 b)) := by
  induction j with
  | zero =>
    intro k m e hm
    obtain ⟨m, rfl⟩ : ∃ z, m = z + 1 := ⟨m - 1, by omega⟩
    obtain rfl : k = 16 := by omega
    rw [g_X8_colours_36, if_pos (by decide)]
  | succ j ih =>
    intro k m e hm
    obtain ⟨m, rfl⟩ : ∃ z, m = z + 1 := ⟨m - 1, by omega⟩
    rw [g_X8_colours_36, if_neg (i16 (by omega)), if_pos (iN_inb (by omega) (by decide)), iN_ix (by omega), iN_add (by omega), ← ih (k + 1) m (by omega) (by omega)]
    have := hrw_s h 123 0 k (col0 b) (x := (b >>> (iN k &&& 31)) &&& 1) rfl
    rw [Nat.zero_add] at this
    rw [this]
theorem l_r119 (n : Nat) (K : Int32 → Int32 → Int32 → Hp → Option (Int32 × Hp)) (v2 v3 v4 : Int32) (h : Hp) (j : Nat) : ∀ (k m : Nat), k + j = 16 → j < m → g_X8_colours_119 n K m v2 v3 v4 (iN k) (hrw h 123 0 k (gI h 124)) = K v2 v3 (v4 + 1) (hrw h 123 0 16 (gI h 124)) := by
  induction j with
  | zero =>
    intro k m e hm
    obtain ⟨m, rfl⟩ : ∃ z, m = z + 1 := ⟨m - 1, by omega⟩
    obtain rfl : k = 16 := by omega
    rw [g_X8_colours_119, if_pos (by decide)]
  | succ j ih =>
    intro k m e hm
    obtain ⟨m, rfl⟩ : ∃ z, m = z + 1 := ⟨m - 1, by omega⟩
    rw [g_X8_colours_119, if_neg (i16 (by omega)), if_pos (iN_inb (by omega) (by decide)), iN_ix (by omega), iN_add (by omega), ← ih (k + 1) m (by omega) (by omega)]
    have := hrw_s h 123 0 k (gI h 124) (x := gI (hrw h 123 0 k (gI h 124)) 124 k) (by rw [gI_hrw, if_neg (by omega)])
    rw [Nat.zero_add] at this
    rw [this]
theorem l_r74 (n : Nat) (K : Int32 → Int32 → Int32 → Hp → Option (Int32 × Hp)) (v2 v3 v4 : Int32) (h : Hp) (f : Nat → Int32) (hf : ∀ c, c < 16 → gI h 123 c = f c) (j : Nat) : ∀ (k m : Nat), k + j = 16 → j < m → g_X8_colours_74 n K m v2 v3 v4 (iN k) (hrw h 124 0 k (dbr f)) = g_X8_colours_119 n K n v2 v3 v4 0 (hrw h 124 0 16 (dbr f)) := by
  induction j with
  | zero =>
    intro k m e hm
    obtain ⟨m, rfl⟩ : ∃ z, m = z + 1 := ⟨m - 1, by omega⟩
    obtain rfl : k = 16 := by omega
    rw [g_X8_colours_74, if_pos (by decide)]
  | succ j ih =>
    intro k m e hm
    obtain ⟨m, rfl⟩ : ∃ z, m = z + 1 := ⟨m - 1, by omega⟩
    rw [g_X8_colours_74, if_neg (i16 (by omega)), i2d (by omega), i15 (by omega), if_pos (iN_inb (by omega) (by decide)), if_pos (iN_inb (by omega) (by decide)), if_pos (iN_inb (by omega) (by decide)), iN_ix (by omega), iN_ix (by omega), iN_ix (by omega), iN_add (by omega), ← ih (k + 1) m (by omega) (by omega)]
    have := hrw_s h 124 0 k (dbr f) (x := gI (hrw h 124 0 k (dbr f)) 123 (k / 2) + gI (hrw h 124 0 k (dbr f)) 123 (15 - k / 2)) (by
      rw [gI_hrw, gI_hrw, if_neg (by omega), if_neg (by omega), hf _ (by omega), hf _ (by omega)]; rfl)
    rw [Nat.zero_add] at this
    rw [this]
theorem l_r174 (n : Nat) (v2 w P : Int32) (hP : P = 1 <<< (v2 &&& 31)) (h : Hp) (f : Nat → Int32) (hf : ∀ c, c < 16 → gI h 123 c = f c) (j : Nat) : ∀ (k m : Nat) (a b x : Int32), k + j = 16 → j < m → g_X8_colours_174 n m v2 w a b x (iN k) h = some (pick w (fin f P j k a b x), h) := by
  induction j with
  | zero =>
    intro k m a b x e hm
    obtain ⟨m, rfl⟩ : ∃ z, m = z + 1 := ⟨m - 1, by omega⟩
    obtain rfl : k = 16 := by omega
    rw [g_X8_colours_174, if_pos (by decide)]
    unfold pick fin
    by_cases h0 : w ≠ 0
    · by_cases h1 : w ≠ 1
      · rw [if_pos h0, if_pos h1, if_pos h0, if_pos h1]
      · rw [if_pos h0, if_neg h1, if_pos h0, if_neg h1]
    · rw [if_neg h0, if_neg h0]
  | succ j ih =>
    intro k m a b x e hm
    obtain ⟨m, rfl⟩ : ∃ z, m = z + 1 := ⟨m - 1, by omega⟩
    have hin := iN_inb (k := k) (n := 16) (by omega) (by decide)
    have hix := iN_ix (k := k) (by omega)
    have hk := hf k (by omega)
    unfold fin
    have t3 : ∀ a b, g_X8_colours_231 n (g_X8_colours_174 n m) v2 w a x (iN k) b h = some (pick w (fin f P j (k + 1) a b (if 0 < f k ∧ f k < P then x + 1 else x)), h) := by
      intro a b
      rw [g_X8_colours_231, if_pos hin, hix, hk, ← hP]
      by_cases c1 : f k ≤ 0
      · rw [if_pos c1, if_neg (by lia), g_X8_colours_262, g_X8_colours_263, iN_add (by omega), Int32.add_zero]
        exact ih (k + 1) m _ _ _ (by omega) (by omega)
      · rw [if_neg c1]
        by_cases c2 : P ≤ f k
        · rw [if_pos c2, if_neg (by lia), g_X8_colours_262, g_X8_colours_263, iN_add (by omega), Int32.add_zero]
          exact ih (k + 1) m _ _ _ (by omega) (by omega)
        · rw [if_neg c2, if_pos (by lia), g_X8_colours_263, iN_add (by omega)]
          exact ih (k + 1) m _ _ _ (by omega) (by omega)
    have t2 : ∀ a, g_X8_colours_205 n (g_X8_colours_174 n m) v2 w b x (iN k) a h = some (pick w (fin f P j (k + 1) a (if b < f k then f k else b) (if 0 < f k ∧ f k < P then x + 1 else x)), h) := by
      intro a
      rw [g_X8_colours_205, if_pos hin, hix, hk]
      by_cases c1 : f k ≤ b
      · rw [if_pos c1, if_neg (show ¬ b < f k by lia)]; exact t3 _ _
      · rw [if_neg c1, if_pos (show b < f k by lia)]; exact t3 _ _
    rw [g_X8_colours_174, if_neg (i16 (by omega)), if_pos hin, hix, hk]
    by_cases c1 : a ≤ f k
    · rw [if_pos c1, if_neg (show ¬ f k < a by lia)]; exact t2 _
    · rw [if_neg c1, if_pos (show f k < a by lia)]; exact t2 _
theorem l_r65 (N j : Nat) (w P : Int32) (hN : N < 100) (hP : P = 1 <<< (iN N &&& 31)) : ∀ (k m : Nat) (h : Hp) (f : Nat → Int32), k + j = N → j < m → (∀ c, c < 16 → gI h 123 c = f c) → ∃ h', g_X8_colours_65 4000 m (iN N) w (iN k) h = some (pick w (fin (itc j f) P 16 0 (itc j f 0) (itc j f 0) 0), h') ∧ Fr (fun a _ => a = 123 ∨ a = 124) h h' := by
  induction j with
  | zero =>
    intro k m h f e hm hf
    obtain ⟨m, rfl⟩ : ∃ z, m = z + 1 := ⟨m - 1, by omega⟩
    refine ⟨h, ?_, Fr.rfl' _ _⟩
    rw [g_X8_colours_65, if_pos (by rw [iN_le (by omega) (by omega)]; omega)]
    have := l_r174 4000 (iN N) w P hP h f hf 16 0 4000 (f 0) (f 0) 0 rfl (by omega)
    rw [ix0, hf 0 (by omega)]
    exact this
  | succ j ih =>
    intro k m h f e hm hf
    obtain ⟨m, rfl⟩ : ∃ z, m = z + 1 := ⟨m - 1, by omega⟩
    have h74 := l_r74 4000 (g_X8_colours_65 4000 m) (iN N) w (iN k) h f hf 16 0 4000 rfl (by omega)
    rw [hrw_0] at h74
    have h119 := l_r119 4000 (g_X8_colours_65 4000 m) (iN N) w (iN k) (hrw h 124 0 16 (dbr f)) 16 0 4000 rfl (by omega)
    rw [hrw_0] at h119
    obtain ⟨h', e1, f1⟩ := ih (k + 1) m (hrw (hrw h 124 0 16 (dbr f)) 123 0 16 (gI (hrw h 124 0 16 (dbr f)) 124)) (dbr f) (by omega) (by omega) (fun c hc => by
      rw [gI_hrw, if_pos (by omega), gI_hrw, if_pos (by omega)]; rfl)
    refine ⟨h', ?_, (((Fr.rfl' _ _).rw' _ (fun k _ _ => Or.inr rfl)).rw' _ (fun k _ _ => Or.inl rfl)).tr f1⟩
    rw [g_X8_colours_65, if_neg (by rw [iN_le (by omega) (by omega)]; omega)]
    rw [iN_add (by omega)] at h119
    exact h74.trans (h119.trans e1)
theorem cn_colours (n : Nat) {a b c v : Int32} {h h1 h2 : Hp} (ha : 0 ≤ a ∧ a ≤ 65535) (hb : 0 ≤ b ∧ b ≤ 10) (hc : 0 ≤ c ∧ c ≤ 2) (e1 : g_X7_colour_2 n n a b 0 h = some h1) (e : g_X7_colours_61 n n b c (gI h1 34 0) (gI h1 34 0) 0 0 h1 = some (v, h2)) : g_X7_colours n a b c h = some (v, h2) := by
  simp only [g_X7_colours_118, g_X7_colours_96, g_X7_colours_82, g_X7_colours_0, g_X7_colours, g_X7_colour_0, g_X7_colour, wC, if_pos ha, if_pos hb, if_pos hc, Option.bind_some, ne10, eq10, if_true, if_false, e1]
  exact e
theorem rn_colours (n : Nat) {a b c v : Int32} {h h2 : Hp} (ha : 0 ≤ a ∧ a ≤ 65535) (hb : 0 ≤ b ∧ b ≤ 10) (hc : 0 ≤ c ∧ c ≤ 2) (e : g_X8_colours_36 n n a b c 0 h = some (v, h2)) : g_X8_colours n a b c h = some (v, h2) := by
  simp only [g_X8_colours_263, g_X8_colours_262, g_X8_colours_231, g_X8_colours_205, g_X8_colours_0, g_X8_colours, wI, if_pos ha, if_pos hb, if_pos hc, Option.bind_some, ne10, eq10, if_true, if_false]
  exact e
theorem pow10 : ∀ k, k < 11 → 0 < (1 : Int32) <<< (iN k &&& 31) := by decide
theorem fin_c {f g : Nat → Int32} (P : Int32) (hfg : ∀ c, c < 16 → f c = g c) : ∀ (j k : Nat) (a b x : Int32), k + j = 16 → fin f P j k a b x = fin g P j k a b x := by
  intro j
  induction j with
  | zero => intro k a b x _; rfl
  | succ j ih => intro k a b x e; unfold fin; rw [hfg k (by omega)]; exact ih _ _ _ _ (by omega)
theorem pr_colours {L : Nat} {h : Hp} (R : Rel L h) (a b c : Int32) : Pair L (g_X7_colours 4000 a b c) (g_X8_colours 4000 a b c) h := by
  by_cases ha : 0 ≤ a ∧ a ≤ 65535
  case neg => exact Pair.pure (-2) R (by simp [g_X7_colours_118, g_X7_colours_96, g_X7_colours_82, g_X7_colours_0, g_X7_colours, wC, if_neg ha]) (by simp [g_X8_colours_263, g_X8_colours_262, g_X8_colours_231, g_X8_colours_205, g_X8_colours_0, g_X8_colours, wI, if_neg ha])
  by_cases hb : 0 ≤ b ∧ b ≤ 10
  case neg => exact Pair.pure (-2) R (by simp [g_X7_colours_118, g_X7_colours_96, g_X7_colours_82, g_X7_colours_0, g_X7_colours, wC, if_pos ha, if_neg hb]) (by simp [g_X8_colours_263, g_X8_colours_262, g_X8_colours_231, g_X8_colours_205, g_X8_colours_0, g_X8_colours, wI, if_pos ha, if_neg hb])
  by_cases hc : 0 ≤ c ∧ c ≤ 2
  case neg => exact Pair.pure (-2) R (by simp [g_X7_colours_118, g_X7_colours_96, g_X7_colours_82, g_X7_colours_0, g_X7_colours, wC, if_pos ha, if_pos hb, if_neg hc]) (by simp [g_X8_colours_263, g_X8_colours_262, g_X8_colours_231, g_X8_colours_205, g_X8_colours_0, g_X8_colours, wI, if_pos ha, if_pos hb, if_neg hc])
  obtain ⟨N, hN, rfl⟩ := iex (n := 11) (by decide) hb.1 (by show b < 11; lia)
  have i1 := l_c2 4000 a (iN N) h 16 0 4000 rfl (by omega)
  rw [hrw_0] at i1
  obtain ⟨h1, i2, f1, q1⟩ := l_c27 N N (by omega) 0 4000 (hrw h 34 0 16 (col0 a)) (col0 a) (by omega) (by omega) (fun c hc => by rw [gI_hrw, if_pos (by omega)]; rfl)
  have i3 := l_c61 4000 (iN N) c _ rfl (pow10 N hN) h1 _ q1 16 0 4000 (itc N (col0 a) 0) (itc N (col0 a) 0) 0 rfl (by omega)
  have i4 := l_r36 4000 a (iN N) c h1 16 0 4000 rfl (by omega)
  rw [hrw_0] at i4
  obtain ⟨h2, i5, f2⟩ := l_r65 N N c _ (by omega) rfl 0 4000 (hrw h1 123 0 16 (col0 a)) (col0 a) (by omega) (by omega) (fun c hc => by rw [gI_hrw, if_pos (by omega)]; rfl)
  refine ⟨_, h1, h2, cn_colours 4000 ha hb hc (i1.trans i2) ?_, rn_colours 4000 ha hb hc (i4.trans i5), Rel_fr ?_ R⟩
  · rw [q1 0 (by omega)]; exact i3
  · refine (((Fr.rfl' _ _).rw' _ (fun k _ _ => ?_)).tr (f1.mono (fun x k z => ?_))).tr (((Fr.rfl' _ _).rw' _ (fun k _ _ => ?_)).tr (f2.mono (fun x k z => ?_))) <;> (unfold SX; omega)
