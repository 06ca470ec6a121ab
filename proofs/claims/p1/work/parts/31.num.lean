/-! THE MAP of doublings, exact numbers: both without the heap -/
noncomputable def dbl (a : Int32) : Int32 := if 2048 ≤ a then 2 * (4095 - a) + 1 else 2 * a
noncomputable def itr : Nat → Int32 → Int32
  | 0, a => a
  | k + 1, a => itr k (dbl a)
theorem itr_s (k : Nat) (a : Int32) : itr (k + 1) a = dbl (itr k a) := by
  induction k generalizing a with
  | zero => rfl
  | succ k ih => show itr (k + 1) (dbl a) = dbl (itr k (dbl a)); exact ih _
theorem l_pb (n N j : Nat) (hN : N < 1000) (h : Hp) : ∀ (k m : Nat) (a : Int32), k + j = N → j < m → g_X7_placeBehind_4 n m (iN N) a (iN k) h = some (itr j a, h) := by
  induction j with
  | zero =>
    intro k m a e hm
    obtain ⟨m, rfl⟩ : ∃ z, m = z + 1 := ⟨m - 1, by omega⟩
    rw [g_X7_placeBehind_4, if_pos (by rw [iN_le (by omega) (by omega)]; omega)]; rfl
  | succ j ih =>
    intro k m a e hm
    obtain ⟨m, rfl⟩ : ∃ z, m = z + 1 := ⟨m - 1, by omega⟩
    rw [g_X7_placeBehind_4, if_neg (by rw [iN_le (by omega) (by omega)]; omega)]
    have := ih (k + 1) m (dbl a) (by omega) (by omega)
    show _ = some (itr j (dbl a), h)
    rw [← this]
    by_cases c : 2048 ≤ a
    · rw [if_pos c, g_X7_placeBehind_31, iN_add (by omega)]; simp only [dbl, if_pos c]
    · rw [if_neg c, g_X7_placeBehind_31, iN_add (by omega)]; simp only [dbl, if_neg c]
theorem c_pb {k : Nat} (hk : k < 1000) (a : Int32) (h : Hp) : g_X7_placeBehind 4000 a (iN k) h = some (itr k a, h) := l_pb 4000 k k hk h 0 4000 a (by omega) (by omega)
theorem l_bh (n N j : Nat) (hN : N < 1000) (h : Hp) : ∀ (k m : Nat) (a : Int32), k + j = N → j < m → g_X8_behind_4 n m (iN N) a (iN k) h = some (itr j a, h) := by
  induction j with
  | zero =>
    intro k m a e hm
    obtain ⟨m, rfl⟩ : ∃ z, m = z + 1 := ⟨m - 1, by omega⟩
    rw [g_X8_behind_4, if_pos (by rw [iN_le (by omega) (by omega)]; omega)]; rfl
  | succ j ih =>
    intro k m a e hm
    obtain ⟨m, rfl⟩ : ∃ z, m = z + 1 := ⟨m - 1, by omega⟩
    rw [g_X8_behind_4, if_neg (by rw [iN_le (by omega) (by omega)]; omega)]
    have := ih (k + 1) m (dbl a) (by omega) (by omega)
    show _ = some (itr j (dbl a), h)
    rw [← this]
    have : g_X8_doubledOnce a h = some (dbl a, h) := by
      simp only [g_X8_doubledOnce_0, g_X8_doubledOnce, dbl]
      by_cases c : 2048 ≤ a
      · rw [if_pos c, if_pos c]
      · rw [if_neg c, if_neg c]
    rw [this, Option.bind_some, iN_add (by omega)]
theorem r_bh {k : Nat} (hk : k < 1000) (a : Int32) (h : Hp) : g_X8_behind 4000 a (iN k) h = some (itr k a, h) := l_bh 4000 k k hk h 0 4000 a (by omega) (by omega)
theorem cPl (a : Int32) (h : Hp) : g_X7_isPlace a h = if 0 ≤ a ∧ a ≤ 4095 then some (1, h) else some (0, h) := by
  by_cases ha : 0 ≤ a ∧ a ≤ 4095
  · simp [g_X7_isPlace_0, g_X7_isPlace, wC, if_pos ha]
  · simp [g_X7_isPlace_0, g_X7_isPlace, wC, if_neg ha]
theorem rPl (a : Int32) (h : Hp) : g_X8_isSpot a h = if 0 ≤ a ∧ a ≤ 4095 then some (1, h) else some (0, h) := by
  by_cases ha : 0 ≤ a ∧ a ≤ 4095
  · simp [g_X8_isSpot_0, g_X8_isSpot, wI, if_pos ha]
  · simp [g_X8_isSpot_0, g_X8_isSpot, wI, if_neg ha]
noncomputable def ab (d : Int32) : Int32 := if 0 ≤ d then d else 0 - d
theorem r_size (d : Int32) (h : Hp) : g_X8_size d h = some (ab d, h) := by
  simp only [g_X8_size_0, g_X8_size, ab]
  by_cases c : 0 ≤ d
  · rw [if_pos c, if_pos c]
  · rw [if_neg c, if_neg c, Int32.zero_sub]
theorem pr_place {L : Nat} {h : Hp} (R : Rel L h) (a b : Int32) : Pair L (g_X7_place 4000 a b) (g_X8_place 4000 a b) h := by
  by_cases ha : 0 ≤ a ∧ a ≤ 4095
  case neg => exact Pair.pure (-2) R (by simp [g_X7_place_0, g_X7_place, cPl, if_neg ha]) (by simp [g_X8_place_0, g_X8_place, rPl, if_neg ha])
  by_cases hb : 0 ≤ b ∧ b ≤ 64
  case neg => exact Pair.pure (-2) R (by simp [g_X7_place_0, g_X7_place, cPl, wC, if_pos ha, if_neg hb]) (by simp [g_X8_place_0, g_X8_place, rPl, wI, if_pos ha, if_neg hb])
  obtain ⟨k, hk, rfl⟩ := iex (n := 65) (by decide) hb.1 (by show b < 65; lia)
  exact Pair.pure (itr k a) R (by simp [g_X7_place_0, g_X7_place, cPl, wC, if_pos ha, if_pos hb, c_pb (show k < 1000 by omega)]) (by simp [g_X8_place_0, g_X8_place, rPl, wI, if_pos ha, if_pos hb, r_bh (show k < 1000 by omega)])
theorem pr_apart {L : Nat} {h : Hp} (R : Rel L h) (a c b : Int32) : Pair L (g_X7_apart 4000 a c b) (g_X8_apart 4000 a c b) h := by
  by_cases ha : 0 ≤ a ∧ a ≤ 4095
  case neg => exact Pair.pure (-2) R (by simp [g_X7_apart_0, g_X7_apart, cPl, if_neg ha]) (by simp [g_X8_apart_0, g_X8_apart, rPl, if_neg ha])
  by_cases hc : 0 ≤ c ∧ c ≤ 4095
  case neg => exact Pair.pure (-2) R (by simp [g_X7_apart_0, g_X7_apart, cPl, if_pos ha, if_neg hc]) (by simp [g_X8_apart_0, g_X8_apart, rPl, if_pos ha, if_neg hc])
  by_cases hb : 0 ≤ b ∧ b ≤ 64
  case neg => exact Pair.pure (-2) R (by simp [g_X7_apart_0, g_X7_apart, cPl, wC, if_pos ha, if_pos hc, if_neg hb]) (by simp [g_X8_apart_0, g_X8_apart, rPl, wI, if_pos ha, if_pos hc, if_neg hb])
  obtain ⟨k, hk, rfl⟩ := iex (n := 65) (by decide) hb.1 (by show b < 65; lia)
  exact Pair.pure (ab (itr k a - itr k c)) R (by simp [g_X7_apart_0, g_X7_apart, cPl, wC, if_pos ha, if_pos hc, if_pos hb, c_pb (show k < 1000 by omega), ab]) (by simp [g_X8_apart_0, g_X8_apart, rPl, wI, if_pos ha, if_pos hc, if_pos hb, r_bh (show k < 1000 by omega), r_size])
theorem i64 {k : Nat} (h : k < 65) : ¬ (64 : Int32) < iN k := by
  show ¬ iN 64 < iN k
  rw [iN_lt (by omega) (by omega)]; omega
theorem c_pb1 (a : Int32) (h : Hp) : g_X7_placeBehind 4000 a 1 h = some (dbl a, h) := c_pb (k := 1) (by omega) a h
theorem l_parted (p q far : Int32) (h : Hp) (j : Nat) : ∀ (k m m' : Nat), k + j = 65 → j < m → j < m' → ∃ v, g_X7_parted_33 4000 m far (itr k p) (itr k q) (iN k) h = some (v, h) ∧ g_X8_parted_27 4000 m' p q far (iN k) h = some (v, h) := by
  induction j with
  | zero =>
    intro k m m' e hm hm'
    obtain ⟨m, rfl⟩ : ∃ z, m = z + 1 := ⟨m - 1, by omega⟩
    obtain ⟨m', rfl⟩ : ∃ z, m' = z + 1 := ⟨m' - 1, by omega⟩
    obtain rfl : k = 65 := by omega
    refine ⟨-1, ?_, ?_⟩
    · rw [g_X7_parted_33, if_pos (by decide)]
    · rw [g_X8_parted_27, if_pos (by decide)]
  | succ j ih =>
    intro k m m' e hm hm'
    obtain ⟨m, rfl⟩ : ∃ z, m = z + 1 := ⟨m - 1, by omega⟩
    obtain ⟨m', rfl⟩ : ∃ z, m' = z + 1 := ⟨m' - 1, by omega⟩
    rw [g_X7_parted_33, g_X8_parted_27, if_neg (i64 (by omega)), if_neg (i64 (by omega)), r_bh (by omega), Option.bind_some, r_bh (by omega), Option.bind_some, r_size, Option.bind_some]
    show ∃ v, (if ab (itr k p - itr k q) < far then _ else _) = _ ∧ (if ab (itr k p - itr k q) < far then _ else _) = _
    by_cases c : ab (itr k p - itr k q) < far
    · rw [if_pos c, if_pos c, c_pb1, Option.bind_some, c_pb1, Option.bind_some, ← itr_s, ← itr_s, iN_add (by omega)]
      exact ih (k + 1) m m' (by omega) (by omega) (by omega)
    · rw [if_neg c, if_neg c]
      exact ⟨_, rfl, rfl⟩
theorem rn_parted (n : Nat) {a c b : Int32} {h : Hp} {v : Int32} (ha : 0 ≤ a ∧ a ≤ 4095) (hc : 0 ≤ c ∧ c ≤ 4095) (hb : 0 ≤ b ∧ b ≤ 4095) (e1 : g_X8_parted_27 n n a c b 0 h = some (v, h)) : g_X8_parted n a c b h = some (v, h) := by
  simp only [g_X8_parted_0, g_X8_parted, rPl, if_pos ha, if_pos hc, if_pos hb, Option.bind_some, eq10, ne10, if_true, if_false]; exact e1
theorem pr_parted {L : Nat} {h : Hp} (R : Rel L h) (a c b : Int32) : Pair L (g_X7_parted 4000 a c b) (g_X8_parted 4000 a c b) h := by
  by_cases ha : 0 ≤ a ∧ a ≤ 4095
  case neg => exact Pair.pure (-2) R (by simp [g_X7_parted_0, g_X7_parted, cPl, if_neg ha]) (by simp [g_X8_parted_0, g_X8_parted, rPl, if_neg ha])
  by_cases hc : 0 ≤ c ∧ c ≤ 4095
  case neg => exact Pair.pure (-2) R (by simp [g_X7_parted_0, g_X7_parted, cPl, if_pos ha, if_neg hc]) (by simp [g_X8_parted_0, g_X8_parted, rPl, if_pos ha, if_neg hc])
  by_cases hb : 0 ≤ b ∧ b ≤ 4095
  case neg => exact Pair.pure (-2) R (by simp [g_X7_parted_0, g_X7_parted, cPl, if_pos ha, if_pos hc, if_neg hb]) (by simp [g_X8_parted_0, g_X8_parted, rPl, if_pos ha, if_pos hc, if_neg hb])
  obtain ⟨v, e1, e2⟩ := l_parted a c b h 65 0 4000 4000 rfl (by omega) (by omega)
  rw [show itr 0 a = a from rfl, show itr 0 c = c from rfl, show iN 0 = 0 from rfl] at e1
  rw [show iN 0 = 0 from rfl] at e2
  exact Pair.pure v R (by simp [g_X7_parted_0, g_X7_parted, cPl, if_pos ha, if_pos hc, if_pos hb]; exact e1) (rn_parted 4000 ha hc hb e2)
theorem l_round (p : Int32) (h : Hp) (j : Nat) : ∀ (k m m' : Nat), k + j = 64 → j < m → j < m' → ∃ v, g_X7_round_14 4000 m p (itr k p) (iN (k + 1)) h = some (v, h) ∧ g_X8_round_12 4000 m' p (iN (k + 1)) h = some (v, h) := by
  induction j with
  | zero =>
    intro k m m' e hm hm'
    obtain ⟨m, rfl⟩ : ∃ z, m = z + 1 := ⟨m - 1, by omega⟩
    obtain ⟨m', rfl⟩ : ∃ z, m' = z + 1 := ⟨m' - 1, by omega⟩
    obtain rfl : k = 64 := by omega
    refine ⟨-1, ?_, ?_⟩
    · rw [g_X7_round_14, if_pos (by decide)]
    · rw [g_X8_round_12, if_pos (by decide)]
  | succ j ih =>
    intro k m m' e hm hm'
    obtain ⟨m, rfl⟩ : ∃ z, m = z + 1 := ⟨m - 1, by omega⟩
    obtain ⟨m', rfl⟩ : ∃ z, m' = z + 1 := ⟨m' - 1, by omega⟩
    rw [g_X7_round_14, g_X8_round_12, if_neg (i64 (by omega)), if_neg (i64 (by omega)), r_bh (by omega), Option.bind_some, c_pb1, Option.bind_some, ← itr_s]
    by_cases c : itr (k + 1) p ≠ p
    · rw [if_pos c, if_pos c, iN_add (by omega)]
      exact ih (k + 1) m m' (by omega) (by omega) (by omega)
    · rw [if_neg c, if_neg c]
      exact ⟨_, rfl, rfl⟩
theorem pr_round {L : Nat} {h : Hp} (R : Rel L h) (a : Int32) : Pair L (g_X7_round 4000 a) (g_X8_round 4000 a) h := by
  by_cases ha : 0 ≤ a ∧ a ≤ 4095
  case neg => exact Pair.pure (-2) R (by simp [g_X7_round_0, g_X7_round, cPl, if_neg ha]) (by simp [g_X8_round_0, g_X8_round, rPl, if_neg ha])
  obtain ⟨v, e1, e2⟩ := l_round a h 64 0 4000 4000 rfl (by omega) (by omega)
  rw [show itr 0 a = a from rfl, show iN (0 + 1) = 1 from rfl] at e1
  rw [show iN (0 + 1) = 1 from rfl] at e2
  exact Pair.pure v R (by simp [g_X7_round_0, g_X7_round, cPl, if_pos ha]; exact e1) (by simp [g_X8_round_0, g_X8_round, rPl, if_pos ha]; exact e2)
/-! powers -/
noncomputable def pw (a : Int64) : Nat → Int64 → Int64
  | 0, x => x
  | k + 1, x => pw a k (x * a)
theorem l_mul (n N j : Nat) (hN : N < 1000) (b : Int32) (h : Hp) : ∀ (k m : Nat) (x : Int64), k + j = N → j < m → g_X7_multiplied_5 n m b (iN N) x (iN k) h = some (pw b.toInt64 j x, h) := by
  induction j with
  | zero =>
    intro k m a e hm
    obtain ⟨m, rfl⟩ : ∃ z, m = z + 1 := ⟨m - 1, by omega⟩
    rw [g_X7_multiplied_5, if_pos (by rw [iN_le (by omega) (by omega)]; omega)]; rfl
  | succ j ih =>
    intro k m a e hm
    obtain ⟨m, rfl⟩ : ∃ z, m = z + 1 := ⟨m - 1, by omega⟩
    rw [g_X7_multiplied_5, if_neg (by rw [iN_le (by omega) (by omega)]; omega), iN_add (by omega)]
    exact ih (k + 1) m _ (by omega) (by omega)
theorem l_pow (n N j : Nat) (hN : N < 1000) (b : Int64) (h : Hp) : ∀ (k m : Nat) (x : Int64), k + j = N → j < m → g_X8_power_5 n m b (iN N) x (iN k) h = some (pw b j x, h) := by
  induction j with
  | zero =>
    intro k m a e hm
    obtain ⟨m, rfl⟩ : ∃ z, m = z + 1 := ⟨m - 1, by omega⟩
    rw [g_X8_power_5, if_pos (by rw [iN_le (by omega) (by omega)]; omega)]; rfl
  | succ j ih =>
    intro k m a e hm
    obtain ⟨m, rfl⟩ : ∃ z, m = z + 1 := ⟨m - 1, by omega⟩
    rw [g_X8_power_5, if_neg (by rw [iN_le (by omega) (by omega)]; omega), iN_add (by omega)]
    exact ih (k + 1) m _ (by omega) (by omega)
theorem c_mul {k : Nat} (hk : k < 1000) (b : Int32) (h : Hp) : g_X7_multiplied 4000 b (iN k) h = some (pw b.toInt64 k 1, h) := l_mul 4000 k k hk b h 0 4000 1 (by omega) (by omega)
theorem r_pow {k : Nat} (hk : k < 1000) (b : Int64) (h : Hp) : g_X8_power 4000 b (iN k) h = some (pw b k 1, h) := l_pow 4000 k k hk b h 0 4000 1 (by omega) (by omega)
theorem cOd (a b : Int32) (h : Hp) : g_X7_areOdds a b h = if (1 ≤ b ∧ b ≤ 30) ∧ 0 ≤ a ∧ a ≤ b then some (1, h) else some (0, h) := by
  by_cases hb : 1 ≤ b ∧ b ≤ 30
  · by_cases ha : 0 ≤ a ∧ a ≤ b
    · rw [if_pos ⟨hb, ha⟩]; simp [g_X7_areOdds_0, g_X7_areOdds, wC, if_pos ha, if_pos hb]
    · rw [if_neg (fun z => ha z.2)]; simp [g_X7_areOdds_0, g_X7_areOdds, wC, if_neg ha, if_pos hb]
  · rw [if_neg (fun z => hb z.1)]; simp [g_X7_areOdds_0, g_X7_areOdds, wC, if_neg hb]
theorem rOd (a b : Int32) (h : Hp) : g_X8_areOdds a b h = if (1 ≤ b ∧ b ≤ 30) ∧ 0 ≤ a ∧ a ≤ b then some (1, h) else some (0, h) := by
  by_cases hb : 1 ≤ b ∧ b ≤ 30
  · by_cases ha : 0 ≤ a ∧ a ≤ b
    · rw [if_pos ⟨hb, ha⟩]; simp [g_X8_areOdds_0, g_X8_areOdds, wI, if_pos ha, if_pos hb]
    · rw [if_neg (fun z => ha z.2)]; simp [g_X8_areOdds_0, g_X8_areOdds, wI, if_neg ha, if_pos hb]
  · rw [if_neg (fun z => hb z.1)]; simp [g_X8_areOdds_0, g_X8_areOdds, wI, if_neg hb]
theorem l_record (a b s : Int32) (h : Hp) (j : Nat) : ∀ (k m m' : Nat) (v : Int32), k + j = 11 → j < m → j < m' → ∃ v', g_X7_record_27 4000 m a b s v (iN k) h = some (v', h) ∧ g_X8_record_27 4000 m' a b s v (iN k) h = some (v', h) := by
  induction j with
  | zero =>
    intro k m m' v e hm hm'
    obtain ⟨m, rfl⟩ : ∃ z, m = z + 1 := ⟨m - 1, by omega⟩
    obtain ⟨m', rfl⟩ : ∃ z, m' = z + 1 := ⟨m' - 1, by omega⟩
    obtain rfl : k = 11 := by omega
    refine ⟨v, ?_, ?_⟩
    · rw [g_X7_record_27, if_pos (by decide)]
    · rw [g_X8_record_27, if_pos (by decide)]
  | succ j ih =>
    intro k m m' v e hm hm'
    obtain ⟨m, rfl⟩ : ∃ z, m = z + 1 := ⟨m - 1, by omega⟩
    obtain ⟨m', rfl⟩ : ∃ z, m' = z + 1 := ⟨m' - 1, by omega⟩
    have h10 : ¬ (10 : Int32) < iN k := by
      show ¬ iN 10 < iN k
      rw [iN_lt (by omega) (by omega)]; omega
    rw [g_X7_record_27, g_X8_record_27, if_neg h10, if_neg h10, c_mul (by omega), r_pow (by omega), Option.bind_some, Option.bind_some, c_mul (by omega), r_pow (by omega), Option.bind_some, Option.bind_some]
    dsimp only
    by_cases c : pw (b - a).toInt64 k 1 * 100 < s.toInt64 * pw b.toInt64 k 1
    · rw [if_pos c, if_pos c, g_X7_record_63, g_X8_record_68, iN_add (by omega)]
      exact ih (k + 1) m m' _ (by omega) (by omega) (by omega)
    · rw [if_neg c, if_neg c, g_X7_record_63, g_X8_record_68, iN_add (by omega)]
      exact ih (k + 1) m m' _ (by omega) (by omega) (by omega)
theorem cn_record (n : Nat) {a b c v : Int32} {h : Hp} (ha : (1 ≤ b ∧ b ≤ 30) ∧ 0 ≤ a ∧ a ≤ b) (hc : 0 ≤ c ∧ c ≤ 100) (e : g_X7_record_27 n n a b c 0 0 h = some (v, h)) : g_X7_record n a b c h = some (v, h) := by
  simp only [g_X7_record_63, g_X7_record_0, g_X7_record, cOd, wC, if_pos ha, if_pos hc]
  simp
  exact e
theorem rn_record (n : Nat) {a b c v : Int32} {h : Hp} (ha : (1 ≤ b ∧ b ≤ 30) ∧ 0 ≤ a ∧ a ≤ b) (hc : 0 ≤ c ∧ c ≤ 100) (e : g_X8_record_27 n n a b c 0 1 h = some (v, h)) : g_X8_record n a b c h = some (v, h) := by
  simp only [g_X8_record_68, g_X8_record_0, g_X8_record, rOd, wI, if_pos ha, if_pos hc]
  simp
  exact e
theorem pr_record {L : Nat} {h : Hp} (R : Rel L h) (a b c : Int32) : Pair L (g_X7_record 4000 a b c) (g_X8_record 4000 a b c) h := by
  by_cases ha : (1 ≤ b ∧ b ≤ 30) ∧ 0 ≤ a ∧ a ≤ b
  case neg => exact Pair.pure (-2) R (by simp only [g_X7_record_63, g_X7_record_0, g_X7_record, cOd, if_neg ha]; simp) (by simp only [g_X8_record_68, g_X8_record_0, g_X8_record, rOd, if_neg ha]; simp)
  by_cases hc : 0 ≤ c ∧ c ≤ 100
  case neg => exact Pair.pure (-2) R (by simp only [g_X7_record_63, g_X7_record_0, g_X7_record, cOd, wC, if_pos ha, if_neg hc]; simp) (by simp only [g_X8_record_68, g_X8_record_0, g_X8_record, rOd, wI, if_pos ha, if_neg hc]; simp)
  obtain ⟨v, e1, e2⟩ := l_record a b c h 10 1 3999 4000 0 rfl (by omega) (by omega)
  rw [show iN 1 = 1 from rfl] at e2
  have e0 : g_X7_record_27 4000 4000 a b c 0 0 h = some (v, h) := by
    rw [← e1, show (4000 : Nat) = 3999 + 1 from rfl, show (0 : Int32) = iN 0 from rfl, g_X7_record_27, if_neg (by decide)]
    rw [show (3999 : Nat) + 1 = 4000 from rfl, c_mul (by omega), Option.bind_some, c_mul (by omega), Option.bind_some]
    dsimp only
    by_cases z : pw (b - a).toInt64 0 1 * 100 < c.toInt64 * pw b.toInt64 0 1
    · rw [if_pos z, g_X7_record_63, iN_add (by omega)]
    · rw [if_neg z, g_X7_record_63, iN_add (by omega)]
  exact Pair.pure v R (cn_record 4000 ha hc e0) (rn_record 4000 ha hc e2)
/-! lowest terms -/
noncomputable def rem64 (a b : Int64) : Int64 := a - a / b * b
theorem rem_t {a b : Int64} (h1 : 0 ≤ a.toInt) (h2 : 0 < b.toInt) : (rem64 a b).toInt = a.toInt % b.toInt := by
  unfold rem64
  have hd := tdd h1 h2
  have hm1 : a.toInt / b.toInt * b.toInt ≤ a.toInt := Int.ediv_mul_le _ (by omega)
  have hm0 : 0 ≤ a.toInt / b.toInt * b.toInt := Int.mul_nonneg (Int.ediv_nonneg h1 (by omega)) (by omega)
  have ha := a.toInt_lt
  have e1 : (a / b * b).toInt = a.toInt / b.toInt * b.toInt := by
    rw [tdm] <;> rw [hd] <;> omega
  rw [tds] <;> rw [e1]
  · rw [Int.emod_def, Int.mul_comm]
  · omega
  · omega
theorem half {a b : Int} (h1 : 0 ≤ a) (h2 : 0 < b) (h3 : 0 < a % b) : 2 * (b % (a % b)) < b := by
  have h4 := Int.emod_lt_of_pos a h2
  have h5 := Int.emod_lt_of_pos b h3
  have h6 := Int.emod_nonneg b (show a % b ≠ 0 by omega)
  have h7 := Int.emod_add_mul_ediv b (a % b)
  have h8 : 1 ≤ b / (a % b) := by
    have := Int.ediv_le_ediv h3 (show a % b ≤ b by omega)
    rwa [Int.ediv_self (by omega)] at this
  have h9 : (a % b) * 1 ≤ (a % b) * (b / (a % b)) := Int.mul_le_mul_of_nonneg_left h8 (by omega)
  omega
theorem i200 {k : Nat} (h : k < 200) : ¬ (200 : Int32) ≤ iN k := by
  show ¬ iN 200 ≤ iN k
  rw [iN_le (by omega) (by omega)]; omega
/-- both go on alike, and end at a divisor above 0 -/
theorem l_gcd (v0 v2 : Int64) (v4 : Int32) (h : Hp) (j : Nat) : ∀ (k m m' : Nat) (a b : Int64), k + 2 * j + 2 < 200 → 2 * j + 2 < m → 2 * j + 2 < m' → 0 < a.toInt → 0 ≤ b.toInt → b.toInt < 2 ^ j → ∃ g : Int64, 0 < g.toInt ∧ g_X7_inLowestTerms_9 4000 m v0 v2 v4 a b (iN k) h = g_X7_inLowestTerms_45 4000 v0 v2 v4 g h ∧ g_X8_lowest_16 4000 m' v0 v2 v4 a b h = some (if v4 ≠ 0 then v2 / g else v0 / g, h) := by
  have e0 : (0 : Int64).toInt = 0 := rfl
  have stop : ∀ (k m m' : Nat) (a b : Int64), k < 200 → 0 < a.toInt → b = 0 → ∃ g : Int64, 0 < g.toInt ∧ g_X7_inLowestTerms_9 4000 (m + 1) v0 v2 v4 a b (iN k) h = g_X7_inLowestTerms_45 4000 v0 v2 v4 g h ∧ g_X8_lowest_16 4000 (m' + 1) v0 v2 v4 a b h = some (if v4 ≠ 0 then v2 / g else v0 / g, h) := by
    intro k m m' a b hk ha hb
    have ha0 : ¬ a = 0 := by intro z; rw [z, e0] at ha; omega
    refine ⟨a, ha, ?_, ?_⟩
    · rw [g_X7_inLowestTerms_9, if_neg (i200 hk), if_pos hb]
    · rw [g_X8_lowest_16, if_pos hb, if_pos ha0, if_pos ha0]
      by_cases c : v4 ≠ 0
      · rw [if_pos c, if_pos c]
      · rw [if_neg c, if_neg c]
  induction j with
  | zero =>
    intro k m m' a b hk hm hm' ha hb hb2
    obtain ⟨m, rfl⟩ : ∃ z, m = z + 1 := ⟨m - 1, by omega⟩
    obtain ⟨m', rfl⟩ : ∃ z, m' = z + 1 := ⟨m' - 1, by omega⟩
    exact stop k m m' a b (by omega) ha (by rw [e64, e0]; simp at hb2; omega)
  | succ j ih =>
    intro k m m' a b hk hm hm' ha hb hb2
    obtain ⟨m, rfl⟩ : ∃ z, m = z + 1 + 1 := ⟨m - 2, by omega⟩
    obtain ⟨m', rfl⟩ : ∃ z, m' = z + 1 + 1 := ⟨m' - 2, by omega⟩
    by_cases hb0 : b = 0
    · exact stop k (m + 1) (m' + 1) a b (by omega) ha hb0
    have hbp : 0 < b.toInt := by
      have : b.toInt ≠ 0 := fun z => hb0 (by rw [e64, e0]; exact z)
      omega
    have hr := rem_t (a := a) (by omega) hbp
    have hr1 := Int.emod_nonneg a.toInt (show b.toInt ≠ 0 by omega)
    rw [g_X7_inLowestTerms_9, g_X8_lowest_16, if_neg (i200 (by omega)), if_neg hb0, if_neg hb0, if_pos hb0, if_pos hb0, iN_add (by omega)]
    show ∃ g : Int64, 0 < g.toInt ∧ g_X7_inLowestTerms_9 4000 (m + 1) v0 v2 v4 b (rem64 a b) (iN (k + 1)) h = _ ∧ g_X8_lowest_16 4000 (m' + 1) v0 v2 v4 b (rem64 a b) h = _
    by_cases hr0 : rem64 a b = 0
    · exact stop (k + 1) m m' b _ (by omega) hbp hr0
    have hrp : 0 < (rem64 a b).toInt := by
      have : (rem64 a b).toInt ≠ 0 := fun z => hr0 (by rw [e64, e0]; exact z)
      omega
    have hs := rem_t (a := b) (by omega) hrp
    have hs1 := Int.emod_nonneg b.toInt (show (rem64 a b).toInt ≠ 0 by omega)
    have hh := half (a := a.toInt) (b := b.toInt) (by omega) hbp (by omega)
    rw [← hr] at hh
    rw [g_X7_inLowestTerms_9, g_X8_lowest_16, if_neg (i200 (by omega)), if_neg hr0, if_neg hr0, if_pos hr0, if_pos hr0, iN_add (by omega)]
    rw [Int.pow_succ] at hb2
    exact ih (k + 1 + 1) m m' _ _ (by omega) (by omega) (by omega) hrp (by show 0 ≤ (rem64 b (rem64 a b)).toInt; omega) (by show (rem64 b (rem64 a b)).toInt < _; omega)
theorem c_quo {a b : Int64} (hb : 0 < b.toInt) (h : Hp) : g_X7_quotient a b h = some (a / b, h) := by
  have e0 : (0 : Int64).toInt = 0 := rfl
  have h1 : ¬ b ≤ 0 := by rw [le64, e0]; omega
  have h2 : ¬ b = 0 := by intro z; rw [z, e0] at hb; omega
  simp only [g_X7_quotient_0, g_X7_quotient, if_neg h1, if_pos h2]
theorem lowest (a b : Int64) (ha : 0 ≤ a.toInt) (hb : 0 < b.toInt) (hb2 : b.toInt < 2 ^ 60) (p : Int32) (hp : p = 0 ∨ p = 1) (h : Hp) : ∃ v, g_X7_inLowestTerms 4000 a b p h = some (v, h) ∧ g_X8_lowest 4000 a b p h = some (v, h) := by
  have e0 : (0 : Int64).toInt = 0 := rfl
  simp only [g_X7_inLowestTerms_55, g_X7_inLowestTerms_45, g_X7_inLowestTerms_0, g_X7_inLowestTerms, g_X8_lowest_0, g_X8_lowest]
  by_cases ha0 : a = 0
  · subst ha0
    have hb0 : ¬ b = 0 := by intro z; rw [z, e0] at hb; omega
    refine ⟨p.toInt64, ?_, by simp⟩
    have hr : rem64 0 b = 0 := by
      rw [e64, rem_t (by rw [e0]; exact Int.le_refl _) hb, e0]; simp
    rw [show (4000 : Nat) = 3998 + 1 + 1 from rfl, show (0 : Int32) = iN 0 from rfl, g_X7_inLowestTerms_9, if_neg (by decide), if_neg hb0, if_pos hb0, iN_add (by omega)]
    have : (0 : Int64) - 0 / b * b = 0 := hr
    rw [this, g_X7_inLowestTerms_9, if_neg (by decide), if_pos rfl]
    simp only [g_X7_inLowestTerms_45, g_X7_inLowestTerms_55, c_quo hb, Option.bind_some]
    rcases hp with rfl | rfl
    · rw [if_neg (by decide)]
      have : (0 : Int64) / b = 0 := by
        rw [e64, tdd (by rw [e0]; exact Int.le_refl _) hb, e0]; simp
      rw [this]; rfl
    · rw [if_pos (by decide)]
      have : b / b = 1 := by
        rw [e64, tdd (by omega) hb, Int.ediv_self (by omega)]; rfl
      rw [this]; rfl
  · have hap : 0 < a.toInt := by
      have : a.toInt ≠ 0 := fun z => ha0 (by rw [e64, e0]; exact z)
      omega
    obtain ⟨g, hg, e1, e2⟩ := l_gcd a b p h 60 0 4000 4000 a b (by omega) (by omega) (by omega) hap (by omega) hb2
    refine ⟨if p ≠ 0 then b / g else a / g, ?_, ?_⟩
    · rw [show iN 0 = 0 from rfl] at e1
      rw [e1]
      simp only [g_X7_inLowestTerms_45, g_X7_inLowestTerms_55, c_quo hg, Option.bind_some]
      by_cases c : p ≠ 0
      · rw [if_pos c, if_pos c]
      · rw [if_neg c, if_neg c]
    · rw [if_pos ha0]; exact e2
theorem shl_pw : ∀ k, k < 31 → ((1 : Int64) <<< (Int32.toInt64 (iN k) &&& 63)) = pw 2 k 1 ∧ 0 < (pw 2 k 1).toInt ∧ (pw 2 k 1).toInt < 2 ^ 60 := by decide
theorem pr_thin {L : Nat} {h : Hp} (R : Rel L h) (a b c : Int32) : Pair L (g_X7_thin 4000 a b c) (g_X8_thin 4000 a b c) h := by
  by_cases ha : 1 ≤ a ∧ a ≤ 999999
  case neg => exact Pair.pure (-4611686018427387904) R (by simp [g_X7_thin_0, g_X7_thin, wC, if_neg ha]) (by simp [g_X8_thin_0, g_X8_thin, wI, if_neg ha])
  by_cases hb : 0 ≤ b ∧ b ≤ 30
  case neg => exact Pair.pure (-4611686018427387904) R (by simp [g_X7_thin_0, g_X7_thin, wC, if_pos ha, if_neg hb]) (by simp [g_X8_thin_0, g_X8_thin, wI, if_pos ha, if_neg hb])
  by_cases hc : 0 ≤ c ∧ c ≤ 1
  case neg => exact Pair.pure (-4611686018427387904) R (by simp [g_X7_thin_0, g_X7_thin, wC, if_pos ha, if_pos hb, if_neg hc]) (by simp [g_X8_thin_0, g_X8_thin, wI, if_pos ha, if_pos hb, if_neg hc])
  obtain ⟨k, hk, rfl⟩ := iex (n := 31) (by decide) hb.1 (by show b < 31; lia)
  obtain ⟨s1, s2, s3⟩ := shl_pw k hk
  have ha1 := le32.mp ha.1
  have k1 : (1 : Int32).toInt = 1 := rfl
  obtain ⟨v, e1, e2⟩ := lowest a.toInt64 (pw 2 k 1) (by rw [tw]; omega) s2 s3 c (by lia) h
  refine Pair.pure v R ?_ ?_
  · simp [g_X7_thin_0, g_X7_thin, wC, if_pos ha, if_pos hb, if_pos hc, s1, e1]
  · simp [g_X8_thin_0, g_X8_thin, wI, if_pos ha, if_pos hb, if_pos hc, r_pow (show k < 1000 by omega), e2]
theorem pw_t {a : Int64} (h0 : 0 ≤ a.toInt) (h1 : a.toInt ≤ 30) : ∀ (k : Nat) (x : Int64), k ≤ 10 → 0 ≤ x.toInt → x.toInt ≤ 30 ^ (10 - k) → (pw a k x).toInt = x.toInt * a.toInt ^ k ∧ 0 ≤ (pw a k x).toInt ∧ (pw a k x).toInt ≤ 30 ^ 10 := by
  intro k
  induction k with
  | zero => intro x _ hx0 hx; exact ⟨by simp [pw], hx0, hx⟩
  | succ k ih =>
    intro x hk hx0 hx
    have hp : (30 : Int) ^ (10 - k) = 30 ^ (10 - (k + 1)) * 30 := by rw [← Int.pow_succ]; congr 1; omega
    have hle : (30 : Int) ^ (10 - k) ≤ 30 ^ 10 := by
      have : ∀ k, k ≤ 10 → (30 : Int) ^ (10 - k) ≤ 30 ^ 10 := by decide
      exact this k (by omega)
    have hle2 : (30 : Int) ^ 10 = 590490000000000 := by decide
    have hm0 : 0 ≤ x.toInt * a.toInt := Int.mul_nonneg hx0 h0
    have hm1 : x.toInt * a.toInt ≤ 30 ^ (10 - (k + 1)) * 30 := Int.mul_le_mul hx h1 h0 (by exact Int.le_of_lt (Int.pow_pos (by decide)))
    have hm : (x * a).toInt = x.toInt * a.toInt := by rw [tdm] <;> omega
    obtain ⟨i1, i2, i3⟩ := ih (x * a) (by omega) (by omega) (by omega)
    refine ⟨?_, i2, i3⟩
    show (pw a k (x * a)).toInt = _
    rw [i1, hm, Int.pow_succ, Int.mul_assoc, Int.mul_comm a.toInt]
theorem pr_odds {L : Nat} {h : Hp} (R : Rel L h) (a b k p : Int32) : Pair L (g_X7_odds 4000 a b k p) (g_X8_odds 4000 a b k p) h := by
  by_cases ha : (1 ≤ b ∧ b ≤ 30) ∧ 0 ≤ a ∧ a ≤ b
  case neg => exact Pair.pure (-4611686018427387904) R (by simp only [g_X7_odds_0, g_X7_odds, cOd, if_neg ha]; simp) (by simp only [g_X8_odds_0, g_X8_odds, rOd, if_neg ha]; simp)
  by_cases hb : 0 ≤ k ∧ k ≤ 10
  case neg => exact Pair.pure (-4611686018427387904) R (by simp only [g_X7_odds_0, g_X7_odds, cOd, wC, if_pos ha, if_neg hb]; simp) (by simp only [g_X8_odds_0, g_X8_odds, rOd, wI, if_pos ha, if_neg hb]; simp)
  by_cases hc : 0 ≤ p ∧ p ≤ 1
  case neg => exact Pair.pure (-4611686018427387904) R (by simp only [g_X7_odds_0, g_X7_odds, cOd, wC, if_pos ha, if_pos hb, if_neg hc]; simp) (by simp only [g_X8_odds_0, g_X8_odds, rOd, wI, if_pos ha, if_pos hb, if_neg hc]; simp)
  obtain ⟨j, hj, rfl⟩ := iex (n := 11) (by decide) hb.1 (by show k < 11; lia)
  have a1 := le32.mp ha.1.1
  have a2 := le32.mp ha.1.2
  have a3 := le32.mp ha.2.1
  have a4 := le32.mp ha.2.2
  have k0 : (0 : Int32).toInt = 0 := rfl
  have k1 : (1 : Int32).toInt = 1 := rfl
  have k30 : (30 : Int32).toInt = 30 := rfl
  have hs : (b - a).toInt = b.toInt - a.toInt := ts (by omega) (by omega)
  have l1 : (1 : Int64).toInt = 1 := rfl
  have hx : (1 : Int64).toInt ≤ 30 ^ (10 - j) := by
    have : ∀ j, j < 11 → (1 : Int) ≤ 30 ^ (10 - j) := by decide
    rw [l1]; exact this j hj
  obtain ⟨u1, u2, u3⟩ := pw_t (a := (b - a).toInt64) (by rw [tw]; omega) (by rw [tw]; omega) j 1 (by omega) (by decide) hx
  obtain ⟨w1, w2, w3⟩ := pw_t (a := b.toInt64) (by rw [tw]; omega) (by rw [tw]; omega) j 1 (by omega) (by decide) hx
  have hle2 : (30 : Int) ^ 10 = 590490000000000 := by decide
  obtain ⟨v, e1, e2⟩ := lowest (pw (b - a).toInt64 j 1) (pw b.toInt64 j 1) u2 (by
    rw [w1, l1, tw, Int.one_mul]; exact Int.pow_pos (by omega)) (by
    have : (2 : Int) ^ 60 = 1152921504606846976 := by decide
    omega) p (by lia) h
  refine Pair.pure v R ?_ ?_
  · simp only [g_X7_odds_0, g_X7_odds, cOd, wC, if_pos ha, if_pos hb, if_pos hc, c_mul (show j < 1000 by omega)]
    simp [e1]
  · simp only [g_X8_odds_0, g_X8_odds, rOd, wI, if_pos ha, if_pos hb, if_pos hc, r_pow (show j < 1000 by omega)]
    simp [e2]
