/-! WHAT IS SEEN of a rope -/
noncomputable def lst (r : RP) : Nat → Nat
  | 0 => 0
  | n + 1 => if thk r (lst r n) ≤ thk r (n + 1) then lst r n else n + 1
noncomputable def gst (r : RP) : Nat → Nat
  | 0 => 0
  | n + 1 => if thk r (n + 1) ≤ thk r (gst r n) then gst r n else n + 1
theorem lst_lt (r : RP) (n : Nat) : lst r n ≤ n := by
  induction n with
  | zero => exact Nat.le_refl _
  | succ n ih => unfold lst; split <;> omega
theorem gst_lt (r : RP) (n : Nat) : gst r n ≤ n := by
  induction n with
  | zero => exact Nat.le_refl _
  | succ n ih => unfold gst; split <;> omega
noncomputable def tlo (r : RP) : Int32 := thk r (lst r 11)
noncomputable def thi (r : RP) : Int32 := thk r (gst r 11)
noncomputable def spr (r : RP) : Int32 := thi r - tlo r
theorem l_cleast {v : Nat} {r : RP} {h : Hp} (R : CR v r h) (H : okP r) (j : Nat) : ∀ (k m : Nat), k + j = 11 → j < m → g_X3_thinnest_4 4000 m v (iN (lst r k)) (iN (k + 1)) h = some (iN (lst r 11), h) := by
  induction j with
  | zero =>
    intro k m ek hm
    obtain ⟨m, rfl⟩ : ∃ z, m = z + 1 := ⟨m - 1, by omega⟩
    obtain rfl : k = 11 := by omega
    rw [g_X3_thinnest_4, if_pos (by decide)]
  | succ j ih =>
    intro k m ek hm
    obtain ⟨m, rfl⟩ : ∃ z, m = z + 1 := ⟨m - 1, by omega⟩
    have := lst_lt r k
    rw [g_X3_thinnest_4, if_neg (i12 (by omega)), c_thick R H (by omega), Option.bind_some, c_thick R H (by omega), Option.bind_some]
    have e := ih (k + 1) m (by omega) (by omega)
    unfold lst at e
    by_cases c : thk r (lst r k) ≤ thk r (k + 1)
    · rw [if_pos c] at e; rw [if_pos c, g_X3_thinnest_25, iN_add (by omega)]; exact e
    · rw [if_neg c] at e; rw [if_neg c, g_X3_thinnest_25, iN_add (by omega)]; exact e
theorem c_least {v : Nat} {r : RP} {h : Hp} (R : CR v r h) (H : okP r) : g_X3_thinnest 4000 v h = some (iN (lst r 11), h) := l_cleast R H 11 0 4000 rfl (by omega)
theorem l_cgreat {v : Nat} {r : RP} {h : Hp} (R : CR v r h) (H : okP r) (j : Nat) : ∀ (k m : Nat), k + j = 11 → j < m → g_X3_thickest_4 4000 m v (iN (gst r k)) (iN (k + 1)) h = some (iN (gst r 11), h) := by
  induction j with
  | zero =>
    intro k m ek hm
    obtain ⟨m, rfl⟩ : ∃ z, m = z + 1 := ⟨m - 1, by omega⟩
    obtain rfl : k = 11 := by omega
    rw [g_X3_thickest_4, if_pos (by decide)]
  | succ j ih =>
    intro k m ek hm
    obtain ⟨m, rfl⟩ : ∃ z, m = z + 1 := ⟨m - 1, by omega⟩
    have := gst_lt r k
    rw [g_X3_thickest_4, if_neg (i12 (by omega)), c_thick R H (by omega), Option.bind_some, c_thick R H (by omega), Option.bind_some]
    have e := ih (k + 1) m (by omega) (by omega)
    unfold gst at e
    by_cases c : thk r (k + 1) ≤ thk r (gst r k)
    · rw [if_pos c] at e; rw [if_pos c, g_X3_thickest_25, iN_add (by omega)]; exact e
    · rw [if_neg c] at e; rw [if_neg c, g_X3_thickest_25, iN_add (by omega)]; exact e
theorem c_great {v : Nat} {r : RP} {h : Hp} (R : CR v r h) (H : okP r) : g_X3_thickest 4000 v h = some (iN (gst r 11), h) := l_cgreat R H 11 0 4000 rfl (by omega)
theorem c_spread {v : Nat} {r : RP} {h : Hp} (R : CR v r h) (H : okP r) : g_X3_spread 4000 v h = some (spr r, h) := by
  have h1 := lst_lt r 11
  have h2 := gst_lt r 11
  unfold g_X3_spread g_X3_spread_0
  rw [c_great R H, Option.bind_some, c_thick R H (by omega), Option.bind_some, c_least R H, Option.bind_some, c_thick R H (by omega), Option.bind_some]
  rfl
theorem l_rleast {r : RP} {h : Hp} (R : RR r h) (H : okP r) (j : Nat) : ∀ (k m : Nat), k + j = 11 → j < m → g_X8_least_4 4000 m (iN (lst r k)) (iN (k + 1)) h = some (iN (lst r 11), h) := by
  induction j with
  | zero =>
    intro k m ek hm
    obtain ⟨m, rfl⟩ : ∃ z, m = z + 1 := ⟨m - 1, by omega⟩
    obtain rfl : k = 11 := by omega
    rw [g_X8_least_4, if_pos (by decide)]
  | succ j ih =>
    intro k m ek hm
    obtain ⟨m, rfl⟩ : ∃ z, m = z + 1 := ⟨m - 1, by omega⟩
    have := lst_lt r k
    rw [g_X8_least_4, if_neg (i12 (by omega)), r_thick R H (by omega), Option.bind_some, r_thick R H (by omega), Option.bind_some]
    have e := ih (k + 1) m (by omega) (by omega)
    unfold lst at e
    by_cases c : thk r (lst r k) ≤ thk r (k + 1)
    · rw [if_pos c] at e; rw [if_pos c, g_X8_least_28, iN_add (by omega)]; exact e
    · rw [if_neg c] at e; rw [if_neg c, g_X8_least_28, iN_add (by omega)]; exact e
theorem r_least {r : RP} {h : Hp} (R : RR r h) (H : okP r) : g_X8_least 4000 h = some (iN (lst r 11), h) := l_rleast R H 11 0 4000 rfl (by omega)
theorem l_rgreat {r : RP} {h : Hp} (R : RR r h) (H : okP r) (j : Nat) : ∀ (k m : Nat), k + j = 11 → j < m → g_X8_greatest_4 4000 m (iN (gst r k)) (iN (k + 1)) h = some (iN (gst r 11), h) := by
  induction j with
  | zero =>
    intro k m ek hm
    obtain ⟨m, rfl⟩ : ∃ z, m = z + 1 := ⟨m - 1, by omega⟩
    obtain rfl : k = 11 := by omega
    rw [g_X8_greatest_4, if_pos (by decide)]
  | succ j ih =>
    intro k m ek hm
    obtain ⟨m, rfl⟩ : ∃ z, m = z + 1 := ⟨m - 1, by omega⟩
    have := gst_lt r k
    rw [g_X8_greatest_4, if_neg (i12 (by omega)), r_thick R H (by omega), Option.bind_some, r_thick R H (by omega), Option.bind_some]
    have e := ih (k + 1) m (by omega) (by omega)
    unfold gst at e
    by_cases c : thk r (k + 1) ≤ thk r (gst r k)
    · rw [if_pos c] at e; rw [if_pos c, g_X8_greatest_28, iN_add (by omega)]; exact e
    · rw [if_neg c] at e; rw [if_neg c, g_X8_greatest_28, iN_add (by omega)]; exact e
theorem r_great {r : RP} {h : Hp} (R : RR r h) (H : okP r) : g_X8_greatest 4000 h = some (iN (gst r 11), h) := l_rgreat R H 11 0 4000 rfl (by omega)
theorem r_spread {r : RP} {h : Hp} (R : RR r h) (H : okP r) : g_X8_spread 4000 h = some (spr r, h) := by
  have h1 := lst_lt r 11
  have h2 := gst_lt r 11
  unfold g_X8_spread g_X8_spread_0
  rw [r_great R H, Option.bind_some, r_thick R H (by omega), Option.bind_some, r_least R H, Option.bind_some, r_thick R H (by omega), Option.bind_some]
  rfl
/-- how many cells are cooked so -/
noncomputable def ckd (r : RP) (s w : Int32) : Nat → Int32
  | 0 => 0
  | n + 1 => ckd r s w n + (if (if thk r n ≤ s then (if 2 * thk r n ≤ s then (2 : Int32) else 1) else 0) ≠ w then 0 else 1)
theorem l_ccook {v : Nat} {r : RP} {h : Hp} (R : CR v r h) (H : okP r) (s w : Int32) (j : Nat) : ∀ (k m : Nat), k + j = 12 → j < m → g_X3_cooked_5 4000 m v s w (ckd r s w k) (iN k) h = some (ckd r s w 12, h) := by
  induction j with
  | zero =>
    intro k m ek hm
    obtain ⟨m, rfl⟩ : ∃ z, m = z + 1 := ⟨m - 1, by omega⟩
    obtain rfl : k = 12 := by omega
    rw [g_X3_cooked_5, if_pos i12e]
  | succ j ih =>
    intro k m ek hm
    obtain ⟨m, rfl⟩ : ∃ z, m = z + 1 := ⟨m - 1, by omega⟩
    have go : ∀ x : Int32, x = (if thk r k ≤ s then (if 2 * thk r k ≤ s then (2 : Int32) else 1) else 0) → g_X3_cooked_43 4000 (g_X3_cooked_5 4000 m) v s w (ckd r s w k) (iN k) x h = some (ckd r s w 12, h) := by
      intro x hx
      have e : ckd r s w (k + 1) = ckd r s w k + (if x ≠ w then 0 else 1) := by rw [hx]; rfl
      have i := ih (k + 1) m (by omega) (by omega)
      rw [g_X3_cooked_43]
      by_cases c : x ≠ w
      · rw [if_pos c, g_X3_cooked_54, iN_add (by omega)]; rw [e, if_pos c, Int32.add_zero] at i; exact i
      · rw [if_neg c, g_X3_cooked_54, iN_add (by omega)]; rw [e, if_neg c] at i; exact i
    rw [g_X3_cooked_5, if_neg (i12 (by omega)), c_thick R H (by omega), Option.bind_some]
    by_cases c : thk r k ≤ s
    · rw [if_pos c, c_thick R H (by omega), Option.bind_some]
      by_cases d : 2 * thk r k ≤ s
      · rw [if_pos d]; exact go 2 (by rw [if_pos c, if_pos d])
      · rw [if_neg d]; exact go 1 (by rw [if_pos c, if_neg d])
    · rw [if_neg c]; exact go 0 (by rw [if_neg c])
theorem c_cook {v : Nat} {r : RP} {h : Hp} (R : CR v r h) (H : okP r) (s w : Int32) : g_X3_cooked 4000 v s w h = some (ckd r s w 12, h) := l_ccook R H s w 12 0 4000 rfl (by omega)
theorem l_rcook {r : RP} {h : Hp} (R : RR r h) (H : okP r) (s w : Int32) (j : Nat) : ∀ (k m : Nat), k + j = 12 → j < m → g_X8_cooked_5 4000 m s w (ckd r s w k) (iN k) h = some (ckd r s w 12, h) := by
  induction j with
  | zero =>
    intro k m ek hm
    obtain ⟨m, rfl⟩ : ∃ z, m = z + 1 := ⟨m - 1, by omega⟩
    obtain rfl : k = 12 := by omega
    rw [g_X8_cooked_5, if_pos i12e]
  | succ j ih =>
    intro k m ek hm
    obtain ⟨m, rfl⟩ : ∃ z, m = z + 1 := ⟨m - 1, by omega⟩
    have go : ∀ x : Int32, x = (if thk r k ≤ s then (if 2 * thk r k ≤ s then (2 : Int32) else 1) else 0) → g_X8_cooked_43 4000 (g_X8_cooked_5 4000 m) s w (ckd r s w k) (iN k) x h = some (ckd r s w 12, h) := by
      intro x hx
      have e : ckd r s w (k + 1) = ckd r s w k + (if x ≠ w then 0 else 1) := by rw [hx]; rfl
      have i := ih (k + 1) m (by omega) (by omega)
      rw [g_X8_cooked_43]
      by_cases c : x ≠ w
      · rw [if_pos c, g_X8_cooked_57, iN_add (by omega)]; rw [e, if_pos c] at i; exact i
      · rw [if_neg c, g_X8_cooked_57, iN_add (by omega)]; rw [e, if_neg c] at i; exact i
    rw [g_X8_cooked_5, if_neg (i12 (by omega)), r_thick R H (by omega), Option.bind_some]
    by_cases c : thk r k ≤ s
    · rw [if_pos c]
      by_cases d : 2 * thk r k ≤ s
      · rw [if_pos d]; exact go 2 (by rw [if_pos c, if_pos d])
      · rw [if_neg d]; exact go 1 (by rw [if_pos c, if_neg d])
    · rw [if_neg c]; exact go 0 (by rw [if_neg c])
theorem r_cook {r : RP} {h : Hp} (R : RR r h) (H : okP r) (s w : Int32) : g_X8_cooked 4000 s w h = some (ckd r s w 12, h) := l_rcook R H s w 12 0 4000 rfl (by omega)
/-- the first cell that is more off -/
noncomputable def fof (r : RP) (row : Nat → Int32) (off : Int32) : Nat → Nat → Int32
  | 0, _ => -1
  | j + 1, k => if Int32.toInt64 off < Int32.toInt64 (thk r k) - Int32.toInt64 (row k) then iN k else if -(Int32.toInt64 (thk r k) - Int32.toInt64 (row k)) ≤ Int32.toInt64 off then fof r row off j (k + 1) else iN k
theorem l_roff {r : RP} {h : Hp} (R : RR r h) (H : okP r) {s : Nat} (hs : s < 4) {row : Nat → Int32} (hr : ∀ i, i < 12 → gI h 109 (40 * s + i) = row i) (off : Int32) (j : Nat) : ∀ (k m : Nat), k + j = 12 → j < m → g_X8_offFrom_2 4000 m (iN s) off (iN k) h = some (fof r row off j k, h) := by
  induction j with
  | zero =>
    intro k m ek hm
    obtain ⟨m, rfl⟩ : ∃ z, m = z + 1 := ⟨m - 1, by omega⟩
    obtain rfl : k = 12 := by omega
    rw [g_X8_offFrom_2, if_pos i12e]; rfl
  | succ j ih =>
    intro k m ek hm
    obtain ⟨m, rfl⟩ : ∃ z, m = z + 1 := ⟨m - 1, by omega⟩
    obtain ⟨m1, m2, m3⟩ := m40 (k := k) hs (by omega)
    rw [g_X8_offFrom_2, if_neg (i12 (by omega)), r_thick R H (by omega), Option.bind_some, m1, if_pos m2, m3, hr k (by omega), g_X8_offFrom_29]
    unfold fof
    by_cases c : Int32.toInt64 off < Int32.toInt64 (thk r k) - Int32.toInt64 (row k)
    · rw [if_pos c, if_pos c]
    · rw [if_neg c, if_neg c]
      by_cases d : -(Int32.toInt64 (thk r k) - Int32.toInt64 (row k)) ≤ Int32.toInt64 off
      · rw [if_pos d, if_pos d, iN_add (by omega)]
        exact ih (k + 1) m (by omega) (by omega)
      · rw [if_neg d, if_neg d]
theorem r_off {r : RP} {h : Hp} (R : RR r h) (H : okP r) {s : Nat} (hs : s < 4) {row : Nat → Int32} (hr : ∀ i, i < 12 → gI h 109 (40 * s + i) = row i) (off : Int32) : g_X8_offFrom 4000 (iN s) off h = some (fof r row off 12 0, h) := l_roff R H hs hr off 12 0 4000 rfl (by omega)
theorem l_coff {v : Nat} {r : RP} {h : Hp} (R : CR v r h) (H : okP r) {s : Nat} {row : Nat → Int32} (hr : ∀ i, i < 12 → gI h (73 + 2 * s) i = row i) {off : Int32} (ho : 0 ≤ off.toInt) (j : Nat) : ∀ (k m : Nat), k + j = 12 → j < m → g_X3_firstOff_2 4000 m v (72 + 2 * s) off (iN k) h = some (fof r row off j k, h) := by
  induction j with
  | zero =>
    intro k m ek hm
    obtain ⟨m, rfl⟩ : ∃ z, m = z + 1 := ⟨m - 1, by omega⟩
    obtain rfl : k = 12 := by omega
    rw [g_X3_firstOff_2, if_pos i12e]; rfl
  | succ j ih =>
    intro k m ek hm
    obtain ⟨m, rfl⟩ : ∃ z, m = z + 1 := ⟨m - 1, by omega⟩
    rw [g_X3_firstOff_2, if_neg (i12 (by omega)), c_thick R H (by omega), Option.bind_some, if_pos (iN_inb (by omega) (by decide)), iN_ix (by omega), show 72 + 2 * s + 1 = 73 + 2 * s by omega, hr k (by omega), g_X3_firstOff_24]
    unfold fof
    have a1 := (thk r k).toInt_lt
    have a2 := (thk r k).le_toInt
    have a3 := (row k).toInt_lt
    have a4 := (row k).le_toInt
    have a5 := off.toInt_lt
    have ed : (Int32.toInt64 (thk r k) - Int32.toInt64 (row k)).toInt = (thk r k).toInt - (row k).toInt := by
      rw [tds] <;> rw [tw, tw] <;> omega
    have en : (-(Int32.toInt64 (thk r k) - Int32.toInt64 (row k))).toInt = (row k).toInt - (thk r k).toInt := by
      rw [Int64.toInt_neg, ed, bm64] <;> omega
    by_cases c : Int32.toInt64 off < Int32.toInt64 (thk r k) - Int32.toInt64 (row k)
    · rw [if_pos c, if_pos c]
    · rw [if_neg c, if_neg c]
      have hiff : (Int32.toInt64 (-off) ≤ Int32.toInt64 (thk r k) - Int32.toInt64 (row k)) ↔ (-(Int32.toInt64 (thk r k) - Int32.toInt64 (row k)) ≤ Int32.toInt64 off) := by
        rw [le64, le64, ed, en, tw, tw, tn (by omega)]
        omega
      by_cases d : -(Int32.toInt64 (thk r k) - Int32.toInt64 (row k)) ≤ Int32.toInt64 off
      · rw [if_pos (hiff.mpr d), if_pos d, iN_add (by omega)]
        exact ih (k + 1) m (by omega) (by omega)
      · rw [if_neg (fun z => d (hiff.mp z)), if_neg d]
theorem c_off {v : Nat} {r : RP} {h : Hp} (R : CR v r h) (H : okP r) {s : Nat} {row : Nat → Int32} (hr : ∀ i, i < 12 → gI h (73 + 2 * s) i = row i) {off : Int32} (ho : 0 ≤ off.toInt) : g_X3_firstOff 4000 v (72 + 2 * s) off h = some (fof r row off 12 0, h) := l_coff R H hr ho 12 0 4000 rfl (by omega)
theorem c_told {v : Nat} {r : RP} {h : Hp} (R : CR v r h) (H : okP r) {s : Nat} {row : Nat → Int32} (hr : ∀ i, i < 12 → gI h (73 + 2 * s) i = row i) : g_X3_isAsTold 4000 v (72 + 2 * s) h = some (if fof r row 0 12 0 ≠ -1 then 0 else 1, h) := by
  unfold g_X3_isAsTold g_X3_isAsTold_0
  rw [c_off R H hr (by decide), Option.bind_some]
  by_cases c : fof r row 0 12 0 ≠ -1
  · rw [if_pos c, if_pos c]
  · rw [if_neg c, if_neg c]
/-! WHAT BOTH STAND ON when a rope is made -/
noncomputable def EN (σ : SS) (T : Nat → List Int32) (M Ln : Nat → Int32) (w wm : Int32) (t : Nat) (h : Hp) : Prop :=
  okS σ ∧ CS σ h ∧ RS σ h ∧ okT T ∧ t < 6 ∧ TxC t T h ∧ TxR t T h ∧ DG 17 M Ln w wm t h ∧ (∀ i, i < 12 → gI h 97 i = M i ∧ gI h 98 i = Ln i) ∧ gI h 96 2 = w ∧ gI h 96 4 = wm ∧ gI h 96 14 = iN t ∧ gI h 96 45 = 0 ∧
  (∀ c, c < 12 → 0 ≤ (M c).toInt ∧ (M c).toInt ≤ 99999) ∧ (∀ c, c < 12 → 1 ≤ (Ln c).toInt ∧ (Ln c).toInt ≤ 1000000) ∧ 0 ≤ wm.toInt ∧ wm.toInt ≤ 9
theorem EN_fr {σ : SS} {T : Nat → List Int32} {M Ln : Nat → Int32} {w wm : Int32} {t : Nat} {h h1 : Hp} (f : Fr SX h h1) (E : EN σ T M Ln w wm t h) : EN σ T M Ln w wm t h1 := by
  obtain ⟨a1, a2, a3, a4, a5, a6, a7, a8, a9, a10, a11, a12, a13, a14⟩ := E
  have g : ∀ a k, ¬ SX a k → gI h1 a k = gI h a k := fun a k c => f.i c
  refine ⟨a1, CS_fr f (fun a k => by unfold Scs SX; omega) a2, RS_fr f (fun a k => by unfold Srs SX; omega) a3, a4, a5, TxC_c (fun a k q => g a k (by unfold SX; omega)) a6, TxR_c (fun a k q => g a k (by unfold SX; omega)) a4 a7, ⟨fun i hi => ?_, ?_, ?_, ?_⟩, fun i hi => ?_, ?_, ?_, ?_, ?_, a14⟩
  · rw [g _ _ (by unfold SX; omega), g _ _ (by unfold SX; omega)]; exact a8.1 i hi
  · rw [g _ _ (by unfold SX; omega)]; exact a8.2.1
  · rw [g _ _ (by unfold SX; omega)]; exact a8.2.2.1
  · rw [g _ _ (by unfold SX; omega)]; exact a8.2.2.2
  · rw [g _ _ (by unfold SX; omega), g _ _ (by unfold SX; omega)]; exact a9 i hi
  · rw [g _ _ (by unfold SX; omega)]; exact a10
  · rw [g _ _ (by unfold SX; omega)]; exact a11
  · rw [g _ _ (by unfold SX; omega)]; exact a12
  · rw [g _ _ (by unfold SX; omega)]; exact a13
theorem EN_of {L : Nat} {h : Hp} (R : Rel L h) : ∃ σ T M Ln w wm t, EN σ T M Ln w wm t h := by
  obtain ⟨r1, r2, r3, r4, r5, r6, r7, r8, r9⟩ := R
  obtain ⟨σ, O, C, D⟩ := RSt_s.mp r5
  obtain ⟨t, ht, e⟩ := iex (n := 6) (by decide) r3.2.2.2.2.1 (by have a := r3.2.2.2.2.2; have b := r3.2.2.2.1; show gI h 96 14 < 6; lia)
  obtain ⟨T, o1, o2, o3⟩ := r7 t ht (by rw [← e]; exact r3.2.2.2.2.2)
  refine ⟨σ, T, gI h 97, gI h 98, gI h 96 2, gI h 96 4, t, O, C, D, o1, ht, o2, o3, ⟨fun i hi => ⟨(r1 i hi).1, (r1 i hi).2.2.2.1⟩, r2.1, r2.2.2.1, r3.1.trans e⟩, fun i hi => ⟨rfl, rfl⟩, rfl, rfl, e, r9.2.1, fun c hc => ?_, fun c hc => ?_, ?_, ?_⟩
  · have a := le32.mp (r1 c hc).2.1
    have b := le32.mp (r1 c hc).2.2.1
    rw [k_1] at a; rw [show (99999 : Int32).toInt = 99999 from rfl] at b
    omega
  · have a := le32.mp (r1 c hc).2.2.2.2.1
    have b := le32.mp (r1 c hc).2.2.2.2.2
    rw [k_1] at a; rw [show (999 : Int32).toInt = 999 from rfl] at b
    omega
  · exact le32.mp r2.2.2.2.2.2.2.2.1
  · exact le32.mp r2.2.2.2.2.2.2.2.2
theorem SM_SX {a k : Nat} (h : SM a k) : SX a k := by unfold SM isStk at h; unfold SX; omega
theorem SR_SX {a k : Nat} (h : SR a k) : SX a k := by unfold SR at h; unfold SX; omega
theorem SCr_SX {v : Nat} (hv : ok82 v) {a k : Nat} (h : SCr v a k) : SX a k := by unfold SCr isStk at h; unfold SX; omega
/-- the rope that both make -/
noncomputable abbrev gr0 (σ : SS) (T : Nat → List Int32) (M Ln : Nat → Int32) (w wm but : Int32) (N : Nat) : RP := sGo (0, T, w, wm) σ M Ln 0 but N
theorem EN_ok {σ : SS} {T : Nat → List Int32} {M Ln : Nat → Int32} {w wm : Int32} {t : Nat} {h : Hp} (E : EN σ T M Ln w wm t h) (md : Nat) (lot : Int64) (but : Int32) {N : Nat} (hN : N ≤ 12) (hN2 : ∀ k, k < N → iN k < σ.1) : okP (sGo (md, T, w, wm) σ M Ln lot but N) :=
  okP_go E.1 (fun c hc => by have := E.2.2.2.2.2.2.2.2.2.2.2.2.2.1 c hc; omega) E.2.2.2.2.2.2.2.2.2.2.2.2.2.2.1 E.2.2.2.2.2.2.2.2.2.2.2.2.2.2.2 lot but N hN hN2
theorem mkC {σ : SS} {T : Nat → List Int32} {M Ln : Nat → Int32} {w wm : Int32} {t : Nat} {h : Hp} (E : EN σ T M Ln w wm t h) (but : Int32) {N : Nat} (hN : N ≤ 12) (hN2 : ∀ k, k < N → iN k < σ.1) : ∃ h1, g_X7_make 4000 17 (iN N) but (-1) h = some h1 ∧ CR 82 (gr0 σ T M Ln w wm but N) h1 ∧ CE (0, T, w, wm) h1 ∧ Fr SX h h1 := by
  obtain ⟨a1, a2, a3, a4, a5, a6, a7, a8, a9, a10, a11, a12, a13, a14, a15, a16⟩ := E
  obtain ⟨h1, b1, b2, b3, b4, b5⟩ := c_go (T := T) (by omega) a1 (fun c hc => by have := a14 c hc; omega) a15 a16 a8 a5 a4 a6 a2 but (-1) 0 (Or.inl ⟨rfl, rfl⟩) hN hN2
  exact ⟨h1, b1, b2, b3, b5.mono (fun a k z => SM_SX z)⟩
theorem EN_RE {σ : SS} {T : Nat → List Int32} {M Ln : Nat → Int32} {w wm : Int32} {t : Nat} {h : Hp} (E : EN σ T M Ln w wm t h) : RE (0, T, w, wm) h := by
  obtain ⟨a1, a2, a3, a4, a5, a6, a7, a8, a9, a10, a11, a12, a13, a14, a15, a16⟩ := E
  exact ⟨Or.inl ⟨rfl, a13⟩, a10, a11, a4, t, a5, a12, a7⟩
theorem mkRf {σ : SS} {T : Nat → List Int32} {M Ln : Nat → Int32} {w wm : Int32} {t : Nat} {h : Hp} (E : EN σ T M Ln w wm t h) (but : Int32) {N : Nat} (hN : N ≤ 12) (hN2 : ∀ k, k < N → iN k < σ.1) : ∃ h1, g_X8_goesBut 4000 (iN N) but h = some h1 ∧ RR (gr0 σ T M Ln w wm but N) h1 ∧ RE (0, T, w, wm) h1 ∧ Fr SX h h1 := by
  have E' := EN_RE E
  obtain ⟨a1, a2, a3, a4, a5, a6, a7, a8, a9, a10, a11, a12, a13, a14, a15, a16⟩ := E
  obtain ⟨h1, b1, b2, b3, b5⟩ := r_go (e := (0, T, w, wm)) (lot := 0) a1 (fun c hc => by have := a14 c hc; omega) a15 a16 E' (fun z => absurd rfl z) a3 a9 but hN hN2
  exact ⟨h1, b1, b2, RE_fr b5 E', b5.mono (fun a k z => SR_SX z)⟩
theorem mkG {σ : SS} {T : Nat → List Int32} {M Ln : Nat → Int32} {w wm : Int32} {t : Nat} {h : Hp} (E : EN σ T M Ln w wm t h) {N : Nat} (hN : N ≤ 12) (hN2 : ∀ k, k < N → iN k < σ.1) : ∃ h1, g_X8_goes 4000 (iN N) h = some h1 ∧ RR (gr0 σ T M Ln w wm (-1) N) h1 ∧ RE (0, T, w, wm) h1 ∧ Fr SX h h1 := by
  obtain ⟨h1, b1, b2, b3, b4⟩ := mkRf E (-1) hN hN2
  exact ⟨h1, r_goes b1, b2, b3, b4⟩
theorem cAre {σ : SS} {T : Nat → List Int32} {M Ln : Nat → Int32} {w wm : Int32} {t : Nat} {h : Hp} (E : EN σ T M Ln w wm t h) (v : Int32) : g_X7_areSteps v h = if 0 ≤ v ∧ v ≤ σ.1 then some (1, h) else some (0, h) := by
  have a := E.1.2.1
  have b := E.2.1.1
  simp only [g_X7_areSteps_0, g_X7_areSteps, wC, b]
  by_cases c : 0 ≤ v ∧ v ≤ σ.1
  · rw [if_pos c, Option.bind_some]
    simp [show ¬ 12 < v by have := c.2; lia]
  · rw [if_neg c]; simp
theorem rAre {σ : SS} {T : Nat → List Int32} {M Ln : Nat → Int32} {w wm : Int32} {t : Nat} {h : Hp} (E : EN σ T M Ln w wm t h) (v : Int32) : g_X8_areSteps v h = if 0 ≤ v ∧ v ≤ σ.1 then some (1, h) else some (0, h) := by
  have b := E.2.2.1.1
  simp only [g_X8_areSteps_0, g_X8_areSteps, wI, b]
  by_cases c : 0 ≤ v ∧ v ≤ σ.1
  · rw [if_pos c]; simp
  · rw [if_neg c]; simp
theorem nOf {σ : SS} (O : okS σ) {v : Int32} (c : 0 ≤ v ∧ v ≤ σ.1) : ∃ N, N ≤ 12 ∧ v = iN N ∧ ∀ k, k < N → iN k < σ.1 := by
  obtain ⟨N, hN, rfl⟩ := iex (n := 13) (by decide) c.1 (by have a := c.2; have b := O.2.1; show v < 13; lia)
  refine ⟨N, by omega, rfl, fun k hk => ?_⟩
  have : iN k < iN N := by rw [iN_lt (by omega) (by omega)]; exact hk
  have := c.2
  lia
