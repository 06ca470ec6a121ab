/-! THE REFERENCE reads a token -/
noncomputable def TPr (B : Nat → Int32) (n : Nat) (h : Hp) : Prop := gI h 96 10 = iN n ∧ (∀ k, k < n → gI h 102 k = B k) ∧ ∀ k, k < 96 → gI h 111 k = wordsT.getD k 0
noncomputable abbrev S96 (a k : Nat) : Prop := a = 96 ∧ 26 ≤ k ∧ k ≤ 29
theorem TPr_fr {B : Nat → Int32} {n : Nat} {S : Nat → Nat → Prop} {h h1 : Hp} (f : Fr S h h1) (hS : ∀ a k, ((a = 96 ∧ k = 10) ∨ a = 102 ∨ a = 111) → ¬ S a k) (H : TPr B n h) : TPr B n h1 :=
  ⟨by rw [f.i (hS _ _ (Or.inl ⟨rfl, rfl⟩))]; exact H.1, fun k hk => by rw [f.i (hS _ _ (Or.inr (Or.inl rfl)))]; exact H.2.1 k hk, fun k hk => by rw [f.i (hS _ _ (Or.inr (Or.inr rfl)))]; exact H.2.2 k hk⟩
noncomputable def rkd (k : Int32) : Int32 := if k = 0 then 0 else if k = 1 then -1 else if k = 2 then 1 else if k = 3 then 2 else if 10 ≤ k ∧ k ≤ 12 then 3 else if 13 ≤ k ∧ k ≤ 15 then k - 9 else k
noncomputable def RAt (B : Nat → Int32) (n p : Nat) (h : Hp) : Prop := gI h 96 26 = iN (en B n p) ∧ gI h 96 27 = iN (st B n p) ∧ gI h 96 28 = rkd (kd B n p) ∧ (kd B n p = 2 ∨ kd B n p = 3 → gI h 96 29 = vl B n p) ∧ (10 ≤ kd B n p ∧ kd B n p ≤ 12 → gI h 96 29 = kd B n p - 10)
theorem l_rskip {B : Nat → Int32} {n : Nat} (O : okB2 B n) (j : Nat) : ∀ (p m : Nat) (h : Hp), p + j = 160 → j < m → p ≤ n → TPr B n h → gI h 96 26 = iN p → ∃ h', g_X8_next_0 4000 m h = g_X8_next_52 4000 h' ∧ gI h' 96 26 = iN (rn B n isBk j p) ∧ Fr S96 h h' := by
  have h160 := O.1
  induction j with
  | zero =>
    intro p m h e hm hp H q
    obtain ⟨m, rfl⟩ : ∃ z, m = z + 1 := ⟨m - 1, by omega⟩
    refine ⟨h, ?_, q, Fr.rfl' _ _⟩
    rw [g_X8_next_0, q, H.1, if_pos (by rw [iN_le (by omega) (by omega)]; omega)]
  | succ j ih =>
    intro p m h e hm hp H q
    obtain ⟨m, rfl⟩ : ∃ z, m = z + 1 := ⟨m - 1, by omega⟩
    rw [g_X8_next_0, q, H.1]
    unfold rn
    by_cases c : p < n
    · rw [if_neg (by rw [iN_le (by omega) (by omega)]; omega), if_pos (iN_inb (by omega) (by decide)), iN_ix (by omega), H.2.1 p c]
      have f0 : Fr S96 h (hsi h 96 26 (iN (p + 1))) := (Fr.rfl' _ _).si _ (by omega)
      have go : isBk (B p) = true → ∃ h', g_X8_next_39 4000 (g_X8_next_0 4000 m) h = g_X8_next_52 4000 h' ∧ gI h' 96 26 = iN (if p < n ∧ isBk (B p) = true then rn B n isBk j (p + 1) else p) ∧ Fr S96 h h' := by
        intro z
        rw [if_pos ⟨c, z⟩]
        unfold g_X8_next_39
        rw [q, iN_add (by omega)]
        obtain ⟨h2, a, b, f⟩ := ih (p + 1) m (hsi h 96 26 (iN (p + 1))) (by omega) (by omega) (by omega) (TPr_fr f0 (fun a k => by omega) H) (by rw [gI_hsi, if_pos ⟨rfl, rfl⟩])
        exact ⟨h2, a, b, f0.tr f⟩
      by_cases c32 : B p = 32
      · rw [if_pos c32]; exact go (by rw [c32]; decide)
      · by_cases c10 : B p = 10
        · rw [if_neg c32, if_neg (fun w => w c10)]; exact go (by rw [c10]; decide)
        · rw [if_neg c32, if_pos c10]
          refine ⟨h, rfl, ?_, Fr.rfl' _ _⟩
          rw [if_neg (fun z => ?_)]
          · exact q
          · have zz := z.2
            unfold isBk at zz
            rw [Bool.or_eq_true, beq_iff_eq, beq_iff_eq] at zz
            exact zz.elim c32 c10
    · rw [if_pos (by rw [iN_le (by omega) (by omega)]; omega), if_neg (fun z => c z.1)]
      exact ⟨h, rfl, q, Fr.rfl' _ _⟩
theorem r_let (c : Int32) (h : Hp) : g_X8_in c 97 122 h = some (if isLt c = true then 1 else 0, h) := by
  rw [wI]; unfold isLt
  by_cases q : 97 ≤ c ∧ c ≤ 122
  · rw [if_pos q, if_pos (decide_eq_true q)]
  · rw [if_neg q, if_neg (by rw [decide_eq_true_eq]; exact q)]
theorem r_dig (c : Int32) (h : Hp) : g_X8_in c 48 57 h = some (if isDg c = true then 1 else 0, h) := by
  rw [wI]; unfold isDg
  by_cases q : 48 ≤ c ∧ c ≤ 57
  · rw [if_pos q, if_pos (decide_eq_true q)]
  · rw [if_neg q, if_neg (by rw [decide_eq_true_eq]; exact q)]
theorem l_rw26 {B : Nat → Int32} {n s e w : Nat} {h : Hp} (O : okB2 B n) (H : TPr B n h) (hw : w < 12) (hs : s ≤ e) (he : e ≤ n) (h8 : e - s ≤ 8) (K : Int32 → Int32 → Int32 → Hp → Option (Int32 × Hp)) (j : Nat) : ∀ (i m : Nat), i + j = 8 → j < m → (∀ q, q < i → wordsT.getD (8 * w + q) 0 = (if s + q < e then B (s + q) else 32)) → g_X8_wordFrom_26 4000 K m (iN s) (iN e) (iN w) 1 (iN i) h = if mw B w s e = true then some (iN w, h) else K (iN s) (iN e) (iN w + 1) h := by
  have h160 := O.1
  induction j with
  | zero =>
    intro i m ei hm hq
    obtain ⟨m, rfl⟩ : ∃ z, m = z + 1 := ⟨m - 1, by omega⟩
    obtain rfl : i = 8 := by omega
    rw [g_X8_wordFrom_26, if_pos (by decide), g_X8_wordFrom_88, if_neg (by decide), if_pos (mw_iff.mpr ⟨h8, hq⟩)]
  | succ j ih =>
    intro i m ei hm hq
    obtain ⟨m, rfl⟩ : ∃ z, m = z + 1 := ⟨m - 1, by omega⟩
    have e1 : 8 * iN w + iN i = iN (8 * w + i) := by
      rw [show (8 : Int32) = iN 8 from rfl, mul_iN (by omega) (by omega) (by omega), add_iN (by omega) (by omega)]
    have o8 : ¬ (8 : Int32) ≤ iN i := by rw [show (8 : Int32) = iN 8 from rfl, iN_le (by omega) (by omega)]; omega
    have fin : ∀ x, x = (if s + i < e then B (s + i) else 32) → g_X8_wordFrom_72 4000 K (g_X8_wordFrom_26 4000 K m) (iN s) (iN e) (iN w) (iN i) (wordsT.getD (8 * w + i) 0) x h = if mw B w s e = true then some (iN w, h) else K (iN s) (iN e) (iN w + 1) h := by
      intro x hx
      unfold g_X8_wordFrom_72 g_X8_wordFrom_80
      rw [iN_add (by omega)]
      by_cases c : wordsT.getD (8 * w + i) 0 = x
      · rw [if_neg (fun z => z c)]
        refine ih (i + 1) m (by omega) (by omega) (fun q hq' => ?_)
        by_cases d : q = i
        · rw [d, c, hx]
        · exact hq q (by omega)
      · rw [if_pos c, if_neg (fun z => c (by rw [hx]; exact (mw_iff.mp z).2 i (by omega)))]
        obtain ⟨m, rfl⟩ : ∃ z, m = z + 1 := ⟨m - 1, by omega⟩
        rw [g_X8_wordFrom_26]
        by_cases d : (8 : Int32) ≤ iN (i + 1)
        · rw [if_pos d, g_X8_wordFrom_88, if_pos rfl]
        · rw [if_neg d, if_pos rfl, g_X8_wordFrom_88, if_pos rfl]
    rw [g_X8_wordFrom_26, if_neg o8, if_neg (by decide), e1, if_pos (iN_inb (by omega) (by decide)), iN_ix (by omega), H.2.2 _ (by omega), add_iN (by omega) (by omega)]
    by_cases c : s + i < e
    · rw [if_neg (by rw [iN_le (by omega) (by omega)]; omega), if_pos (iN_inb (by omega) (by decide)), iN_ix (by omega), H.2.1 _ (by omega)]
      exact fin _ (by rw [if_pos c])
    · rw [if_pos (by rw [iN_le (by omega) (by omega)]; omega)]
      exact fin _ (by rw [if_neg c])
theorem l_rword {B : Nat → Int32} {n s e : Nat} {h : Hp} (O : okB2 B n) (H : TPr B n h) (hs : s ≤ e) (he : e ≤ n) (j : Nat) : ∀ (w m : Nat), w + j = 12 → j < m → g_X8_wordFrom_2 4000 m (iN s) (iN e) (iN w) h = some (iN (fw B s e j w), h) := by
  have h160 := O.1
  induction j with
  | zero =>
    intro w m ew hm
    obtain ⟨m, rfl⟩ : ∃ z, m = z + 1 := ⟨m - 1, by omega⟩
    obtain rfl : w = 12 := by omega
    rw [g_X8_wordFrom_2, if_pos i12e]; rfl
  | succ j ih =>
    intro w m ew hm
    obtain ⟨m, rfl⟩ : ∃ z, m = z + 1 := ⟨m - 1, by omega⟩
    have cond : (8 < iN e - iN s) ↔ 8 < e - s := by
      have e1 : (iN e - iN s).toInt = (e : Int) - (s : Int) := by
        rw [ts] <;> rw [iN_t (by omega), iN_t (by omega)] <;> omega
      rw [Int32.lt_iff_toInt_lt, e1, show (8 : Int32).toInt = 8 from rfl]; omega
    have nx := ih (w + 1) m (by omega) (by omega)
    rw [g_X8_wordFrom_2, if_neg (i12 (by omega))]
    unfold g_X8_wordFrom_21 fw
    by_cases c : 8 < e - s
    · rw [if_pos (cond.mpr c), if_neg (fun z => by have := (mw_iff.mp z).1; omega), g_X8_wordFrom_26, if_neg (by decide), if_pos rfl, g_X8_wordFrom_88, if_pos rfl, iN_add (by omega)]
      exact nx
    · rw [if_neg (fun z => c (cond.mp z))]
      have := l_rw26 O H (w := w) (by omega) hs he (by omega) (g_X8_wordFrom_2 4000 m) 8 0 4000 rfl (by omega) (fun q hq => by omega)
      have e0 : iN 0 = (0 : Int32) := rfl
      rw [e0] at this
      rw [this]
      by_cases d : mw B w s e = true
      · rw [if_pos d, if_pos d]
      · rw [if_neg d, if_neg d, iN_add (by omega)]; exact nx
theorem l_rlet {B : Nat → Int32} {n : Nat} (O : okB2 B n) (j : Nat) : ∀ (p m : Nat) (h : Hp), p + j = 160 → j < m → p ≤ n → TPr B n h → gI h 96 26 = iN p → ∃ h', g_X8_next_103 4000 m h = g_X8_next_146 4000 h' ∧ gI h' 96 26 = iN (rn B n isLt j p) ∧ Fr (fun a k => a = 96 ∧ k = 26) h h' := by
  have h160 := O.1
  induction j with
  | zero =>
    intro p m h e hm hp H q
    obtain ⟨m, rfl⟩ : ∃ z, m = z + 1 := ⟨m - 1, by omega⟩
    refine ⟨h, ?_, q, Fr.rfl' _ _⟩
    rw [g_X8_next_103, q, H.1, if_pos (by rw [iN_le (by omega) (by omega)]; omega)]
  | succ j ih =>
    intro p m h e hm hp H q
    obtain ⟨m, rfl⟩ : ∃ z, m = z + 1 := ⟨m - 1, by omega⟩
    rw [g_X8_next_103, q, H.1]
    unfold rn
    by_cases c : p < n
    · rw [if_neg (by rw [iN_le (by omega) (by omega)]; omega), if_pos (iN_inb (by omega) (by decide)), iN_ix (by omega), H.2.1 p c, r_let, Option.bind_some]
      by_cases d : isLt (B p) = true
      · rw [if_pos d, if_neg (fun e => absurd e (show ¬ (1 : Int32) = 0 by decide)), if_pos ⟨c, d⟩]
        dsimp only
        rw [q, iN_add (by omega)]
        have f0 : Fr (fun a k => a = 96 ∧ k = 26) h (hsi h 96 26 (iN (p + 1))) := (Fr.rfl' _ _).si _ (by omega)
        obtain ⟨h2, a, b, f⟩ := ih (p + 1) m (hsi h 96 26 (iN (p + 1))) (by omega) (by omega) (by omega) (TPr_fr f0 (fun a k => by omega) H) (by rw [gI_hsi, if_pos ⟨rfl, rfl⟩])
        exact ⟨h2, a, b, f0.tr f⟩
      · rw [if_neg d, if_pos rfl, if_neg (fun z => d z.2)]
        exact ⟨h, rfl, q, Fr.rfl' _ _⟩
    · rw [if_pos (by rw [iN_le (by omega) (by omega)]; omega), if_neg (fun z => c z.1)]
      exact ⟨h, rfl, q, Fr.rfl' _ _⟩
theorem l_rnum {B : Nat → Int32} {n s : Nat} {V : Int32} (O : okB2 B n) (j : Nat) : ∀ (p m : Nat) (h : Hp), p + j = 160 → j < m → s ≤ p → p ≤ n → TPr B n h → gI h 96 26 = iN p → (rn B n isDg j p - s ≤ 4 → numv B (rn B n isDg j p - p) p (gI h 96 29) = V) → ∃ h', g_X8_next_230 4000 m (iN (p - s)) h = some h' ∧ gI h' 96 26 = iN (rn B n isDg j p) ∧ gI h' 96 28 = (if rn B n isDg j p - s ≤ 4 then 1 else -1) ∧ gI h' 96 27 = gI h 96 27 ∧ (rn B n isDg j p - s ≤ 4 → gI h' 96 29 = V) ∧ Fr S96 h h' := by
  have h160 := O.1
  have fin : ∀ (p : Nat) (h : Hp), s ≤ p → p ≤ n → gI h 96 26 = iN p → (p - s ≤ 4 → numv B (p - p) p (gI h 96 29) = V) → ∃ h', g_X8_next_309 4000 (iN (p - s)) h = some h' ∧ gI h' 96 26 = iN p ∧ gI h' 96 28 = (if p - s ≤ 4 then 1 else -1) ∧ gI h' 96 27 = gI h 96 27 ∧ (p - s ≤ 4 → gI h' 96 29 = V) ∧ Fr S96 h h' := by
    intro p h h1 h2 q hV
    have cond : (iN (p - s) ≤ 4) ↔ p - s ≤ 4 := by rw [show (4 : Int32) = iN 4 from rfl, iN_le (by omega) (by omega)]
    unfold g_X8_next_309 g_X8_next_320
    by_cases c : p - s ≤ 4
    · rw [if_pos (cond.mpr c), if_pos c]
      refine ⟨_, rfl, ?_, ?_, ?_, fun _ => ?_, (Fr.rfl' _ _).si _ (by omega)⟩
      · rw [gI_hsi, if_neg (by omega)]; exact q
      · rw [gI_hsi, if_pos ⟨rfl, rfl⟩]
      · rw [gI_hsi, if_neg (by omega)]
      · rw [gI_hsi, if_neg (by omega)]
        have := hV c
        rw [Nat.sub_self] at this
        exact this
    · rw [if_neg (fun z => c (cond.mp z)), if_neg c]
      refine ⟨_, rfl, ?_, ?_, ?_, fun z => absurd z c, (Fr.rfl' _ _).si _ (by omega)⟩
      · rw [gI_hsi, if_neg (by omega)]; exact q
      · rw [gI_hsi, if_pos ⟨rfl, rfl⟩]
      · rw [gI_hsi, if_neg (by omega)]
  induction j with
  | zero =>
    intro p m h e hm hs hp H q hV
    obtain ⟨m, rfl⟩ : ∃ z, m = z + 1 := ⟨m - 1, by omega⟩
    obtain ⟨h', a⟩ := fin p h hs hp q hV
    refine ⟨h', ?_, a.2⟩
    rw [g_X8_next_230, q, H.1, if_pos (by rw [iN_le (by omega) (by omega)]; omega)]
    exact a.1
  | succ j ih =>
    intro p m h e hm hs hp H q hV
    obtain ⟨m, rfl⟩ : ∃ z, m = z + 1 := ⟨m - 1, by omega⟩
    rw [g_X8_next_230, q, H.1]
    by_cases c : p < n
    case neg =>
      have er : rn B n isDg (j + 1) p = p := by rw [rn, if_neg (fun z => c z.1)]
      rw [er] at hV ⊢
      rw [if_pos (by rw [iN_le (by omega) (by omega)]; omega)]
      exact fin p h hs hp q hV
    rw [if_neg (by rw [iN_le (by omega) (by omega)]; omega), if_pos (iN_inb (by omega) (by decide)), iN_ix (by omega), H.2.1 p c, r_dig, Option.bind_some]
    by_cases d : isDg (B p) = true
    · have er : rn B n isDg (j + 1) p = rn B n isDg j (p + 1) := by rw [rn, if_pos ⟨c, d⟩]
      rw [er] at hV ⊢
      have hl := rn_b (B := B) (n := n) (Q := isDg) j (p + 1) c
      rw [if_pos d, if_neg (fun e => absurd e (show ¬ (1 : Int32) = 0 by decide))]
      have go : ∀ v2, (rn B n isDg j (p + 1) - s ≤ 4 → numv B (rn B n isDg j (p + 1) - (p + 1)) (p + 1) v2 = V) → ∃ h', g_X8_next_290 4000 (g_X8_next_230 4000 m) (iN (p - s)) v2 h = some h' ∧ gI h' 96 26 = iN (rn B n isDg j (p + 1)) ∧ gI h' 96 28 = (if rn B n isDg j (p + 1) - s ≤ 4 then 1 else -1) ∧ gI h' 96 27 = gI h 96 27 ∧ (rn B n isDg j (p + 1) - s ≤ 4 → gI h' 96 29 = V) ∧ Fr S96 h h' := by
        intro v2 hv2
        unfold g_X8_next_290 g_X8_next_293
        have f0 : Fr S96 h (hsi (hsi h 96 29 v2) 96 26 (iN (p + 1))) := ((Fr.rfl' _ _).si _ (by omega)).si _ (by omega)
        have q' : gI (hsi h 96 29 v2) 96 26 = iN p := by rw [gI_hsi, if_neg (by omega)]; exact q
        rw [q', iN_add (by omega), iN_add (by omega)]
        obtain ⟨h2, a1, a2, a3, a4, a5, a6⟩ := ih (p + 1) m (hsi (hsi h 96 29 v2) 96 26 (iN (p + 1))) (by omega) (by omega) (by omega) c (TPr_fr f0 (fun a k => by omega) H) (by rw [gI_hsi, if_pos ⟨rfl, rfl⟩]) (by rw [gI_hsi, if_neg (by omega), gI_hsi, if_pos ⟨rfl, rfl⟩]; exact hv2)
        rw [show p + 1 - s = p - s + 1 by omega] at a1
        exact ⟨h2, a1, a2, a3, a4.trans (by rw [gI_hsi, if_neg (by omega), gI_hsi, if_neg (by omega)]), a5, f0.tr a6⟩
      by_cases c4 : 4 ≤ p - s
      · rw [if_pos (show (4 : Int32) ≤ iN (p - s) by rw [show (4 : Int32) = iN 4 from rfl, iN_le (by omega) (by omega)]; exact c4)]
        exact go 0 (fun w => by omega)
      · rw [if_neg (show ¬ (4 : Int32) ≤ iN (p - s) by rw [show (4 : Int32) = iN 4 from rfl, iN_le (by omega) (by omega)]; exact c4)]
        dsimp only
        rw [q, if_pos (iN_inb (by omega) (by decide)), iN_ix (by omega), H.2.1 p c]
        refine go _ (fun w => ?_)
        have := hV w
        rw [show rn B n isDg j (p + 1) - p = (rn B n isDg j (p + 1) - (p + 1)) + 1 by omega, numv] at this
        rw [Int32.mul_comm 10]
        exact this
    · have er : rn B n isDg (j + 1) p = p := by rw [rn, if_neg (fun z => d z.2)]
      rw [er] at hV ⊢
      rw [if_neg d, if_pos rfl]
      exact fin p h hs hp q hV
