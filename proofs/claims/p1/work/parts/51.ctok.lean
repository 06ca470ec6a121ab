/-! THE CLASS reads a token -/
noncomputable def TPc (B : Nat → Int32) (n L : Nat) (h : Hp) : Prop := ROK L h ∧ gI h 31 1 = iN n ∧ ∀ k, k < n → gI h 32 k = B k
noncomputable abbrev S31 (a k : Nat) : Prop := a = 31 ∧ 2 ≤ k ∧ k ≤ 5
theorem TPc_fr {B : Nat → Int32} {n L : Nat} {S : Nat → Nat → Prop} {h h1 : Hp} (f : Fr S h h1) (hS : ∀ a k, ((a = 31 ∧ k = 1) ∨ a = 32) → ¬ S a k) (H : TPc B n L h) : TPc B n L h1 :=
  ⟨ROK_fr f.1 H.1, by rw [f.i (hS _ _ (Or.inl ⟨rfl, rfl⟩))]; exact H.2.1, fun k hk => by rw [f.i (hS _ _ (Or.inr rfl))]; exact H.2.2 k hk⟩
noncomputable def CAt (B : Nat → Int32) (n p : Nat) (h : Hp) : Prop := gI h 31 2 = iN (en B n p) ∧ gI h 31 3 = kd B n p ∧ gI h 31 4 = iN (st B n p) ∧ (kd B n p = 2 ∨ kd B n p = 3 → gI h 31 5 = vl B n p)
noncomputable def bt (B : Nat → Int32) (n p : Nat) : Int32 := if p < n then B p else -1
theorem c_byte {B : Nat → Int32} {n L : Nat} {h : Hp} (O : okB2 B n) (H : TPc B n L h) {p : Nat} (hp : p < 2000) : g_X2_byteAt (iN p) h = some (bt B n p, h) := by
  have c1 := iN0 (k := p) (n := 2000) hp (by decide)
  have h160 := O.1
  unfold g_X2_byteAt g_X2_byteAt_0 bt
  rw [if_neg (by have := c1.1; lia), H.2.1]
  by_cases c : p < n
  · rw [if_neg (by rw [iN_le (by omega) (by omega)]; omega), if_neg (by rw [show (160 : Int32) = iN 160 from rfl, iN_le (by omega) (by omega)]; omega), if_pos (iN_inb (by omega) (by decide)), iN_ix (by omega), H.2.2 p c, if_pos c]
  · rw [if_pos (by rw [iN_le (by omega) (by omega)]; omega), if_neg c]
theorem c_dig (c : Int32) (h : Hp) : g_X2_isDigit c h = some (if isDg c = true then 1 else 0, h) := by
  unfold g_X2_isDigit g_X2_isDigit_0 isDg
  rw [wC]
  by_cases q : 48 ≤ c ∧ c ≤ 57
  · rw [if_pos q, Option.bind_some, if_pos (Or.inr rfl), if_pos (decide_eq_true q)]
  · rw [if_neg q, Option.bind_some, if_pos (Or.inl rfl), if_neg (by rw [decide_eq_true_eq]; exact q)]
theorem c_let (c : Int32) (h : Hp) : g_X2_isLetter c h = some (if isLt c = true then 1 else 0, h) := by
  unfold g_X2_isLetter g_X2_isLetter_0 isLt
  rw [wC]
  by_cases q : 97 ≤ c ∧ c ≤ 122
  · rw [if_pos q, Option.bind_some, if_pos (Or.inr rfl), if_pos (decide_eq_true q)]
  · rw [if_neg q, Option.bind_some, if_pos (Or.inl rfl), if_neg (by rw [decide_eq_true_eq]; exact q)]
theorem bt_q {B : Nat → Int32} {n p : Nat} {Q : Int32 → Bool} (hq : Q (-1) = false) : (Q (bt B n p) = true) ↔ (p < n ∧ Q (B p) = true) := by
  unfold bt
  by_cases c : p < n
  · rw [if_pos c]; exact ⟨fun z => ⟨c, z⟩, fun z => z.2⟩
  · rw [if_neg c, hq]; exact ⟨fun z => absurd z Bool.false_ne_true, fun z => absurd z.1 c⟩
theorem l_cskip {B : Nat → Int32} {n L : Nat} (O : okB2 B n) (j : Nat) : ∀ (p v m : Nat) (h : Hp), p + j = 160 → j < m → v ≤ p → p ≤ n → TPc B n L h → gI h 31 2 = iN p → ∃ h', g_X2_advance_2 4000 m (iN v) h = g_X2_advance_51 4000 h' ∧ gI h' 31 2 = iN (rn B n isBk j p) ∧ Fr S31 h h' := by
  induction j with
  | zero =>
    intro p v m h e hm hv hp H q
    obtain ⟨m, rfl⟩ : ∃ z, m = z + 1 := ⟨m - 1, by omega⟩
    have h160 := O.1
    refine ⟨h, ?_, q, Fr.rfl' _ _⟩
    have hb : bt B n p = -1 := by unfold bt; rw [if_neg (by omega)]
    rw [g_X2_advance_2]
    by_cases c : 160 ≤ iN v
    · rw [if_pos c]
    · rw [if_neg c, q, c_byte O H (by omega), Option.bind_some, hb, if_neg (show ¬ (-1 : Int32) = 32 by decide), q, c_byte O H (by omega), Option.bind_some, hb, if_pos (show (-1 : Int32) ≠ 10 by decide)]
  | succ j ih =>
    intro p v m h e hm hv hp H q
    obtain ⟨m, rfl⟩ : ∃ z, m = z + 1 := ⟨m - 1, by omega⟩
    have h160 := O.1
    have c0 : ¬ (160 : Int32) ≤ iN v := by rw [show (160 : Int32) = iN 160 from rfl, iN_le (by omega) (by omega)]; omega
    have hb := c_byte O H (p := p) (by omega)
    have key := bt_q (B := B) (n := n) (p := p) (Q := isBk) (by decide)
    rw [g_X2_advance_2, if_neg c0, q, hb, Option.bind_some]
    unfold rn
    by_cases z : p < n ∧ isBk (B p) = true
    · rw [if_pos z]
      have go : ∃ h', g_X2_advance_35 4000 (g_X2_advance_2 4000 m) (iN v) h = g_X2_advance_51 4000 h' ∧ gI h' 31 2 = iN (rn B n isBk j (p + 1)) ∧ Fr S31 h h' := by
        unfold g_X2_advance_35
        rw [q, iN_add (by omega), iN_add (by omega)]
        have f0 : Fr S31 h (hsi h 31 2 (iN (p + 1))) := (Fr.rfl' _ _).si _ (by omega)
        obtain ⟨h2, a, b, f⟩ := ih (p + 1) (v + 1) m (hsi h 31 2 (iN (p + 1))) (by omega) (by omega) (by omega) (by omega) (TPc_fr f0 (fun a k => by omega) H) (by rw [gI_hsi, if_pos ⟨rfl, rfl⟩])
        exact ⟨h2, a, b, f0.tr f⟩
      have zz := key.mpr z
      unfold isBk at zz
      rw [Bool.or_eq_true, beq_iff_eq, beq_iff_eq] at zz
      by_cases c32 : bt B n p = 32
      · rw [if_pos c32]; exact go
      · have c10 : bt B n p = 10 := zz.resolve_left c32
        rw [if_neg c32, q, hb, Option.bind_some, if_neg (fun w => w c10)]; exact go
    · rw [if_neg z]
      have zz := mt key.mp z
      unfold isBk at zz
      rw [Bool.or_eq_true, beq_iff_eq, beq_iff_eq] at zz
      refine ⟨h, ?_, q, Fr.rfl' _ _⟩
      rw [if_neg (fun w => zz (Or.inl w)), q, hb, Option.bind_some, if_pos (fun w => zz (Or.inr w))]
theorem l_cnum {B : Nat → Int32} {n L s : Nat} {V : Int32} (O : okB2 B n) (j : Nat) : ∀ (p m : Nat) (v1 : Int32) (h : Hp), p + j = 160 → j < m → s ≤ p → p ≤ n → TPc B n L h → gI h 31 2 = iN p → gI h 31 4 = iN s → (rn B n isDg j p - s ≤ 4 → numv B (rn B n isDg j p - p) p v1 = V) → ∃ h', g_X2_readNumber_4 4000 m v1 (iN (p - s)) h = some h' ∧ gI h' 31 2 = iN (rn B n isDg j p) ∧ gI h' 31 3 = (if rn B n isDg j p - s ≤ 4 then 2 else 1) ∧ gI h' 31 4 = iN s ∧ (rn B n isDg j p - s ≤ 4 → gI h' 31 5 = V) ∧ Fr S31 h h' := by
  have h160 := O.1
  have fin : ∀ (p : Nat) (v1 : Int32) (h : Hp), s ≤ p → p ≤ n → gI h 31 2 = iN p → gI h 31 4 = iN s → (p - s ≤ 4 → numv B (p - p) p v1 = V) → ∃ h', g_X2_readNumber_67 4000 v1 h = some h' ∧ gI h' 31 2 = iN p ∧ gI h' 31 3 = (if p - s ≤ 4 then 2 else 1) ∧ gI h' 31 4 = iN s ∧ (p - s ≤ 4 → gI h' 31 5 = V) ∧ Fr S31 h h' := by
    intro p v1 h h1 h2 q q4 hV
    have cond : (iN p - iN s ≤ 4) ↔ p - s ≤ 4 := by
      have e1 : (iN p - iN s).toInt = (p : Int) - (s : Int) := by
        rw [ts] <;> rw [iN_t (by omega), iN_t (by omega)] <;> omega
      rw [le32, e1, show (4 : Int32).toInt = 4 from rfl]; omega
    unfold g_X2_readNumber_67 g_X2_readNumber_86 g_X2_readNumber_89
    rw [q, q4]
    by_cases c : p - s ≤ 4
    · rw [if_pos (cond.mpr c)]
      refine ⟨_, rfl, ?_, ?_, ?_, fun _ => ?_, ((Fr.rfl' _ _).si _ (by omega)).si _ (by omega)⟩
      · rw [gI_hsi, if_neg (by omega), gI_hsi, if_neg (by omega)]; exact q
      · rw [gI_hsi, if_neg (by omega), gI_hsi, if_pos ⟨rfl, rfl⟩, if_pos c]
      · rw [gI_hsi, if_neg (by omega), gI_hsi, if_neg (by omega)]; exact q4
      · rw [gI_hsi, if_pos ⟨rfl, rfl⟩]
        have := hV c
        rw [Nat.sub_self] at this
        exact this
    · rw [if_neg (fun z => c (cond.mp z))]
      refine ⟨_, rfl, ?_, ?_, ?_, fun z => absurd z c, ((Fr.rfl' _ _).si _ (by omega)).si _ (by omega)⟩
      · rw [gI_hsi, if_neg (by omega), gI_hsi, if_neg (by omega)]; exact q
      · rw [gI_hsi, if_neg (by omega), gI_hsi, if_pos ⟨rfl, rfl⟩, if_neg c]
      · rw [gI_hsi, if_neg (by omega), gI_hsi, if_neg (by omega)]; exact q4
  induction j with
  | zero =>
    intro p m v1 h e hm hs hp H q q4 hV
    obtain ⟨m, rfl⟩ : ∃ z, m = z + 1 := ⟨m - 1, by omega⟩
    obtain ⟨h', a⟩ := fin p v1 h hs hp q q4 hV
    refine ⟨h', ?_, a.2⟩
    have hb : bt B n p = -1 := by unfold bt; rw [if_neg (by omega)]
    rw [g_X2_readNumber_4]
    by_cases c : 160 ≤ iN (p - s)
    · rw [if_pos c]; exact a.1
    · rw [if_neg c, q, c_byte O H (by omega), Option.bind_some, hb, c_dig, if_neg (show ¬ isDg (-1) = true by decide), Option.bind_some, if_pos rfl]; exact a.1
  | succ j ih =>
    intro p m v1 h e hm hs hp H q q4 hV
    obtain ⟨m, rfl⟩ : ∃ z, m = z + 1 := ⟨m - 1, by omega⟩
    have c0 : ¬ (160 : Int32) ≤ iN (p - s) := by rw [show (160 : Int32) = iN 160 from rfl, iN_le (by omega) (by omega)]; omega
    have hb := c_byte O H (p := p) (by omega)
    have key := bt_q (B := B) (n := n) (p := p) (Q := isDg) (by decide)
    rw [g_X2_readNumber_4, if_neg c0, q, hb, Option.bind_some, c_dig, Option.bind_some]
    by_cases z : p < n ∧ isDg (B p) = true
    · have er : rn B n isDg (j + 1) p = rn B n isDg j (p + 1) := by rw [rn, if_pos z]
      rw [er] at hV ⊢
      have hl := rn_b (B := B) (n := n) (Q := isDg) j (p + 1) z.1
      rw [if_pos (key.mpr z), if_neg (fun e => absurd e (show ¬ (1 : Int32) = 0 by decide))]
      have f0 : Fr S31 h (hsi h 31 2 (iN (p + 1))) := (Fr.rfl' _ _).si _ (by omega)
      have go : ∀ v2, (rn B n isDg j (p + 1) - s ≤ 4 → numv B (rn B n isDg j (p + 1) - (p + 1)) (p + 1) v2 = V) → ∃ h', g_X2_readNumber_50 4000 (g_X2_readNumber_4 4000 m) (iN (p - s)) v2 h = some h' ∧ gI h' 31 2 = iN (rn B n isDg j (p + 1)) ∧ gI h' 31 3 = (if rn B n isDg j (p + 1) - s ≤ 4 then 2 else 1) ∧ gI h' 31 4 = iN s ∧ (rn B n isDg j (p + 1) - s ≤ 4 → gI h' 31 5 = V) ∧ Fr S31 h h' := by
        intro v2 hv2
        unfold g_X2_readNumber_50
        rw [q, iN_add (by omega), iN_add (by omega)]
        obtain ⟨h2, a1, a2, a3, a4, a5, a6⟩ := ih (p + 1) m v2 (hsi h 31 2 (iN (p + 1))) (by omega) (by omega) (by omega) z.1 (TPc_fr f0 (fun a k => by omega) H) (by rw [gI_hsi, if_pos ⟨rfl, rfl⟩]) (by rw [gI_hsi, if_neg (by omega)]; exact q4) hv2
        rw [show p + 1 - s = p - s + 1 by omega] at a1
        exact ⟨h2, a1, a2, a3, a4, a5, f0.tr a6⟩
      by_cases c4 : 4 ≤ p - s
      · rw [if_pos (show (4 : Int32) ≤ iN (p - s) by rw [show (4 : Int32) = iN 4 from rfl, iN_le (by omega) (by omega)]; exact c4)]
        exact go v1 (fun w => by omega)
      · rw [if_neg (show ¬ (4 : Int32) ≤ iN (p - s) by rw [show (4 : Int32) = iN 4 from rfl, iN_le (by omega) (by omega)]; exact c4), q, hb, Option.bind_some]
        refine go _ (fun w => ?_)
        have e1 : bt B n p = B p := by unfold bt; rw [if_pos z.1]
        rw [e1]
        have := hV w
        rw [show rn B n isDg j (p + 1) - p = (rn B n isDg j (p + 1) - (p + 1)) + 1 by omega, numv] at this
        exact this
    · have er : rn B n isDg (j + 1) p = p := by rw [rn, if_neg z]
      rw [er] at hV ⊢
      rw [if_neg (fun w => z (key.mp w)), if_pos rfl]
      exact fin p v1 h hs hp q q4 hV
