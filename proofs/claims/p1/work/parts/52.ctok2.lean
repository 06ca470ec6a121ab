/-! THE CLASS reads a word, and a token -/
noncomputable def pwx (w : Nat) : Nat := if w < 3 then w else if w < 6 then w + 6 else w - 3
noncomputable def mc (B : Nat → Int32) (w s e : Nat) : Bool := decide (e - s ≤ 6) && (List.range 6).all (fun i => by2.getD (w * 6 + i) 0 == (if s + i < e then B (s + i) else 32))
theorem mw_iff {B : Nat → Int32} {w s e : Nat} : mw B w s e = true ↔ e - s ≤ 8 ∧ ∀ i, i < 8 → wordsT.getD (8 * w + i) 0 = (if s + i < e then B (s + i) else 32) := by
  unfold mw
  rw [Bool.and_eq_true, decide_eq_true_eq, List.all_eq_true]
  exact and_congr Iff.rfl ⟨fun z i hi => eq_of_beq (z i (List.mem_range.mpr hi)), fun z i hi => by rw [z i (List.mem_range.mp hi)]; exact beq_self_eq_true _⟩
theorem mc_iff {B : Nat → Int32} {w s e : Nat} : mc B w s e = true ↔ e - s ≤ 6 ∧ ∀ i, i < 6 → by2.getD (w * 6 + i) 0 = (if s + i < e then B (s + i) else 32) := by
  unfold mc
  rw [Bool.and_eq_true, decide_eq_true_eq, List.all_eq_true]
  exact and_congr Iff.rfl ⟨fun z i hi => eq_of_beq (z i (List.mem_range.mpr hi)), fun z i hi => by rw [z i (List.mem_range.mp hi)]; exact beq_self_eq_true _⟩
theorem words_eq : ∀ w, w < 12 → (∀ i, i < 6 → by2.getD (w * 6 + i) 0 = wordsT.getD (8 * pwx w + i) 0) ∧ wordsT.getD (8 * pwx w + 6) 0 = 32 ∧ wordsT.getD (8 * pwx w + 7) 0 = 32 := by decide +kernel
theorem words_ne : ∀ v, v < 12 → ∀ w, w < 12 → (∀ i, i < 8 → wordsT.getD (8 * v + i) 0 = wordsT.getD (8 * w + i) 0) → v = w := by decide +kernel
theorem pwx_lt : ∀ w, w < 12 → pwx w < 12 := by decide
theorem pwx_onto (v : Nat) (h : v < 12) : ∃ w, w < 12 ∧ pwx w = v := by
  have : ∀ v, v < 12 → pwx (if v < 3 then v else if v < 9 then v + 3 else v - 6) = v ∧ (if v < 3 then v else if v < 9 then v + 3 else v - 6) < 12 := by decide
  exact ⟨_, (this v h).2, (this v h).1⟩
theorem mc_mw {B : Nat → Int32} {w s e : Nat} (hw : w < 12) (hl : ∀ i, s ≤ i → i < e → B i ≠ 32) : mc B w s e = true ↔ mw B (pwx w) s e = true := by
  obtain ⟨w1, w2, w3⟩ := words_eq w hw
  rw [mc_iff, mw_iff]
  constructor
  · intro ⟨a, b⟩
    refine ⟨by omega, fun i hi => ?_⟩
    by_cases c : i < 6
    · rw [← w1 i c]; exact b i c
    · rw [if_neg (by omega)]
      have : i = 6 ∨ i = 7 := by omega
      rcases this with rfl | rfl
      · exact w2
      · exact w3
  · intro ⟨a, b⟩
    refine ⟨?_, fun i hi => by rw [w1 i hi]; exact b i (by omega)⟩
    by_cases c : e - s ≤ 6
    · exact c
    · have h6 := b 6 (by omega)
      rw [w2, if_pos (by omega)] at h6
      exact absurd h6.symm (hl _ (by omega) (by omega))
theorem mw_un {B : Nat → Int32} {v w s e : Nat} (hv : v < 12) (hw : w < 12) (h1 : mw B v s e = true) (h2 : mw B w s e = true) : v = w := by
  rw [mw_iff] at h1 h2
  exact words_ne v hv w hw (fun i hi => (h1.2 i hi).trans (h2.2 i hi).symm)
theorem fw_spec {B : Nat → Int32} {s e : Nat} (j : Nat) : ∀ w, (∃ v, w ≤ v ∧ v < w + j ∧ mw B v s e = true ∧ fw B s e j w = v) ∨ ((∀ v, w ≤ v → v < w + j → mw B v s e = false) ∧ fw B s e j w = w + j) := by
  induction j with
  | zero => intro w; exact Or.inr ⟨fun v h1 h2 => by omega, rfl⟩
  | succ j ih =>
    intro w
    rw [fw]
    by_cases c : mw B w s e = true
    · rw [if_pos c]; exact Or.inl ⟨w, by omega, by omega, c, rfl⟩
    · rw [if_neg c]
      rcases ih (w + 1) with ⟨v, a, b, d, f⟩ | ⟨a, b⟩
      · exact Or.inl ⟨v, by omega, by omega, d, f⟩
      · refine Or.inr ⟨fun v h1 h2 => ?_, by rw [b]; omega⟩
        by_cases q : v = w
        · rw [q]; exact Bool.eq_false_iff.mpr c
        · exact a v (by omega) (by omega)
theorem wix_of {B : Nat → Int32} {s e v : Nat} (hv : v < 12) (h : mw B v s e = true) : wix B s e = v := by
  unfold wix
  rcases fw_spec (B := B) (s := s) (e := e) 12 0 with ⟨w, a, b, c, d⟩ | ⟨a, b⟩
  · rw [d]; exact mw_un (by omega) hv c h
  · rw [a v (by omega) (by omega)] at h; exact absurd h (by decide)
theorem wix_12 {B : Nat → Int32} {s e : Nat} (h : ∀ v, v < 12 → mw B v s e = false) : wix B s e = 12 := by
  unfold wix
  rcases fw_spec (B := B) (s := s) (e := e) 12 0 with ⟨w, a, b, c, d⟩ | ⟨a, b⟩
  · rw [h w (by omega)] at c; exact absurd c (by decide)
  · exact b
theorem c_isWord {B : Nat → Int32} {n L : Nat} {h : Hp} (O : okB2 B n) (H : TPc B n L h) {w s e : Nat} (hw : w < 12) (hs : s ≤ e) (he : e ≤ n) (q2 : gI h 31 2 = iN e) (q4 : gI h 31 4 = iN s) : g_X2_isWord 4000 (iN w) h = some (if mc B w s e = true then 1 else 0, h) := by
  have h160 := O.1
  have lp : ∀ (j i m : Nat), i + j = 6 → j < m → (∀ q, q < i → by2.getD (w * 6 + q) 0 = (if s + q < e then B (s + q) else 32)) → e - s ≤ 6 → g_X2_isWord_18 4000 m (iN w) (iN i) h = some (if mc B w s e = true then 1 else 0, h) := by
    intro j
    induction j with
    | zero =>
      intro i m ei hm hq h6
      obtain ⟨m, rfl⟩ : ∃ z, m = z + 1 := ⟨m - 1, by omega⟩
      obtain rfl : i = 6 := by omega
      rw [g_X2_isWord_18, if_pos (by decide), if_pos (mc_iff.mpr ⟨h6, hq⟩)]
    | succ j ih =>
      intro i m ei hm hq h6
      obtain ⟨m, rfl⟩ : ∃ z, m = z + 1 := ⟨m - 1, by omega⟩
      have o1 : w * 6 + i < 72 := by omega
      have e1 : iN w * 6 + iN i = iN (w * 6 + i) := by
        rw [show (6 : Int32) = iN 6 from rfl, mul_iN (by omega) (by omega) (by omega), add_iN (by omega) (by omega)]
      have fin : ∀ x, x = (if s + i < e then B (s + i) else 32) → g_X2_isWord_52 4000 (g_X2_isWord_18 4000 m) (iN w) (iN i) x h = some (if mc B w s e = true then 1 else 0, h) := by
        intro x hx
        unfold g_X2_isWord_52
        have c1 := iN0 o1 (show 72 < 2147483648 by decide)
        rw [e1, if_neg (by have := c1.1; lia), s_len H.1, Option.bind_some, if_neg (show ¬ (72 : Int32) ≤ iN (w * 6 + i) by have := c1.2; have : iN (w * 6 + i) < 72 := this; lia), s_char H.1 o1, Option.bind_some]
        by_cases c : by2.getD (w * 6 + i) 0 = x
        · rw [if_pos c, iN_add (by omega)]
          refine ih (i + 1) m (by omega) (by omega) (fun q hq' => ?_) h6
          by_cases d : q = i
          · rw [d, c, hx]
          · exact hq q (by omega)
        · rw [if_neg c, if_neg (fun z => c (by rw [hx]; exact (mc_iff.mp z).2 i (by omega)))]
      rw [g_X2_isWord_18, if_neg (show ¬ (6 : Int32) ≤ iN i by rw [show (6 : Int32) = iN 6 from rfl, iN_le (by omega) (by omega)]; omega), q2, q4, add_iN (by omega) (by omega)]
      by_cases c : s + i < e
      · rw [if_neg (by rw [iN_le (by omega) (by omega)]; omega), c_byte O H (by omega), Option.bind_some]
        exact fin _ (by unfold bt; rw [if_pos (show s + i < n by omega), if_pos c])
      · rw [if_pos (by rw [iN_le (by omega) (by omega)]; omega)]
        exact fin _ (by rw [if_neg c])
  unfold g_X2_isWord g_X2_isWord_0
  have cond : (iN e - iN s ≤ 6) ↔ e - s ≤ 6 := by
    have e1 : (iN e - iN s).toInt = (e : Int) - (s : Int) := by
      rw [ts] <;> rw [iN_t (by omega), iN_t (by omega)] <;> omega
    rw [le32, e1, show (6 : Int32).toInt = 6 from rfl]; omega
  rw [q2, q4]
  by_cases c : e - s ≤ 6
  · rw [if_pos (cond.mpr c)]
    exact lp 6 0 4000 rfl (by omega) (fun q hq => by omega) c
  · rw [if_neg (fun z => c (cond.mp z)), if_neg (fun z => c (mc_iff.mp z).1)]
theorem l_cword {B : Nat → Int32} {n L s e : Nat} (O : okB2 B n) (hs : s ≤ e) (he : e ≤ n) (hl : ∀ i, s ≤ i → i < e → B i ≠ 32) (j : Nat) : ∀ (w m : Nat) (h : Hp), w + j = 12 → j < m → TPc B n L h → gI h 31 2 = iN e → gI h 31 4 = iN s → gI h 31 3 = 1 → (∀ v, v < w → mc B v s e = false) → ∃ h', g_X2_readWord_46 4000 m (iN w) h = some h' ∧ gI h' 31 2 = iN e ∧ gI h' 31 3 = kw (wix B s e) ∧ gI h' 31 4 = iN s ∧ (kw (wix B s e) = 3 → gI h' 31 5 = iN (wix B s e - 3)) ∧ Fr S31 h h' := by
  induction j with
  | zero =>
    intro w m h ew hm H q2 q4 q3 hq
    obtain ⟨m, rfl⟩ : ∃ z, m = z + 1 := ⟨m - 1, by omega⟩
    obtain rfl : w = 12 := by omega
    have e12 : wix B s e = 12 := wix_12 (fun v hv => by
      obtain ⟨u, hu, rfl⟩ := pwx_onto v hv
      exact Bool.eq_false_iff.mpr (fun z => absurd ((mc_mw hu hl).mpr z) (Bool.eq_false_iff.mp (hq u hu))))
    rw [e12]
    exact ⟨h, by rw [g_X2_readWord_46, if_pos i12e], q2, q3, q4, fun z => absurd z (by decide), Fr.rfl' _ _⟩
  | succ j ih =>
    intro w m h ew hm H q2 q4 q3 hq
    obtain ⟨m, rfl⟩ : ∃ z, m = z + 1 := ⟨m - 1, by omega⟩
    have hw : w < 12 := by omega
    rw [g_X2_readWord_46, if_neg (i12 hw), q3, if_neg (fun z => z rfl), c_isWord O H hw hs he q2 q4, Option.bind_some]
    by_cases c : mc B w s e = true
    · rw [if_pos c, if_neg (fun e => absurd e (show ¬ (1 : Int32) = 0 by decide))]
      have ew' : wix B s e = pwx w := wix_of (pwx_lt w hw) ((mc_mw hw hl).mp c)
      obtain ⟨m, rfl⟩ : ∃ z, m = z + 1 := ⟨m - 1, by omega⟩
      have tail : ∀ (K : Int32), K ≠ 1 → g_X2_readWord_83 4000 (g_X2_readWord_46 4000 (m + 1)) (iN w) K h = some (hsi (hsi h 31 3 K) 31 5 (iN w - 6)) := by
        intro K hK
        unfold g_X2_readWord_83 g_X2_readWord_86 g_X2_readWord_94
        rw [g_X2_readWord_46]
        by_cases d : (12 : Int32) ≤ iN w + 1
        · rw [if_pos d]
        · rw [if_neg d, if_pos (by rw [gI_hsi, if_neg (by omega), gI_hsi, if_pos ⟨rfl, rfl⟩]; exact hK)]
      have fr : ∀ K x, Fr S31 h (hsi (hsi h 31 3 K) 31 5 x) := fun K x => ((Fr.rfl' _ _).si _ (by omega)).si _ (by omega)
      by_cases d : 6 ≤ w
      · have k3 : kw (wix B s e) = 3 := by rw [ew']; exact (show ∀ w, w < 12 → 6 ≤ w → kw (pwx w) = 3 by decide) w hw d
        rw [if_pos (show (6 : Int32) ≤ iN w by rw [show (6 : Int32) = iN 6 from rfl, iN_le (by omega) (by omega)]; exact d), tail 3 (by decide)]
        refine ⟨_, rfl, ?_, ?_, ?_, fun _ => ?_, fr _ _⟩
        · rw [gI_hsi, if_neg (by omega), gI_hsi, if_neg (by omega)]; exact q2
        · rw [gI_hsi, if_neg (by omega), gI_hsi, if_pos ⟨rfl, rfl⟩, k3]
        · rw [gI_hsi, if_neg (by omega), gI_hsi, if_neg (by omega)]; exact q4
        · rw [gI_hsi, if_pos ⟨rfl, rfl⟩, ew']
          have : ∀ w, w < 12 → 6 ≤ w → iN w - 6 = iN (pwx w - 3) := by decide
          exact this w hw d
      · have k3 : ∀ w, w < 12 → ¬ 6 ≤ w → (10 : Int32) + iN w = kw (pwx w) ∧ (10 : Int32) + iN w ≠ 1 ∧ kw (pwx w) ≠ 3 := by decide
        obtain ⟨k1, k2, k4⟩ := k3 w hw d
        rw [if_neg (show ¬ (6 : Int32) ≤ iN w by rw [show (6 : Int32) = iN 6 from rfl, iN_le (by omega) (by omega)]; exact d), tail _ k2]
        refine ⟨_, rfl, ?_, ?_, ?_, fun z => absurd (by rw [← ew']; exact z) k4, fr _ _⟩
        · rw [gI_hsi, if_neg (by omega), gI_hsi, if_neg (by omega)]; exact q2
        · rw [gI_hsi, if_neg (by omega), gI_hsi, if_pos ⟨rfl, rfl⟩, ew']; exact k1
        · rw [gI_hsi, if_neg (by omega), gI_hsi, if_neg (by omega)]; exact q4
    · rw [if_neg c, if_pos rfl, g_X2_readWord_94, iN_add (by omega)]
      exact ih (w + 1) m h (by omega) (by omega) H q2 q4 q3 (fun v hv => by
        by_cases d : v = w
        · rw [d]; exact Bool.eq_false_iff.mpr c
        · exact hq v (by omega))
theorem l_clet {B : Nat → Int32} {n L s : Nat} (O : okB2 B n) (j : Nat) : ∀ (p v m : Nat) (h : Hp), p + j = 160 → j < m → v ≤ p → p ≤ n → TPc B n L h → gI h 31 2 = iN p → ∃ h', g_X2_readWord_2 4000 m (iN v) h = g_X2_readWord_39 4000 h' ∧ gI h' 31 2 = iN (rn B n isLt j p) ∧ gI h' 31 4 = gI h 31 4 ∧ Fr S31 h h' := by
  have h160 := O.1
  induction j with
  | zero =>
    intro p v m h e hm hv hp H q
    obtain ⟨m, rfl⟩ : ∃ z, m = z + 1 := ⟨m - 1, by omega⟩
    refine ⟨h, ?_, q, rfl, Fr.rfl' _ _⟩
    have hb : bt B n p = -1 := by unfold bt; rw [if_neg (by omega)]
    rw [g_X2_readWord_2]
    by_cases c : 160 ≤ iN v
    · rw [if_pos c]
    · rw [if_neg c, q, c_byte O H (by omega), Option.bind_some, hb, c_let, if_neg (show ¬ isLt (-1) = true by decide), Option.bind_some, if_pos rfl]
  | succ j ih =>
    intro p v m h e hm hv hp H q
    obtain ⟨m, rfl⟩ : ∃ z, m = z + 1 := ⟨m - 1, by omega⟩
    have c0 : ¬ (160 : Int32) ≤ iN v := by rw [show (160 : Int32) = iN 160 from rfl, iN_le (by omega) (by omega)]; omega
    have hb := c_byte O H (p := p) (by omega)
    have key := bt_q (B := B) (n := n) (p := p) (Q := isLt) (by decide)
    rw [g_X2_readWord_2, if_neg c0, q, hb, Option.bind_some, c_let, Option.bind_some]
    by_cases z : p < n ∧ isLt (B p) = true
    · rw [if_pos (key.mpr z), if_neg (fun e => absurd e (show ¬ (1 : Int32) = 0 by decide)), rn, if_pos z]
      dsimp only
      rw [q, iN_add (by omega), iN_add (by omega)]
      have f0 : Fr S31 h (hsi h 31 2 (iN (p + 1))) := (Fr.rfl' _ _).si _ (by omega)
      obtain ⟨h2, a, b, d, f⟩ := ih (p + 1) (v + 1) m (hsi h 31 2 (iN (p + 1))) (by omega) (by omega) (by omega) z.1 (TPc_fr f0 (fun a k => by omega) H) (by rw [gI_hsi, if_pos ⟨rfl, rfl⟩])
      exact ⟨h2, a, b, d.trans (by rw [gI_hsi, if_neg (by omega)]), f0.tr f⟩
    · rw [if_neg (fun w => z (key.mp w)), if_pos rfl, rn, if_neg z]
      exact ⟨h, rfl, q, rfl, Fr.rfl' _ _⟩
theorem c_adv {B : Nat → Int32} {n L p : Nat} {h : Hp} (O : okB2 B n) (H : TPc B n L h) (hp : p ≤ n) (q : gI h 31 2 = iN p) : ∃ h', g_X2_advance 4000 h = some h' ∧ CAt B n p h' ∧ Fr S31 h h' := by
  have h160 := O.1
  obtain ⟨h1, a1, b1, f1⟩ := l_cskip O (160 - p) p 0 4000 h (by omega) (by omega) (by omega) hp H q
  obtain ⟨s, es⟩ : ∃ s, s = st B n p := ⟨_, rfl⟩
  have bs := upto_b (B := B) (Q := isBk) hp
  have e0 : rn B n isBk (160 - p) p = s := es.symm
  rw [e0] at b1
  have hsn : s ≤ n := by rw [es]; exact bs.2
  obtain ⟨h2, e2⟩ : ∃ h2, h2 = hsi h1 31 4 (iN s) := ⟨_, rfl⟩
  have f2 : Fr S31 h h2 := by rw [e2]; exact f1.si _ (by omega)
  have H2 := TPc_fr f2 (fun a k => by omega) H
  have q2 : gI h2 31 2 = iN s := by rw [e2, gI_hsi, if_neg (by omega)]; exact b1
  have q4 : gI h2 31 4 = iN s := by rw [e2, gI_hsi, if_pos ⟨rfl, rfl⟩]
  have go : ∃ h', g_X2_advance_59 4000 h2 = some h' ∧ CAt B n p h' ∧ Fr S31 h2 h' := by
    unfold g_X2_advance_59 CAt en kd vl
    rw [← es, q2, c_byte O H2 (by omega), Option.bind_some]
    unfold bt en0 kd0 vl0
    by_cases c : s < n
    · rw [if_pos c, if_pos c, if_pos c]
      have hB := O.2 s c
      have hne : B s ≠ -1 := by have := hB.1; lia
      rw [if_pos hne, c_let, Option.bind_some]
      by_cases d : isLt (B s) = true
      · simp only [if_pos d]
        rw [if_neg (fun e => absurd e (show ¬ (1 : Int32) = 0 by decide))]
        obtain ⟨h3, a3, b3, c3, f3⟩ := l_clet O (s := s) (160 - s) s 0 4000 h2 (by omega) (by omega) (by omega) hsn H2 q2
        have bl := upto_b (B := B) (Q := isLt) hsn
        have hl : ∀ i, s ≤ i → i < upto B n isLt s → B i ≠ 32 := by
          intro i i1 i2 z
          have := (rn_all (B := B) (n := n) (Q := isLt) (160 - s) s i i1 i2).2
          rw [z] at this
          exact absurd this (by decide)
        have f4 : Fr S31 h3 (hsi h3 31 3 1) := (Fr.rfl' _ _).si _ (by omega)
        obtain ⟨h4, a4, b4, c4, d4, e4, g4⟩ := l_cword O bl.1 bl.2 hl 12 0 4000 (hsi h3 31 3 1) rfl (by omega) (TPc_fr (f3.tr f4) (fun a k => by omega) H2) (by rw [gI_hsi, if_neg (by omega)]; exact b3) (by rw [gI_hsi, if_neg (by omega), c3]; exact q4) (by rw [gI_hsi, if_pos ⟨rfl, rfl⟩]) (fun v hv => by omega)
        have er : g_X2_readWord 4000 h2 = some h4 := by
          unfold g_X2_readWord g_X2_readWord_0
          have a3' : g_X2_readWord_2 4000 4000 0 h2 = g_X2_readWord_39 4000 h3 := a3
          rw [a3']; exact a4
        rw [er, Option.bind_some]
        refine ⟨h4, rfl, ⟨b4, c4, d4, fun z => e4 (z.resolve_left ?_)⟩, (f3.tr f4).tr g4⟩
        have : ∀ w, w < 13 → kw w ≠ 2 := by decide
        have hw : wix B s (upto B n isLt s) < 13 := by
          unfold wix
          rcases fw_spec (B := B) (s := s) (e := upto B n isLt s) 12 0 with ⟨w, a, b, c, d⟩ | ⟨a, b⟩
          · rw [d]; omega
          · rw [b]; omega
        exact this _ hw
      · simp only [if_neg d]
        rw [if_pos trivial, c_dig, Option.bind_some]
        by_cases g : isDg (B s) = true
        · simp only [if_pos g]
          rw [if_neg (fun e => absurd e (show ¬ (1 : Int32) = 0 by decide))]
          obtain ⟨h3, a3, b3, c3, d3, e3, f3⟩ := l_cnum O (s := s) (V := numv B (upto B n isDg s - s) s 0) (160 - s) s 4000 0 h2 (by omega) (by omega) (Nat.le_refl _) hsn H2 q2 q4 (fun _ => rfl)
          rw [Nat.sub_self] at a3
          have er : g_X2_readNumber 4000 h2 = some h3 := a3
          rw [er, Option.bind_some]
          refine ⟨h3, rfl, ⟨b3, c3, d3, fun z => e3 ?_⟩, f3⟩
          by_cases w : upto B n isDg s - s ≤ 4
          · exact w
          · rw [if_neg w] at z
            rcases z with z | z
            · exact absurd z (by decide)
            · exact absurd z (by decide)
        · simp only [if_neg g]
          rw [if_pos trivial, q2, iN_add (by omega)]
          have f3 : Fr S31 h2 (hsi h2 31 2 (iN (s + 1))) := (Fr.rfl' _ _).si _ (by omega)
          obtain ⟨r, e1, e2'⟩ := s_sign (h := hsi h2 31 2 (iN (s + 1))) (ROK_fr f3.1 H2.1) hB
          unfold g_X2_advance_119
          rw [e1, Option.bind_some]
          unfold g_X2_advance_135
          by_cases t : isS (B s) = true
          · rw [if_neg (fun z => by rw [e2'.mp z] at t; exact absurd t (by decide)), if_pos t]
            refine ⟨_, rfl, ⟨?_, ?_, ?_, fun z => ?_⟩, f3.si _ (by omega)⟩
            · rw [gI_hsi, if_neg (by omega), gI_hsi, if_pos ⟨rfl, rfl⟩]
            · rw [gI_hsi, if_pos ⟨rfl, rfl⟩]
            · rw [gI_hsi, if_neg (by omega), gI_hsi, if_neg (by omega)]; exact q4
            · rcases z with z | z
              · rw [z] at t; exact absurd t (by decide)
              · rw [z] at t; exact absurd t (by decide)
          · rw [if_pos (e2'.mpr (Bool.eq_false_iff.mpr t)), if_neg t]
            refine ⟨_, rfl, ⟨?_, ?_, ?_, fun z => ?_⟩, f3.si _ (by omega)⟩
            · rw [gI_hsi, if_neg (by omega), gI_hsi, if_pos ⟨rfl, rfl⟩]
            · rw [gI_hsi, if_pos ⟨rfl, rfl⟩]
            · rw [gI_hsi, if_neg (by omega), gI_hsi, if_neg (by omega)]; exact q4
            · rcases z with z | z
              · exact absurd z (by decide)
              · exact absurd z (by decide)
    · rw [if_neg c, if_neg c, if_neg c, if_neg (fun z => z rfl)]
      refine ⟨_, rfl, ⟨?_, ?_, ?_, fun z => ?_⟩, (Fr.rfl' _ _).si _ (by omega)⟩
      · rw [gI_hsi, if_neg (by omega)]; exact q2
      · rw [gI_hsi, if_pos ⟨rfl, rfl⟩]
      · rw [gI_hsi, if_neg (by omega)]; exact q4
      · rcases z with z | z
        · exact absurd z (by decide)
        · exact absurd z (by decide)
  obtain ⟨h3, a3, b3, f3⟩ := go
  refine ⟨h3, ?_, b3, f2.tr f3⟩
  have ea : g_X2_advance 4000 h = g_X2_advance_51 4000 h1 := a1
  rw [ea, g_X2_advance_51, b1, ← e2]
  exact a3
