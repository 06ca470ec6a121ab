/-! THE STRINGS of the class: what its words and signs are -/
noncomputable def ROK (L : Nat) (h : Hp) : Prop := ∀ a, a < 16 → hk h a = (roK L).getD a (99, 0)
theorem ROK_fr {L : Nat} {h h1 : Hp} (e : h1.1 = h.1) (H : ROK L h) : ROK L h1 := fun a ha => by
  have := H a ha
  unfold hk at this ⊢
  rw [e]; exact this
theorem ROK_of {L : Nat} {h : Hp} {r : List (Nat × Nat)} (e : h.1 = roK L ++ r) : ROK L h := fun a ha => by
  unfold hk
  rw [e, List.getD_eq_getElem?_getD, List.getD_eq_getElem?_getD, List.getElem?_append_left (by show a < 16; exact ha)]
theorem s_len {L : Nat} {h : Hp} (e : ROK L h) : f_J0_length_8abf5 2 h = some (72, h) := by
  have h2 : hk h 2 = (20, 2) := e _ (by omega)
  have h5 : hk h 5 = (21, 72) := e _ (by omega)
  unfold f_J0_length_8abf5 f_J0_length_8abf5_0 f_J0_coder_7d493 f_J0_coder_7d493_0
  rw [if_pos h2, h5, if_pos rfl, if_pos h2, Option.bind_some]
  show some (Int32.ofNat 72 >>> ((0 : Int32) &&& 31), h) = some (72, h)
  rw [show Int32.ofNat 72 >>> ((0 : Int32) &&& 31) = 72 by decide]
theorem s_len3 {L : Nat} {h : Hp} (e : ROK L h) : f_J0_length_8abf5 3 h = some (8, h) := by
  have h2 : hk h 3 = (20, 2) := e _ (by omega)
  have h5 : hk h 6 = (21, 8) := e _ (by omega)
  unfold f_J0_length_8abf5 f_J0_length_8abf5_0 f_J0_coder_7d493 f_J0_coder_7d493_0
  rw [if_pos h2, h5, if_pos rfl, if_pos h2, Option.bind_some]
  show some (Int32.ofNat 8 >>> ((0 : Int32) &&& 31), h) = some (8, h)
  rw [show Int32.ofNat 8 >>> ((0 : Int32) &&& 31) = 8 by decide]
theorem okB_of {h : Hp} {a n k : Nat} (e : hk h a = (21, n)) (hk' : k < n) (hn : n < 2147483648) : okB h a (iN k) := by
  unfold okB
  rw [e]
  exact ⟨rfl, iN_inb hk' hn⟩
theorem by2_b : ∀ i, i < 72 → (((Int32.toUInt32 ((roC 5 i) &&& 255)) % 65536).toInt32) = by2.getD i 0 ∧ narrow .char (.int (((Int32.toUInt32 ((roC 5 i) &&& 255)) % 65536).toInt32)) = .int (((Int32.toUInt32 ((roC 5 i) &&& 255)) % 65536).toInt32) := by decide +kernel
theorem s_char {L : Nat} {h : Hp} (e : ROK L h) {i : Nat} (hi : i < 72) : f_J0_charAt_5068e 2 (iN i) h = some (by2.getD i 0, h) := by
  have h2 : hk h 2 = (20, 2) := e _ (by omega)
  have h5 : hk h 5 = (21, 72) := e _ (by omega)
  obtain ⟨b1, b2⟩ := by2_b i hi
  have c1 := iN0 hi (show 72 < 2147483648 by decide)
  unfold f_J0_charAt_5068e f_J0_charAt_5068e_0 f_J0_isLatin1_aae02 f_J0_isLatin1_aae02_0
  rw [if_pos h2, if_pos h2, Option.bind_some, if_neg (fun z => absurd z (show ¬ (1 : Int32) = 0 by decide)), if_pos h2]
  have e1 : f_J1_charAt_3b067 (2 + 3) (iN i) h = some (by2.getD i 0, h) := by
    unfold f_J1_charAt_3b067 f_J1_charAt_3b067_0
    rw [show 2 + 3 = 5 from rfl, h5, if_pos rfl]
    have e2 : f_J0_checkIndex_df160 (iN i) (Int32.ofNat 72) h = some h := by
      unfold f_J0_checkIndex_df160 f_J0_checkIndex_df160_0 f_J3_checkIndex_8e157 f_J3_checkIndex_8e157_0
      rw [if_neg (by have := c1.1; lia), if_pos (show iN i < Int32.ofNat 72 from c1.2), Option.bind_some]
    rw [e2, Option.bind_some, if_pos (okB_of h5 hi (by decide)), if_pos (by decide), iN_ix (by omega), if_pos b2, b1]
  rw [e1, Option.bind_some, ← b1, if_pos b2]
noncomputable def isS (c : Int32) : Bool := c == 40 || c == 41 || c == 59 || c == 43 || c == 45 || c == 42 || c == 60 || c == 61
theorem sg_b : ∀ k, k < 256 → ((∀ i, i < 8 → roC 6 i ≠ (Int32.toInt8 (((Int32.toUInt32 (iN k)) % 65536).toInt32)).toInt32) ↔ isS (iN k) = false) := by decide +kernel
theorem sg_r : ∀ k, k < 256 → 0 ≤ (((Int32.toUInt32 (iN k)) % 65536).toInt32) ∧ (((Int32.toUInt32 (iN k)) % 65536).toInt32) ≤ 255 := by decide +kernel
theorem l_idx {h : Hp} (h6 : hk h 6 = (21, 8)) (n : Nat) (v4 : Int32) (j : Nat) : ∀ (k m : Nat), k + j = 8 → j < m → ∃ r, f_J1_indexOfChar_4cfef_7 n m 6 8 v4 (iN k) h = some (r, h) ∧ (r < 0 ↔ ∀ i, k ≤ i → i < 8 → roC 6 i ≠ v4) := by
  induction j with
  | zero =>
    intro k m ek hm
    obtain ⟨m, rfl⟩ : ∃ z, m = z + 1 := ⟨m - 1, by omega⟩
    obtain rfl : k = 8 := by omega
    refine ⟨-1, by rw [f_J1_indexOfChar_4cfef_7, if_pos (by decide)], fun _ i h1 h2 => by omega, fun _ => by decide⟩
  | succ j ih =>
    intro k m ek hm
    obtain ⟨m, rfl⟩ : ∃ z, m = z + 1 := ⟨m - 1, by omega⟩
    have c1 := iN0 (k := k) (n := 8) (by omega) (by decide)
    rw [f_J1_indexOfChar_4cfef_7, if_neg (show ¬ (8 : Int32) ≤ iN k by have := c1.2; have : iN k < 8 := this; lia), if_pos (okB_of h6 (by omega) (by decide)), if_pos (by decide), iN_ix (by omega)]
    by_cases c : roC 6 k ≠ v4
    · obtain ⟨r, e1, e2⟩ := ih (k + 1) m (by omega) (by omega)
      rw [if_pos c, iN_add (by omega)]
      refine ⟨r, e1, e2.trans ⟨fun z i h1 h2 => ?_, fun z i h1 h2 => z i (by omega) h2⟩⟩
      by_cases q : i = k
      · rw [q]; exact c
      · exact z i (by omega) h2
    · rw [if_neg c]
      refine ⟨iN k, rfl, fun z => ?_, fun z => absurd (z k (by omega) (by omega)) c⟩
      have := c1.1
      lia
theorem s_sign {L : Nat} {h : Hp} (e : ROK L h) {c : Int32} (hc : 0 ≤ c ∧ c ≤ 255) : ∃ r, f_J0_indexOf_0f7a4 4000 3 (((Int32.toUInt32 c) % 65536).toInt32) h = some (r, h) ∧ (r < 0 ↔ isS c = false) := by
  obtain ⟨k, hk', rfl⟩ := iex (n := 256) (by decide) hc.1 (by have := hc.2; show c < 256; lia)
  have h3 : hk h 3 = (20, 2) := e _ (by omega)
  have h6 : hk h 6 = (21, 8) := e _ (by omega)
  have r := sg_r k hk'
  obtain ⟨v, hv⟩ : ∃ v, v = (((Int32.toUInt32 (iN k)) % 65536).toInt32) := ⟨_, rfl⟩
  have b := sg_b k hk'
  rw [← hv] at b r ⊢
  obtain ⟨q, e1, e2⟩ := l_idx h6 4000 (Int32.toInt8 v).toInt32 8 0 4000 rfl (by omega)
  refine ⟨q, ?_, e2.trans ⟨fun z => b.mp (fun i hi => z i (by omega) hi), fun z i _ hi => b.mpr z i hi⟩⟩
  unfold f_J0_indexOf_0f7a4 f_J0_indexOf_0f7a4_0 f_J0_indexOf_7cf53 f_J0_indexOf_7cf53_0 f_J0_isLatin1_aae02 f_J0_isLatin1_aae02_0
  rw [if_pos h3, if_pos h3, if_pos h3, Option.bind_some, if_neg (fun z => absurd z (show ¬ (1 : Int32) = 0 by decide)), if_pos h3, s_len3 e, Option.bind_some]
  have e3 : f_J1_indexOf_4cfef 4000 (3 + 3) v 0 8 h = some (q, h) := by
    unfold f_J1_indexOf_4cfef f_J1_indexOf_4cfef_0 f_J1_canEncode_9a6ad f_J1_canEncode_9a6ad_0
    rw [if_neg (by have := r.1; lia), if_neg (by have := r.2; lia), Option.bind_some, if_pos (show (1 : Int32) ≠ 0 by decide), show 3 + 3 = 6 from rfl, h6, if_pos rfl]
    show f_J1_indexOf_4cfef_22 4000 6 v (if (0 : Int32) < 0 then 0 else 0) (if Int32.ofNat 8 < 8 then Int32.ofNat 8 else 8) h = some (q, h)
    rw [show (if (0 : Int32) < 0 then (0 : Int32) else 0) = 0 by decide, show (if Int32.ofNat 8 < 8 then Int32.ofNat 8 else 8) = 8 by decide]
    unfold f_J1_indexOf_4cfef_22 f_J1_indexOfChar_4cfef f_J1_indexOfChar_4cfef_0
    rw [if_pos (by decide)]
    have e1' : f_J1_indexOfChar_4cfef_7 4000 4000 6 8 (Int32.toInt8 v).toInt32 0 h = some (q, h) := e1
    rw [e1', Option.bind_some]
  rw [e3, Option.bind_some, Option.bind_some]
