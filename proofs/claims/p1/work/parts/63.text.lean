/-! A TEXT: three sections -/
noncomputable def cat (T : Nat → List Int32) : Nat → List Int32
  | 0 => []
  | q + 1 => cat T q ++ T q
theorem cat_len (T : Nat → List Int32) (q : Nat) : (cat T q).length = toff T q := by
  induction q with
  | zero => rfl
  | succ q ih =>
    rw [cat, List.length_append, ih]
    unfold toff
    rw [List.range_succ, List.map_append, List.sum_append]
    simp
theorem cat_cg {T T' : Nat → List Int32} (q : Nat) (h : ∀ i, i < q → T i = T' i) : cat T q = cat T' q := by
  induction q with
  | zero => rfl
  | succ q ih => rw [cat, cat, ih (fun i hi => h i (by omega)), h q (by omega)]
theorem toff_cg {T T' : Nat → List Int32} (q : Nat) (h : ∀ i, i < q → T i = T' i) : toff T q = toff T' q := by
  rw [← cat_len, ← cat_len, cat_cg q h]
noncomputable def SCt (t a k : Nat) : Prop := SCd t a k ∨ a = 50 + 4 * t
noncomputable def SRt (t a k : Nat) : Prop := SRd t a k ∨ (a = 104 ∧ 4 * t ≤ k ∧ k < 4 * t + 4)
/-- what the reference has behind q sections -/
noncomputable def RTt (B : Nat → Int32) (n t q p : Nat) (T : Nat → List Int32) (h : Hp) : Prop := TPr B n h ∧ gI h 96 26 = iN p ∧ RCd t (cat T q) h ∧ ∀ i, i < q → gI h 104 (4 * t + i) = iN (toff T i)
theorem TPr_s {B : Nat → Int32} {n t : Nat} {h h1 : Hp} (f : Fr (SRt t) h h1) (H : TPr B n h) : TPr B n h1 := TPr_fr f (fun a k => by unfold SRt SRd SMc; omega) H
theorem kf0 : ∀ k ∈ KL, (rkd k = 0 ↔ k = 0) := by decide +kernel
theorem kf8 : ∀ k ∈ KL, (rkd k = 3 ↔ (10 ≤ k ∧ k ≤ 12)) := by decide +kernel
/-- the reference gives up -/
theorem r_giveup {m q : Nat} {h : Hp} (hm : 0 < m) : g_X8_text_26 4000 m 0 (iN q) h = g_X8_text_122 4000 0 h := by
  obtain ⟨m, rfl⟩ : ∃ z, m = z + 1 := ⟨m - 1, by omega⟩
  rw [g_X8_text_26]
  unfold g_X8_text_101
  by_cases c : 3 ≤ iN q
  · rw [if_pos c, if_pos rfl]
  · rw [if_neg c, if_pos rfl, if_pos rfl]
/-- the reference begins a section -/
theorem r_sec {B : Nat → Int32} {n t q p : Nat} {T : Nat → List Int32} {h : Hp} (O : okB2 B n) (ht : t < 6) (hq : q < 3) (hp : p ≤ n) (W : RTt B n t q p T h) (m : Nat) : ∃ h1, RAt B n p h1 ∧ Fr (SRt t) h h1 ∧ RTt B n t q (en B n p) T h1 ∧ (q < 3 → gI h1 104 (4 * t + q) = iN (toff T q)) ∧ g_X8_text_26 4000 (m + 1) 1 (iN q) h = g_X8_text_78 4000 (g_X8_text_26 4000 m) (if kd B n p = iN (10 + q) then 1 else 0) (iN q) h1 := by
  obtain ⟨W1, W2, W3, W4⟩ := W
  obtain ⟨h0, a0, A0, f0⟩ := r_next O W1 hp W2
  have hk := kd_KL B n p
  obtain ⟨q26, q27, q28, q29, q29'⟩ := id A0
  have C0 : RCd t (cat T q) h0 := ⟨by rw [f0.i (by omega)]; exact W3.1, fun i hi => by rw [f0.i (by omega)]; exact W3.2.1 i hi, by rw [f0.i (by omega)]; exact W3.2.2⟩
  obtain ⟨h1, e1⟩ : ∃ h1, h1 = hsi h0 104 (4 * t + q) (iN (toff T q)) := ⟨_, rfl⟩
  have f1 : Fr (fun a k => a = 104 ∧ k = 4 * t + q) h0 h1 := by rw [e1]; exact (Fr.rfl' _ _).si _ ⟨rfl, rfl⟩
  have F : Fr (SRt t) h h1 := (f0.mono (fun a k z => Or.inl (Or.inr z))).tr (f1.mono (fun a k z => Or.inr (by omega)))
  refine ⟨h1, ⟨?_, ?_, ?_, fun z => ?_, fun z => ?_⟩, F, ⟨TPr_s F W1, ?_, ⟨?_, fun i hi => ?_, ?_⟩, fun i hi => ?_⟩, fun _ => by rw [e1, gI_hsi, if_pos ⟨rfl, rfl⟩], ?_⟩
  · rw [f1.i (by omega)]; exact q26
  · rw [f1.i (by omega)]; exact q27
  · rw [f1.i (by omega)]; exact q28
  · rw [f1.i (by omega)]; exact q29 z
  · rw [f1.i (by omega)]; exact q29' z
  · rw [f1.i (by omega)]; exact q26
  · rw [f1.i (by omega)]; exact C0.1
  · rw [f1.i (by omega)]; exact C0.2.1 i hi
  · rw [f1.i (by omega)]; exact C0.2.2
  · rw [f1.i (by omega), f0.i (by omega)]; exact W4 i hi
  have e4 : 4 * iN t + iN q = iN (4 * t + q) := by
    rw [show (4 : Int32) = iN 4 from rfl, mul_iN (by omega) (by omega) (by omega), add_iN (by omega) (by omega)]
  have e60 : ∀ x, g_X8_text_60 4000 (g_X8_text_26 4000 m) (iN q) x h0 = g_X8_text_78 4000 (g_X8_text_26 4000 m) x (iN q) h1 := by
    intro x
    unfold g_X8_text_60
    rw [C0.2.2, e4, if_pos (iN_inb (by omega) (by decide)), iN_ix (by omega), C0.1, cat_len, ← e1]
  rw [g_X8_text_26, if_neg (show ¬ (3 : Int32) ≤ iN q by rw [show (3 : Int32) = iN 3 from rfl, iN_le (by omega) (by omega)]; omega), if_neg (by decide), a0, Option.bind_some, q28]
  by_cases k : kd B n p = iN (10 + q)
  · have b : 10 ≤ kd B n p ∧ kd B n p ≤ 12 ∧ kd B n p - 10 = iN q := by
      rw [k]; exact (show ∀ q, q < 3 → 10 ≤ iN (10 + q) ∧ iN (10 + q) ≤ 12 ∧ iN (10 + q) - 10 = iN q by decide) q hq
    rw [if_neg (fun z => z ((kf8 _ hk).mpr ⟨b.1, b.2.1⟩)), q29' ⟨b.1, b.2.1⟩, b.2.2, if_neg (fun z => z rfl), if_pos k, e60]
  · rw [if_neg k]
    by_cases k3 : rkd (kd B n p) ≠ 3
    · rw [if_pos k3]; exact e60 0
    · rw [if_neg k3]
      have k3' : rkd (kd B n p) = 3 := Decidable.not_not.mp k3
      have b := (kf8 _ hk).mp k3'
      rw [q29' b, if_pos]
      · exact e60 0
      · intro z
        refine k ?_
        have e : kd B n p = iN q + 10 := by lia
        rw [e, show (10 : Int32) = iN 10 from rfl, add_iN (by omega) (by omega), Nat.add_comm]
/-- an expression, by the reference -/
theorem r_expr {B : Nat → Int32} {n t q p : Nat} {T : Nat → List Int32} {h : Hp} {res : Option (List Int32) × Nat} (O : okB2 B n) (ht : t < 6) (hp : p ≤ n) (hl : (cat T q).length ≤ p) (W : RTt B n t q p T h) (e : mrun B n 4000 true true [] (cat T q) 0 p = some res) : ∃ h', g_X8_eRead 4000 h = some (if res.1.isSome = true then 1 else 0, h') ∧ RAt B n res.2 h' ∧ Fr (SRd t) h h' ∧ (∀ o', res.1 = some o' → RCd t o' h') := by
  obtain ⟨W1, W2, W3, W4⟩ := W
  obtain ⟨h0, e0⟩ : ∃ h0, h0 = hsi (hsi h 96 32 0) 96 33 0 := ⟨_, rfl⟩
  have f0 : Fr (fun a k => a = 96 ∧ (k = 32 ∨ k = 33)) h h0 := by rw [e0]; exact ((Fr.rfl' _ _).si _ (by omega)).si _ (by omega)
  have M0 : MS t [] (cat T q) 0 h0 := by
    refine ⟨by rw [e0, gI_hsi, if_neg (by omega), gI_hsi, if_pos ⟨rfl, rfl⟩]; rfl, trivial, by rw [e0, gI_hsi, if_pos ⟨rfl, rfl⟩], by rw [f0.i (by omega)]; exact W3.1, fun i hi => by rw [f0.i (by omega)]; exact W3.2.1 i hi, by rw [f0.i (by omega)]; exact W3.2.2⟩
  obtain ⟨h', a1, P1, P2, P3, P4⟩ := r_mach O ht 4000 true true [] (cat T q) 0 p h0 res M0 (TPr_fr f0 (fun a k => by omega) W1) (by rw [f0.i (by omega)]; exact W2) hp (by simpa using hl) e
  refine ⟨h', ?_, P1, (f0.mono (fun a k z => Or.inl (Or.inr (Or.inr (by omega))))).tr P4, fun o' z => (P3 o' z).1⟩
  unfold g_X8_eRead g_X8_eRead_0 g_X8_eRead_5
  rw [← e0]
  exact a1
