/-! THE RELATION between the class's cells and the reference's -/
theorem wC (a b c : Int32) (h : Hp) : g_X7_within a b c h = if b ≤ a ∧ a ≤ c then some (1, h) else some (0, h) := by
  unfold g_X7_within g_X7_within_0
  by_cases h1 : a < b
  · rw [if_pos h1, if_neg (by lia)]
  · by_cases h2 : c < a
    · rw [if_neg h1, if_pos h2, if_neg (by lia)]
    · rw [if_neg h1, if_neg h2, if_pos (by lia)]
theorem wI (a b c : Int32) (h : Hp) : g_X8_in a b c h = if b ≤ a ∧ a ≤ c then some (1, h) else some (0, h) := by
  unfold g_X8_in g_X8_in_0
  by_cases h1 : a < b
  · rw [if_pos h1, if_neg (by lia)]
  · by_cases h2 : c < a
    · rw [if_neg h1, if_pos h2, if_neg (by lia)]
    · rw [if_neg h1, if_neg h2, if_pos (by lia)]
noncomputable def clp (v lo hi : Int32) : Int32 := if v < lo then lo else if hi < v then hi else v
/-- a text's parts (as the reference keeps them): where they begin -/
noncomputable def toff (T : Nat → List Int32) (p : Nat) : Nat := ((List.range p).map (fun q => (T q).length)).sum
noncomputable def isOp (c : Int32) : Bool := decide (100000 ≤ c) || decide (c < 11)
/-- the code of the class for one of the reference -/
noncomputable def cmap (c : Int32) : Int32 := if 100000 ≤ c then c - 100000 else if c < 11 then -1 - c else -c
noncomputable def okCode (c : Int32) : Prop := (100000 ≤ c ∧ c ≤ 109999) ∨ (0 ≤ c ∧ c ≤ 5) ∨ (11 ≤ c ∧ c ≤ 19)
/-- codes after which the heap of values is as high as said, never higher than 31 -/
noncomputable def hgt : List Int32 → Nat → Nat → Prop
  | [], k, e => k = e
  | c :: cs, k, e => okCode c ∧ (if isOp c = true then k + 1 ≤ 31 ∧ hgt cs (k + 1) e else if c = 13 ∨ c = 19 then 1 ≤ k ∧ hgt cs k e else 2 ≤ k ∧ hgt cs (k - 1) e)
noncomputable def okT (T : Nat → List Int32) : Prop := (∀ p, p < 3 → hgt (T p) 0 1) ∧ toff T 3 ≤ 160
noncomputable def TxR (t : Nat) (T : Nat → List Int32) (h : Hp) : Prop := (∀ p, p < 4 → gI h 104 (4 * t + p) = iN (toff T p)) ∧ ∀ p, p < 3 → ∀ k, k < (T p).length → gI h 103 (200 * t + (toff T p + k)) = (T p).getD k 0
noncomputable def TxC (t : Nat) (T : Nat → List Int32) (h : Hp) : Prop := (∀ p, p < 3 → gI h (50 + 4 * t) p = iN (toff T (p + 1))) ∧ ∀ p, p < 3 → ∀ k, k < (T p).length → gI h (49 + 4 * t) (toff T p + k) = cmap ((T p).getD k 0)
noncomputable def RDo (h : Hp) : Prop := ∀ k, k < 12 → gI h 18 k = gI h 97 k ∧ 1 ≤ gI h 97 k ∧ gI h 97 k ≤ 99999 ∧ gI h 19 k = gI h 98 k ∧ 1 ≤ gI h 98 k ∧ gI h 98 k ≤ 999
noncomputable def RTa (h : Hp) : Prop := gI h 20 0 = gI h 96 2 ∧ gI h 20 1 = gI h 96 3 ∧ gI h 20 2 = gI h 96 4 ∧ 0 ≤ gI h 96 2 ∧ gI h 96 2 ≤ 9 ∧ 0 ≤ gI h 96 3 ∧ gI h 96 3 ≤ 9 ∧ 0 ≤ gI h 96 4 ∧ gI h 96 4 ≤ 9
noncomputable def RTc (h : Hp) : Prop := gI h 17 3 = gI h 96 14 ∧ gI h 16 13 = gI h 96 13 ∧ 1 ≤ gI h 96 13 ∧ gI h 96 13 ≤ 6 ∧ 0 ≤ gI h 96 14 ∧ gI h 96 14 < gI h 96 13
noncomputable def RIm (h : Hp) : Prop := gI h 16 14 = gI h 96 15 ∧ (gI h 96 15 = 0 ∨ (gI h 96 15 = 1 ∧
  (∀ k, k < 12 → gI h 22 k = gI h 105 k ∧ 1 ≤ gI h 105 k ∧ gI h 105 k ≤ 99999 ∧ gI h 23 k = gI h 106 k ∧ 1 ≤ gI h 106 k ∧ gI h 106 k ≤ 999) ∧
  (gI h 24 0 = gI h 96 16 ∧ gI h 24 1 = gI h 96 17 ∧ gI h 24 2 = gI h 96 18 ∧ 0 ≤ gI h 96 16 ∧ gI h 96 16 ≤ 9 ∧ 0 ≤ gI h 96 17 ∧ gI h 96 17 ≤ 9 ∧ 0 ≤ gI h 96 18 ∧ gI h 96 18 ≤ 9) ∧
  gI h 21 3 = gI h 96 19 ∧ 0 ≤ gI h 96 19 ∧ gI h 96 19 < gI h 96 13))
noncomputable def RSt (h : Hp) : Prop := gI h 16 12 = gI h 96 5 ∧ 0 ≤ gI h 96 5 ∧ gI h 96 5 ≤ 12 ∧ ∀ k, k < 12 → iN k < gI h 96 5 → gI h (36 + k) 0 = gI h 99 k ∧ 0 ≤ gI h 99 k ∧ gI h 99 k ≤ 5 ∧ gI h (36 + k) 1 = gI h 100 k ∧ 0 ≤ gI h 100 k ∧ gI h 100 k ≤ 9 ∧ gI h (36 + k) 2 = gI h 101 k ∧ 1 ≤ gI h 101 k ∧ gI h 101 k ≤ 9
noncomputable def RTp (h : Hp) : Prop := gI h 31 1 = gI h 96 10 ∧ 0 ≤ gI h 96 10 ∧ gI h 96 10 ≤ 160 ∧ ∀ k, k < 160 → iN k < gI h 96 10 → gI h 32 k = gI h 102 k ∧ 0 ≤ gI h 102 k ∧ gI h 102 k ≤ 255
noncomputable def RTx (h : Hp) : Prop := ∀ t, t < 6 → iN t < gI h 96 13 → ∃ T, okT T ∧ TxC t T h ∧ TxR t T h
noncomputable def RSh (h : Hp) : Prop := ∀ s, s < 4 → gI h (72 + 2 * s) 1 = gI h 107 s ∧ (gI h 107 s = -1 ∨ (0 ≤ gI h 107 s ∧ gI h 107 s ≤ 2 ∧ gI h (72 + 2 * s) 2 = gI h 108 s ∧ 0 ≤ gI h 108 s ∧ gI h 108 s ≤ 40 ∧ ∀ k, k < 40 → gI h (73 + 2 * s) k = gI h 109 (40 * s + k)))
noncomputable def RKk (L : Nat) (h : Hp) : Prop := h.1 = KK8 L ∧ gI h 96 45 = 0 ∧ ∀ k, k < 96 → gI h 111 k = wordsT.getD k 0
noncomputable def Rel (L : Nat) (h : Hp) : Prop := RDo h ∧ RTa h ∧ RTc h ∧ RIm h ∧ RSt h ∧ RTp h ∧ RTx h ∧ RSh h ∧ RKk L h
/-! what each family stands on -/
noncomputable abbrev Eq' (h h' : Hp) (P : Nat → Nat → Prop) : Prop := ∀ a k, P a k → gI h' a k = gI h a k
theorem RDo_c {h h' : Hp} (e : Eq' h h' (fun a _ => a = 18 ∨ a = 19 ∨ a = 97 ∨ a = 98)) (H : RDo h) : RDo h' := by
  intro k hk
  rw [e 18 k (by omega), e 19 k (by omega), e 97 k (by omega), e 98 k (by omega)]
  exact H k hk
theorem RTa_c {h h' : Hp} (e : Eq' h h' (fun a k => a = 20 ∨ (a = 96 ∧ 2 ≤ k ∧ k ≤ 4))) (H : RTa h) : RTa h' := by
  unfold RTa
  rw [e 20 0 (by omega), e 20 1 (by omega), e 20 2 (by omega), e 96 2 (by omega), e 96 3 (by omega), e 96 4 (by omega)]
  exact H
theorem RTc_c {h h' : Hp} (e : Eq' h h' (fun a k => (a = 17 ∧ k = 3) ∨ (a = 16 ∧ k = 13) ∨ (a = 96 ∧ (k = 13 ∨ k = 14)))) (H : RTc h) : RTc h' := by
  unfold RTc
  rw [e 17 3 (by omega), e 16 13 (by omega), e 96 13 (by omega), e 96 14 (by omega)]
  exact H
theorem RIm_c {h h' : Hp} (e : Eq' h h' (fun a k => (21 ≤ a ∧ a ≤ 24) ∨ (a = 16 ∧ k = 14) ∨ a = 105 ∨ a = 106 ∨ (a = 96 ∧ (k = 13 ∨ (15 ≤ k ∧ k ≤ 19))))) (H : RIm h) : RIm h' := by
  unfold RIm
  rw [e 16 14 (by omega), e 96 15 (by omega), e 24 0 (by omega), e 24 1 (by omega), e 24 2 (by omega), e 96 16 (by omega), e 96 17 (by omega), e 96 18 (by omega), e 96 19 (by omega), e 21 3 (by omega), e 96 13 (by omega)]
  refine ⟨H.1, H.2.imp id (fun z => ⟨z.1, fun k hk => ?_, z.2.2⟩)⟩
  rw [e 22 k (by omega), e 23 k (by omega), e 105 k (by omega), e 106 k (by omega)]
  exact z.2.1 k hk
theorem RSt_c {h h' : Hp} (e : Eq' h h' (fun a k => (a = 16 ∧ k = 12) ∨ (36 ≤ a ∧ a ≤ 47) ∨ (a = 96 ∧ k = 5) ∨ (99 ≤ a ∧ a ≤ 101))) (H : RSt h) : RSt h' := by
  unfold RSt
  rw [e 16 12 (by omega), e 96 5 (by omega)]
  refine ⟨H.1, H.2.1, H.2.2.1, fun k hk hl => ?_⟩
  rw [e (36 + k) 0 (by omega), e (36 + k) 1 (by omega), e (36 + k) 2 (by omega), e 99 k (by omega), e 100 k (by omega), e 101 k (by omega)]
  exact H.2.2.2 k hk hl
theorem RTp_c {h h' : Hp} (e : Eq' h h' (fun a k => (a = 31 ∧ k = 1) ∨ a = 32 ∨ (a = 96 ∧ k = 10) ∨ a = 102)) (H : RTp h) : RTp h' := by
  unfold RTp
  rw [e 31 1 (by omega), e 96 10 (by omega)]
  refine ⟨H.1, H.2.1, H.2.2.1, fun k hk hl => ?_⟩
  rw [e 32 k (by omega), e 102 k (by omega)]
  exact H.2.2.2 k hk hl
theorem TxR_c {h h' : Hp} {t : Nat} {T : Nat → List Int32} (e : Eq' h h' (fun a k => (a = 104 ∧ 4 * t ≤ k ∧ k < 4 * t + 4) ∨ (a = 103 ∧ 200 * t ≤ k ∧ k < 200 * t + 200))) (hT : okT T) (H : TxR t T h) : TxR t T h' := by
  refine ⟨fun p hp => ?_, fun p hp k hk => ?_⟩
  · rw [e 104 (4 * t + p) (by omega)]; exact H.1 p hp
  · have h1 := hT.2
    have h2 : toff T p + k < toff T 3 := by
      have : p = 0 ∨ p = 1 ∨ p = 2 := by omega
      unfold toff
      rcases this with rfl | rfl | rfl <;> simp [List.range_succ] <;> omega
    rw [e 103 _ (by omega)]; exact H.2 p hp k hk
theorem TxC_c {h h' : Hp} {t : Nat} {T : Nat → List Int32} (e : Eq' h h' (fun a k => a = 49 + 4 * t ∨ a = 50 + 4 * t)) (H : TxC t T h) : TxC t T h' := by
  refine ⟨fun p hp => ?_, fun p hp k hk => ?_⟩
  · rw [e _ _ (by omega)]; exact H.1 p hp
  · rw [e _ _ (by omega)]; exact H.2 p hp k hk
noncomputable def isTxt (a : Nat) : Prop := a = 49 ∨ a = 50 ∨ a = 53 ∨ a = 54 ∨ a = 57 ∨ a = 58 ∨ a = 61 ∨ a = 62 ∨ a = 65 ∨ a = 66 ∨ a = 69 ∨ a = 70
theorem RTx_c {h h' : Hp} (e : Eq' h h' (fun a k => isTxt a ∨ a = 103 ∨ a = 104 ∨ (a = 96 ∧ k = 13))) (H : RTx h) : RTx h' := by
  intro t ht hl
  rw [e 96 13 (by omega)] at hl
  obtain ⟨T, h1, h2, h3⟩ := H t ht hl
  refine ⟨T, h1, TxC_c (fun a k q => e a k ?_) h2, TxR_c (fun a k q => e a k ?_) h1 h3⟩
  · unfold isTxt; omega
  · omega
theorem RSh_c {h h' : Hp} (e : Eq' h h' (fun a k => (72 ≤ a ∧ a ≤ 79) ∨ (107 ≤ a ∧ a ≤ 109))) (H : RSh h) : RSh h' := by
  intro s hs
  rw [e (72 + 2 * s) 1 (by omega), e 107 s (by omega), e (72 + 2 * s) 2 (by omega), e 108 s (by omega)]
  refine ⟨(H s hs).1, (H s hs).2.imp id (fun z => ⟨z.1, z.2.1, z.2.2.1, z.2.2.2.1, z.2.2.2.2.1, fun k hk => ?_⟩)⟩
  rw [e (73 + 2 * s) k (by omega), e 109 _ (by omega)]
  exact z.2.2.2.2.2 k hk
theorem RKk_c {L : Nat} {h h' : Hp} (ek : h'.1 = h.1) (e : Eq' h h' (fun a k => (a = 96 ∧ k = 45) ∨ a = 111)) (H : RKk L h) : RKk L h' := by
  refine ⟨ek.trans H.1, ?_, fun k hk => ?_⟩
  · rw [e 96 45 (by omega)]; exact H.2.1
  · rw [e 111 k (by omega)]; exact H.2.2 k hk
/-- the cells that mean nothing from call to call -/
noncomputable def SX (a k : Nat) : Prop := (25 ≤ a ∧ a ≤ 28) ∨ (a = 31 ∧ k ≠ 1) ∨ a = 34 ∨ a = 35 ∨ a = 51 ∨ a = 55 ∨ a = 59 ∨ a = 63 ∨ a = 67 ∨ a = 71 ∨ (80 ≤ a ∧ a ≤ 95) ∨ (112 ≤ a) ∨ (a = 96 ∧ ((26 ≤ k ∧ k ≤ 44) ∨ 46 ≤ k))
theorem Rel_fr {L : Nat} {h h' : Hp} (f : Fr SX h h') (H : Rel L h) : Rel L h' := by
  obtain ⟨h1, h2, h3, h4, h5, h6, h7, h8, h9⟩ := H
  have e : ∀ (P : Nat → Nat → Prop), (∀ a k, P a k → ¬ SX a k) → Eq' h h' P := fun P hP a k hp => f.i (hP a k hp)
  refine ⟨RDo_c (e _ fun a k q => ?_) h1, RTa_c (e _ fun a k q => ?_) h2, RTc_c (e _ fun a k q => ?_) h3, RIm_c (e _ fun a k q => ?_) h4, RSt_c (e _ fun a k q => ?_) h5, RTp_c (e _ fun a k q => ?_) h6, RTx_c (e _ fun a k q => ?_) h7, RSh_c (e _ fun a k q => ?_) h8, RKk_c f.1 (e _ fun a k q => ?_) h9⟩
  all_goals (unfold SX; first | omega | (unfold isTxt at q; omega))
/-- a pair of calls: both answer, alike; the relation stays -/
noncomputable def Pair {α : Type} (L : Nat) (f g : Hp → Option (α × Hp)) (h : Hp) : Prop := ∃ v h1 h2, f h = some (v, h1) ∧ g h1 = some (v, h2) ∧ Rel L h2
/-- both answer -/
noncomputable def PairW {α : Type} (L : Nat) (f g : Hp → Option (α × Hp)) (h : Hp) : Prop := ∃ v w h1 h2, f h = some (v, h1) ∧ g h1 = some (w, h2) ∧ Rel L h2
theorem Pair.w {α : Type} {L : Nat} {f g : Hp → Option (α × Hp)} {h : Hp} (p : Pair L f g h) : PairW L f g h := by
  obtain ⟨v, h1, h2, a, b, c⟩ := p
  exact ⟨v, v, h1, h2, a, b, c⟩
/-- both leave all as it was, and answer alike -/
theorem Pair.pure {α : Type} {L : Nat} {f g : Hp → Option (α × Hp)} {h : Hp} (v : α) (R : Rel L h) (e1 : f h = some (v, h)) (e2 : g h = some (v, h)) : Pair L f g h := ⟨v, h, h, e1, e2, R⟩
/-! one family changes -/
theorem Rel_Do {L : Nat} {h h' : Hp} (H : Rel L h) (ek : h'.1 = h.1) (e : ∀ a k, ¬ (a = 18 ∨ a = 19 ∨ a = 97 ∨ a = 98) → ¬ SX a k → gI h' a k = gI h a k) (hd : RDo h') : Rel L h' := by
  obtain ⟨h1, h2, h3, h4, h5, h6, h7, h8, h9⟩ := H
  exact ⟨hd, RTa_c (fun a k q => e a k (by omega) (by unfold SX; omega)) h2, RTc_c (fun a k q => e a k (by omega) (by unfold SX; omega)) h3, RIm_c (fun a k q => e a k (by omega) (by unfold SX; omega)) h4, RSt_c (fun a k q => e a k (by omega) (by unfold SX; omega)) h5, RTp_c (fun a k q => e a k (by omega) (by unfold SX; omega)) h6, RTx_c (fun a k q => e a k (by unfold isTxt at q; omega) (by unfold SX; unfold isTxt at q; omega)) h7, RSh_c (fun a k q => e a k (by omega) (by unfold SX; omega)) h8, RKk_c ek (fun a k q => e a k (by omega) (by unfold SX; omega)) h9⟩
theorem Rel_Ta {L : Nat} {h h' : Hp} (H : Rel L h) (ek : h'.1 = h.1) (e : ∀ a k, ¬ (a = 20 ∨ (a = 96 ∧ 2 ≤ k ∧ k ≤ 4)) → ¬ SX a k → gI h' a k = gI h a k) (hd : RTa h') : Rel L h' := by
  obtain ⟨h1, h2, h3, h4, h5, h6, h7, h8, h9⟩ := H
  exact ⟨RDo_c (fun a k q => e a k (by omega) (by unfold SX; omega)) h1, hd, RTc_c (fun a k q => e a k (by omega) (by unfold SX; omega)) h3, RIm_c (fun a k q => e a k (by omega) (by unfold SX; omega)) h4, RSt_c (fun a k q => e a k (by omega) (by unfold SX; omega)) h5, RTp_c (fun a k q => e a k (by omega) (by unfold SX; omega)) h6, RTx_c (fun a k q => e a k (by unfold isTxt at q; omega) (by unfold SX; unfold isTxt at q; omega)) h7, RSh_c (fun a k q => e a k (by omega) (by unfold SX; omega)) h8, RKk_c ek (fun a k q => e a k (by omega) (by unfold SX; omega)) h9⟩
theorem Rel_Tc {L : Nat} {h h' : Hp} (H : Rel L h) (ek : h'.1 = h.1) (e : ∀ a k, ¬ ((a = 17 ∧ k = 3) ∨ (a = 96 ∧ k = 14)) → ¬ SX a k → gI h' a k = gI h a k) (hd : RTc h') : Rel L h' := by
  obtain ⟨h1, h2, h3, h4, h5, h6, h7, h8, h9⟩ := H
  exact ⟨RDo_c (fun a k q => e a k (by omega) (by unfold SX; omega)) h1, RTa_c (fun a k q => e a k (by omega) (by unfold SX; omega)) h2, hd, RIm_c (fun a k q => e a k (by omega) (by unfold SX; omega)) h4, RSt_c (fun a k q => e a k (by omega) (by unfold SX; omega)) h5, RTp_c (fun a k q => e a k (by omega) (by unfold SX; omega)) h6, RTx_c (fun a k q => e a k (by unfold isTxt at q; omega) (by unfold SX; unfold isTxt at q; omega)) h7, RSh_c (fun a k q => e a k (by omega) (by unfold SX; omega)) h8, RKk_c ek (fun a k q => e a k (by omega) (by unfold SX; omega)) h9⟩
theorem Rel_Im {L : Nat} {h h' : Hp} (H : Rel L h) (ek : h'.1 = h.1) (e : ∀ a k, ¬ ((21 ≤ a ∧ a ≤ 24) ∨ (a = 16 ∧ k = 14) ∨ a = 105 ∨ a = 106 ∨ (a = 96 ∧ 15 ≤ k ∧ k ≤ 19)) → ¬ SX a k → gI h' a k = gI h a k) (hd : RIm h') : Rel L h' := by
  obtain ⟨h1, h2, h3, h4, h5, h6, h7, h8, h9⟩ := H
  exact ⟨RDo_c (fun a k q => e a k (by omega) (by unfold SX; omega)) h1, RTa_c (fun a k q => e a k (by omega) (by unfold SX; omega)) h2, RTc_c (fun a k q => e a k (by omega) (by unfold SX; omega)) h3, hd, RSt_c (fun a k q => e a k (by omega) (by unfold SX; omega)) h5, RTp_c (fun a k q => e a k (by omega) (by unfold SX; omega)) h6, RTx_c (fun a k q => e a k (by unfold isTxt at q; omega) (by unfold SX; unfold isTxt at q; omega)) h7, RSh_c (fun a k q => e a k (by omega) (by unfold SX; omega)) h8, RKk_c ek (fun a k q => e a k (by omega) (by unfold SX; omega)) h9⟩
theorem Rel_St {L : Nat} {h h' : Hp} (H : Rel L h) (ek : h'.1 = h.1) (e : ∀ a k, ¬ ((a = 16 ∧ k = 12) ∨ (36 ≤ a ∧ a ≤ 47) ∨ (a = 96 ∧ k = 5) ∨ (99 ≤ a ∧ a ≤ 101)) → ¬ SX a k → gI h' a k = gI h a k) (hd : RSt h') : Rel L h' := by
  obtain ⟨h1, h2, h3, h4, h5, h6, h7, h8, h9⟩ := H
  exact ⟨RDo_c (fun a k q => e a k (by omega) (by unfold SX; omega)) h1, RTa_c (fun a k q => e a k (by omega) (by unfold SX; omega)) h2, RTc_c (fun a k q => e a k (by omega) (by unfold SX; omega)) h3, RIm_c (fun a k q => e a k (by omega) (by unfold SX; omega)) h4, hd, RTp_c (fun a k q => e a k (by omega) (by unfold SX; omega)) h6, RTx_c (fun a k q => e a k (by unfold isTxt at q; omega) (by unfold SX; unfold isTxt at q; omega)) h7, RSh_c (fun a k q => e a k (by omega) (by unfold SX; omega)) h8, RKk_c ek (fun a k q => e a k (by omega) (by unfold SX; omega)) h9⟩
theorem Rel_Tp {L : Nat} {h h' : Hp} (H : Rel L h) (ek : h'.1 = h.1) (e : ∀ a k, ¬ ((a = 31 ∧ k = 1) ∨ a = 32 ∨ (a = 96 ∧ k = 10) ∨ a = 102) → ¬ SX a k → gI h' a k = gI h a k) (hd : RTp h') : Rel L h' := by
  obtain ⟨h1, h2, h3, h4, h5, h6, h7, h8, h9⟩ := H
  exact ⟨RDo_c (fun a k q => e a k (by omega) (by unfold SX; omega)) h1, RTa_c (fun a k q => e a k (by omega) (by unfold SX; omega)) h2, RTc_c (fun a k q => e a k (by omega) (by unfold SX; omega)) h3, RIm_c (fun a k q => e a k (by omega) (by unfold SX; omega)) h4, RSt_c (fun a k q => e a k (by omega) (by unfold SX; omega)) h5, hd, RTx_c (fun a k q => e a k (by unfold isTxt at q; omega) (by unfold SX; unfold isTxt at q; omega)) h7, RSh_c (fun a k q => e a k (by omega) (by unfold SX; omega)) h8, RKk_c ek (fun a k q => e a k (by omega) (by unfold SX; omega)) h9⟩
theorem Rel_Sh {L : Nat} {h h' : Hp} (H : Rel L h) (ek : h'.1 = h.1) (e : ∀ a k, ¬ ((72 ≤ a ∧ a ≤ 79) ∨ (107 ≤ a ∧ a ≤ 109)) → ¬ SX a k → gI h' a k = gI h a k) (hd : RSh h') : Rel L h' := by
  obtain ⟨h1, h2, h3, h4, h5, h6, h7, h8, h9⟩ := H
  exact ⟨RDo_c (fun a k q => e a k (by omega) (by unfold SX; omega)) h1, RTa_c (fun a k q => e a k (by omega) (by unfold SX; omega)) h2, RTc_c (fun a k q => e a k (by omega) (by unfold SX; omega)) h3, RIm_c (fun a k q => e a k (by omega) (by unfold SX; omega)) h4, RSt_c (fun a k q => e a k (by omega) (by unfold SX; omega)) h5, RTp_c (fun a k q => e a k (by omega) (by unfold SX; omega)) h6, RTx_c (fun a k q => e a k (by unfold isTxt at q; omega) (by unfold SX; unfold isTxt at q; omega)) h7, hd, RKk_c ek (fun a k q => e a k (by omega) (by unfold SX; omega)) h9⟩
