/-! THE START: what the constructors' runs leave (closed runs by the kernel, laid over to any length of the script) -/
noncomputable def h00 (L : Nat) : Hp := (roK L, fun _ _ => 0, fun _ _ => 0, fun _ _ => none)
noncomputable def KK7 (L : Nat) : List (Nat × Nat) := roK L ++ (KTL.drop 16).take 80
noncomputable def KK8 (L : Nat) : List (Nat × Nat) := roK L ++ KTL.drop 16
noncomputable def Q16 (a : Nat) : Nat → Hp → Option Hp := fun v h => if v = a then some h else none
noncomputable def refsOk (lo hi : Nat) (o : Hp) : Bool := (List.range hi).all (fun a => decide (a < lo) || (List.range 60).all (fun j => (a == 80 && j == 1) || gR o a j == RT a j))
noncomputable def IL7 : List (Nat × Nat × Int32) :=
  (List.range 12).flatMap (fun k => [(18, k, 60000), (19, k, 100), (22, k, 60000), (23, k, 100)]) ++
  [(20, 0, 5), (20, 1, 2), (20, 2, 5), (24, 0, 5), (24, 1, 2), (24, 2, 5), (17, 3, 0), (21, 3, 0), (16, 12, 0), (16, 13, 1), (16, 14, 0), (31, 1, 0),
   (72, 1, -1), (74, 1, -1), (76, 1, -1), (78, 1, -1), (72, 2, 0), (74, 2, 0), (76, 2, 0), (78, 2, 0)]
noncomputable def lawT : List Int32 := by1.take 83
noncomputable def wordsT : List Int32 := [100, 114, 97, 119, 32, 32, 32, 32, 116, 101, 97, 114, 115, 32, 32, 32, 115, 116, 105, 99, 107, 115, 32, 32, 119, 101, 116, 32, 32, 32, 32, 32, 116, 104, 105, 99, 107, 32, 32, 32, 115, 116, 105, 102, 102, 32, 32, 32, 112, 97, 99, 101, 32, 32, 32, 32, 102, 111, 108, 100, 115, 32, 32, 32, 100, 117, 115, 116, 32, 32, 32, 32, 111, 114, 32, 32, 32, 32, 32, 32, 97, 110, 100, 32, 32, 32, 32, 32, 110, 111, 116, 32, 32, 32, 32, 32]
noncomputable def IL8 : List (Nat × Nat × Int32) :=
  (List.range 12).flatMap (fun k => [(97, k, 60000), (98, k, 100)]) ++
  (List.range 83).map (fun k => (110, k, lawT.getD k 0)) ++ (List.range 96).map (fun k => (111, k, wordsT.getD k 0)) ++
  [(96, 2, 5), (96, 3, 2), (96, 4, 5), (96, 5, 0), (96, 10, 0), (96, 13, 0), (96, 14, 0), (96, 15, 0), (96, 45, 0),
   (107, 0, -1), (107, 1, -1), (107, 2, -1), (107, 3, -1), (108, 0, 0), (108, 1, 0), (108, 2, 0), (108, 3, 0)]
noncomputable def intsOk (l : List (Nat × Nat × Int32)) (o : Hp) : Bool := l.all (fun q => gI o q.1 q.2.1 == q.2.2)
set_option maxRecDepth 1000000 in
theorem h7_ok : (match f_X7_init_0 4000 (Q16 16) 16 (hnew (h00 0) (7, nFf 7)) with | some o => decide (o.1 = KK7 0) && refsOk 16 96 o && decide (gR o 80 1 = some 48) && intsOk IL7 o | none => false) = true := by decide +kernel
noncomputable def hc8 : Hp := (KK7 0, fun _ _ => 0, fun _ _ => 0, fun _ _ => none)
set_option maxRecDepth 1000000 in
theorem h8_ok : (match f_X8_init_0 4000 (Q16 96) 96 (hnew hc8 (8, nFf 8)) with | some o => decide (o.1 = KK8 0) && refsOk 96 125 o && intsOk IL8 o | none => false) = true := by decide +kernel
theorem RT60 {a j : Nat} (hj : 60 ≤ j) : RT a j = none := by
  unfold RT
  have hl : (RTL.getD a []).length ≤ 60 := by
    rw [List.getD_eq_getElem?_getD]
    cases e : RTL[a]? with
    | none => exact Nat.zero_le _
    | some l =>
      have hm := List.mem_of_getElem? e
      have : ∀ l ∈ RTL, l.length ≤ 60 := by decide +kernel
      exact this l hm
  rw [List.getD_eq_getElem?_getD, List.getElem?_eq_none (by omega)]; rfl
theorem refs_of {lo hi : Nat} {o : Hp} (h : refsOk lo hi o = true) (hn : ∀ a j, 60 ≤ j → gR o a j = none) : ∀ a, lo ≤ a → a < hi → ∀ j, (a ≠ 80 ∨ j ≠ 1) → gR o a j = RT a j := by
  intro a h1 h2 j hj
  rcases Nat.lt_or_ge j 60 with c | c
  · have h3 := List.all_eq_true.mp h a (List.mem_range.mpr h2)
    rw [Bool.or_eq_true, decide_eq_true_eq] at h3
    rcases h3 with h3 | h3
    · omega
    have h4 := List.all_eq_true.mp h3 j (List.mem_range.mpr c)
    rw [Bool.or_eq_true, Bool.and_eq_true] at h4
    rcases h4 with ⟨z1, z2⟩ | h4
    · exact absurd (eq_of_beq z1) (fun z => hj.elim (fun w => w z) (fun w => w (eq_of_beq z2)))
    · exact eq_of_beq h4
  · rw [hn a j c, RT60 c]
theorem SLk7 (L : Nat) : SLk L (KK7 0) = KK7 L := rfl
theorem SLk8 (L : Nat) : SLk L (KK8 0) = KK8 L := rfl
theorem ints_of {l : List (Nat × Nat × Int32)} {o : Hp} (h : intsOk l o = true) : ∀ q ∈ l, gI o q.1 q.2.1 = q.2.2 := fun q hq => eq_of_beq (List.all_eq_true.mp h q hq)
theorem R00 (L : Nat) : RRL L 16 (h00 L) (h00 0) (h00 L) := by
  refine ⟨rfl, by show 16 ≤ 16; omega, fun a h1 h2 => ?_, fun a h1 => ⟨rfl, rfl, rfl⟩, fun a j x h => (by cases h), fun _ _ _ => rfl, ?_⟩
  · have : (h00 0).1.length = 16 := rfl
    omega
  · intro a h1 h2
    have h3 := lt_len (h := h00 0) (a := a) (by omega)
    have : (h00 0).1.length = 16 := rfl
    have h4 : ∀ a, a < 16 → 11 ≤ (hk (h00 0) a).1 → (hk (h00 0) a).1 ≤ 13 → (hk (h00 0) a).2 ≤ 60 := by decide
    exact h4 a (by omega) h1 h2
theorem il7_lt : ∀ q ∈ IL7, 16 ≤ q.1 ∧ q.1 < 96 := by decide +kernel
theorem il8_lt : ∀ q ∈ IL8, 96 ≤ q.1 ∧ q.1 < 125 := by decide +kernel
theorem kt_7 : ∀ a, 16 ≤ a → a < 96 → (KK7 0).getD a (99, 0) = KT a := by
  have : ∀ a, a < 96 → 16 ≤ a → (KK7 0).getD a (99, 0) = KT a := by decide +kernel
  exact fun a h1 h2 => this a h2 h1
theorem kt_8 : ∀ a, 16 ≤ a → a < 125 → (KK8 0).getD a (99, 0) = KT a := by
  have : ∀ a, a < 125 → 16 ≤ a → (KK8 0).getD a (99, 0) = KT a := by decide +kernel
  exact fun a h1 h2 => this a h2 h1
theorem SLk_getD {L : Nat} {k : List (Nat × Nat)} {a : Nat} (h : 16 ≤ a) : (SLk L k).getD a (99, 0) = k.getD a (99, 0) := by
  unfold SLk
  have : ¬ 14 = a := by omega
  rw [List.getD_eq_getElem?_getD, List.getD_eq_getElem?_getD, List.getElem?_modify]
  cases k[a]? <;> simp [this]
set_option maxRecDepth 100000 in
theorem start7 (L : Nat) (K : Nat → Hp → Option Hp) : ∃ p, f_X7_init_0 4000 K 16 (hnew (h00 L) (7, nFf 7)) = K 16 p ∧ p.1 = KK7 L ∧ SHP L 96 p ∧ (∀ q ∈ IL7, gI p q.1 q.2.1 = q.2.2) := by
  have h := h7_ok
  cases e : f_X7_init_0 4000 (Q16 16) 16 (hnew (h00 0) (7, nFf 7)) with
  | none => rw [e] at h; cases h
  | some o =>
    rw [e] at h
    simp only [Bool.and_eq_true, decide_eq_true_eq] at h
    obtain ⟨⟨⟨h1, h2⟩, h3⟩, h4⟩ := h
    obtain ⟨p, hp, Z⟩ := z_X7_init_0 (L := L) (B := 16) (g0 := h00 L) (Ψ := fun o r => ∃ p, r = K 16 p ∧ RRL L 16 (h00 L) o p) (K232 := K) (Q232 := Q16 16)
      (fun v0 b h g o Z q => by
        unfold Q16 at q
        obtain ⟨c, q⟩ := ite_some q
        cases q; rw [c]; exact ⟨g, rfl, Z⟩) (by omega) (RR_new (R00 L) (q := (7, nFf 7)) (by decide) (by decide)) e
    have hk1 : p.1 = KK7 L := by rw [Z.1, h1, SLk7]
    have hl : o.1.length = 96 := by rw [h1]; rfl
    have hc := Z.2.2.1
    rw [hl] at hc
    have hr := refs_of h2 Z.2.2.2.2.2.1
    refine ⟨p, hp, hk1, ⟨?_, fun a z1 z2 z3 => ⟨?_, fun j hj => ?_⟩, 48, ?_, Or.inl rfl⟩, fun q hq => ?_⟩
    · rw [hk1]; rfl
    · show p.1.getD a (99, 0) = _
      rw [hk1, ← SLk7, SLk_getD z1, kt_7 a z1 z2]
    · rw [(hc a z1 z2).2.2]; exact hr a z1 z2 j hj
    · rw [(hc 80 (by omega) (by omega)).2.2]; exact h3
    · have := il7_lt q hq
      show p.2.1 q.1 q.2.1 = _
      rw [(hc q.1 this.1 this.2).1]; exact ints_of h4 q hq
theorem R08 (L : Nat) {g0 : Hp} (hg : g0.1 = KK7 L) : RRL L 96 g0 hc8 g0 := by
  refine ⟨hg.trans (SLk7 L).symm, by show 96 ≤ 96; omega, fun a h1 h2 => ?_, fun a h1 => ⟨rfl, rfl, rfl⟩, fun a j x h => (by cases h), fun _ _ _ => rfl, ?_⟩
  · have : hc8.1.length = 96 := rfl
    omega
  · intro a h1 h2
    have h3 := lt_len (h := hc8) (a := a) (by omega)
    have : hc8.1.length = 96 := rfl
    have h4 : ∀ a, a < 96 → 11 ≤ (hk hc8 a).1 → (hk hc8 a).1 ≤ 13 → (hk hc8 a).2 ≤ 60 := by decide +kernel
    exact h4 a (by omega) h1 h2
set_option maxRecDepth 100000 in
theorem start8 (L : Nat) (K : Nat → Hp → Option Hp) {g0 : Hp} (hg : g0.1 = KK7 L) (S0 : SHP L 96 g0) : ∃ p, f_X8_init_0 4000 K 96 (hnew g0 (8, nFf 8)) = K 96 p ∧ p.1 = KK8 L ∧ SHP L 125 p ∧ (∀ q ∈ IL8, gI p q.1 q.2.1 = q.2.2) ∧ (∀ a j, a < 96 → gI p a j = gI g0 a j ∧ gL' p a j = gL' g0 a j ∧ gR p a j = gR g0 a j) := by
  have h := h8_ok
  cases e : f_X8_init_0 4000 (Q16 96) 96 (hnew hc8 (8, nFf 8)) with
  | none => rw [e] at h; cases h
  | some o =>
    rw [e] at h
    simp only [Bool.and_eq_true, decide_eq_true_eq] at h
    obtain ⟨⟨h1, h2⟩, h4⟩ := h
    obtain ⟨p, hp, Z⟩ := z_X8_init_0 (L := L) (B := 96) (g0 := g0) (Ψ := fun o r => ∃ p, r = K 96 p ∧ RRL L 96 g0 o p) (K1456 := K) (Q1456 := Q16 96)
      (fun v0 b h g o Z q => by
        unfold Q16 at q
        obtain ⟨c, q⟩ := ite_some q
        cases q; rw [c]; exact ⟨g, rfl, Z⟩) (by omega) (RR_new (R08 L hg) (q := (8, nFf 8)) (by decide) (by decide)) e
    have hk1 : p.1 = KK8 L := by rw [Z.1, h1, SLk8]
    have hl : o.1.length = 125 := by rw [h1]; rfl
    have hc := Z.2.2.1
    rw [hl] at hc
    have hb := Z.2.2.2.1
    have hr := refs_of h2 Z.2.2.2.2.2.1
    refine ⟨p, hp, hk1, ⟨?_, fun a z1 z2 z3 => ⟨?_, fun j hj => ?_⟩, ?_⟩, fun q hq => ?_, fun a j ha => ?_⟩
    · rw [hk1]; rfl
    · show p.1.getD a (99, 0) = _
      rw [hk1, ← SLk8, SLk_getD z1, kt_8 a z1 z2]
    · rcases Nat.lt_or_ge a 96 with c | c
      · rw [(hb a c).2.2]; exact (S0.2.1 a z1 c (by omega)).2 j hj
      · rw [(hc a c z2).2.2]; exact hr a c z2 j hj
    · rw [(hb 80 (by omega)).2.2]; exact S0.2.2
    · have := il8_lt q hq
      show p.2.1 q.1 q.2.1 = _
      rw [(hc q.1 this.1 this.2).1]; exact ints_of h4 q hq
    · have := hb a ha
      exact ⟨congrFun this.1 j, congrFun this.2.1 j, congrFun this.2.2 j⟩
