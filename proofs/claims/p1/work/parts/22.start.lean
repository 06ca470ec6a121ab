/-! THE START: the constructors don't look at the script's length, nor at what lies below their own cells -/
noncomputable def SLk (L : Nat) (k : List (Nat × Nat)) : List (Nat × Nat) := k.modify 14 (fun q => if q.1 = 22 then (22, L) else q)
noncomputable def RRL (L B : Nat) (g0 h g : Hp) : Prop :=
  g.1 = SLk L h.1 ∧ B ≤ h.1.length
  ∧ (∀ a, B ≤ a → a < h.1.length → g.2.1 a = h.2.1 a ∧ g.2.2.1 a = h.2.2.1 a ∧ g.2.2.2 a = h.2.2.2 a)
  ∧ (∀ a, a < B → g.2.1 a = g0.2.1 a ∧ g.2.2.1 a = g0.2.2.1 a ∧ g.2.2.2 a = g0.2.2.2 a)
  ∧ (∀ a j x, h.2.2.2 a j = some x → B ≤ x) ∧ (∀ a j, 60 ≤ j → h.2.2.2 a j = none)
  ∧ (∀ a, 11 ≤ (hk h a).1 → (hk h a).1 ≤ 13 → (hk h a).2 ≤ 60)
noncomputable def ZP (L B : Nat) (g0 : Hp) (o : Hp) (r : Option Hp) : Prop := ∃ p, r = some p ∧ RRL L B g0 o p
theorem zif {α : Type} {Ψ : Option α → Prop} {c : Prop} [Decidable c] {x y : Option α} (hc : c) (h : Ψ x) : Ψ (if c then x else y) := by
  rw [if_pos hc]; exact h
theorem zifn {α : Type} {Ψ : Option α → Prop} {c : Prop} [Decidable c] {x y : Option α} (hc : ¬ c) (h : Ψ y) : Ψ (if c then x else y) := by
  rw [if_neg hc]; exact h
theorem zbd {α β : Type} {Ψ : Option β → Prop} {x : Option α} {o : α} {f : α → Option β} (e : x = some o) (h : Ψ (f o)) : Ψ (x.bind f) := by
  rw [e]; exact h
section ZZS
variable {L B : Nat} {g0 h g : Hp}
theorem RR_len (Z : RRL L B g0 h g) : g.1.length = h.1.length := by
  rw [Z.1]; exact List.length_modify ..
theorem RR_hk (Z : RRL L B g0 h g) {a : Nat} (c : (hk h a).1 < 20) : hk g a = hk h a := by
  unfold hk at *
  rw [Z.1]
  unfold SLk
  simp only [List.getD_eq_getElem?_getD, List.getElem?_modify] at *
  by_cases e : 14 = a
  · subst e
    cases hq : h.1[14]? with
    | none => simp
    | some q =>
      rw [hq] at c
      simp only [Option.getD_some] at c
      have : ¬ q.1 = 22 := by omega
      simp [this]
  · simp [e]
theorem z_okO (Z : RRL L B g0 h g) {r ci : Nat} (hc : ci < 20) (c : okO h r ci) : okO g r ci := (RR_hk Z (by rw [c]; exact hc)).trans c
theorem z_okI (Z : RRL L B g0 h g) {r : Nat} {i : Int32} (c : okI h r i) : okI g r i := by
  have e := RR_hk Z (a := r) (by rw [c.1]; decide)
  exact ⟨by rw [e]; exact c.1, by rw [e]; exact c.2⟩
theorem z_okL (Z : RRL L B g0 h g) {r : Nat} {i : Int32} (c : okL h r i) : okL g r i := by
  have e := RR_hk Z (a := r) (by rw [c.1]; decide)
  exact ⟨by rw [e]; exact c.1, by rw [e]; exact c.2⟩
theorem z_okR (Z : RRL L B g0 h g) {r : Nat} {i : Int32} (c : okR h r i) : okR g r i := by
  have e := RR_hk Z (a := r) (by omega)
  exact ⟨by rw [e]; exact c.1, by rw [e]; exact c.2⟩
theorem z_comps {k : Nat} (c : 11 ≤ k ∧ k ≤ 13) : comps k < 20 := by
  obtain ⟨c1, c2⟩ := c
  have : k = 11 ∨ k = 12 ∨ k = 13 := by omega
  rcases this with rfl | rfl | rfl <;> decide
theorem z_aast (Z : RRL L B g0 h g) {r x : Nat} {i : Int32} (c : okR h r i) (d : hk h x = (comps (hk h r).1, nFf (comps (hk h r).1))) : hk g x = (comps (hk g r).1, nFf (comps (hk g r).1)) := by
  have e := RR_hk Z (a := r) (by omega)
  have e2 := RR_hk Z (a := x) (by rw [d]; exact z_comps c.1)
  rw [e2, e]; exact d
theorem lt_len {h : Hp} {a : Nat} (c : (hk h a).1 < 20) : a < h.1.length := by
  rcases Nat.lt_or_ge a h.1.length with q | q
  · exact q
  · unfold hk at c
    rw [List.getD_eq_getElem?_getD, List.getElem?_eq_none q] at c
    exact absurd c (by decide)
theorem RR_gR (Z : RRL L B g0 h g) {a j x : Nat} (hb : B ≤ a) (hl : (hk h a).1 < 20) (e : gR h a j = some x) : gR g a j = some x ∧ B ≤ x :=
  ⟨(congrFun (Z.2.2.1 a hb (lt_len hl)).2.2 j).trans e, Z.2.2.2.2.1 a j x e⟩
theorem RR_si (Z : RRL L B g0 h g) {a : Nat} (hb : B ≤ a) (j : Nat) (x : Int32) : RRL L B g0 (hsi h a j x) (hsi g a j x) := by
  refine ⟨Z.1, Z.2.1, fun b h1 hq => ⟨?_, (Z.2.2.1 b h1 hq).2⟩, fun b h1 => ⟨?_, (Z.2.2.2.1 b h1).2⟩, Z.2.2.2.2⟩
  · funext k; show (if b = a ∧ k = j then x else g.2.1 b k) = (if b = a ∧ k = j then x else h.2.1 b k)
    rw [(Z.2.2.1 b h1 hq).1]
  · funext k; show (if b = a ∧ k = j then x else g.2.1 b k) = _
    rw [if_neg (fun q => by omega), (Z.2.2.2.1 b h1).1]
theorem RR_sl (Z : RRL L B g0 h g) {a : Nat} (hb : B ≤ a) (j : Nat) (x : Int64) : RRL L B g0 (hsl h a j x) (hsl g a j x) := by
  refine ⟨Z.1, Z.2.1, fun b h1 hq => ⟨(Z.2.2.1 b h1 hq).1, ?_, (Z.2.2.1 b h1 hq).2.2⟩, fun b h1 => ⟨(Z.2.2.2.1 b h1).1, ?_, (Z.2.2.2.1 b h1).2.2⟩, Z.2.2.2.2⟩
  · funext k; show (if b = a ∧ k = j then x else g.2.2.1 b k) = (if b = a ∧ k = j then x else h.2.2.1 b k)
    rw [(Z.2.2.1 b h1 hq).2.1]
  · funext k; show (if b = a ∧ k = j then x else g.2.2.1 b k) = _
    rw [if_neg (fun q => by omega), (Z.2.2.2.1 b h1).2.1]
theorem RR_sr (Z : RRL L B g0 h g) {a j x : Nat} (hb : B ≤ a) (hj : j < 60) (hx : B ≤ x) : RRL L B g0 (hsr h a j (some x)) (hsr g a j (some x)) := by
  refine ⟨Z.1, Z.2.1, fun b h1 hq => ⟨(Z.2.2.1 b h1 hq).1, (Z.2.2.1 b h1 hq).2.1, ?_⟩, fun b h1 => ⟨(Z.2.2.2.1 b h1).1, (Z.2.2.2.1 b h1).2.1, ?_⟩, ?_, ?_, Z.2.2.2.2.2.2⟩
  · funext k; show (if b = a ∧ k = j then some x else g.2.2.2 b k) = (if b = a ∧ k = j then some x else h.2.2.2 b k)
    rw [(Z.2.2.1 b h1 hq).2.2]
  · funext k; show (if b = a ∧ k = j then some x else g.2.2.2 b k) = _
    rw [if_neg (fun q => by omega), (Z.2.2.2.1 b h1).2.2]
  · intro b k y (e : (if b = a ∧ k = j then some x else h.2.2.2 b k) = some y)
    split at e
    · cases e; exact hx
    · exact Z.2.2.2.2.1 b k y e
  · intro b k hk; show (if b = a ∧ k = j then some x else h.2.2.2 b k) = none
    rw [if_neg (fun q => by omega)]; exact Z.2.2.2.2.2.1 b k hk
theorem RR_srR (Z : RRL L B g0 h g) {a x : Nat} {i : Int32} (hb : B ≤ a) (c : okR h a i) (hx : B ≤ x) : RRL L B g0 (hsr h a (ix i) (some x)) (hsr g a (ix i) (some x)) := by
  refine RR_sr Z hb ?_ hx
  have h1 := Z.2.2.2.2.2.2 a c.1.1 c.1.2
  have h2 := c.2
  unfold inb at h2
  simp only [Bool.and_eq_true, decide_eq_true_eq] at h2
  have h3 : ix i = i.toInt.toNat := rfl
  omega
theorem RR_new (Z : RRL L B g0 h g) {q : Nat × Nat} (hq : q.1 ≠ 22) (hq2 : 11 ≤ q.1 → q.1 ≤ 13 → q.2 ≤ 60) : RRL L B g0 (hnew h q) (hnew g q) := by
  have hl := RR_len Z
  have hB := Z.2.1
  unfold RRL hnew
  dsimp only
  refine ⟨?_, ?_, fun b h1 hq => ?_, fun b h1 => ?_, ?_, ?_, ?_⟩
  · rw [Z.1]
    unfold SLk
    apply List.ext_getElem?
    intro i
    simp only [List.getElem?_append, List.getElem?_modify, List.length_modify]
    by_cases hi : i < h.1.length
    · simp [hi]
    · simp only [hi, if_false]
      cases hz : [q][i - h.1.length]? with
      | none => simp
      | some w =>
        have : w = q := by
          rw [List.getElem?_singleton] at hz
          split at hz
          · exact (Option.some.inj hz).symm
          · cases hz
        subst this
        simp [hq]
  · rw [List.length_append]; omega
  · rw [hl]
    refine ⟨?_, ?_, ?_⟩
    · show (if b = h.1.length then _ else g.2.1 b) = (if b = h.1.length then _ else h.2.1 b)
      split
      · rfl
      · exact (Z.2.2.1 b h1 (by rw [List.length_append, List.length_singleton] at hq; omega)).1
    · show (if b = h.1.length then _ else g.2.2.1 b) = (if b = h.1.length then _ else h.2.2.1 b)
      split
      · rfl
      · exact (Z.2.2.1 b h1 (by rw [List.length_append, List.length_singleton] at hq; omega)).2.1
    · show (if b = h.1.length then _ else g.2.2.2 b) = (if b = h.1.length then _ else h.2.2.2 b)
      split
      · rfl
      · exact (Z.2.2.1 b h1 (by rw [List.length_append, List.length_singleton] at hq; omega)).2.2
  · rw [hl]
    refine ⟨?_, ?_, ?_⟩
    · show (if b = h.1.length then _ else g.2.1 b) = _
      rw [if_neg (by omega), (Z.2.2.2.1 b h1).1]
    · show (if b = h.1.length then _ else g.2.2.1 b) = _
      rw [if_neg (by omega), (Z.2.2.2.1 b h1).2.1]
    · show (if b = h.1.length then _ else g.2.2.2 b) = _
      rw [if_neg (by omega), (Z.2.2.2.1 b h1).2.2]
  · intro b k y (e : (if b = h.1.length then (fun _ => none) else h.2.2.2 b) k = some y)
    split at e
    · cases e
    · exact Z.2.2.2.2.1 b k y e
  · intro b k hk; show (if b = h.1.length then (fun _ => none) else h.2.2.2 b) k = none
    split
    · rfl
    · exact Z.2.2.2.2.2.1 b k hk
  · intro b e1 e2
    have e3 : hk (h.1 ++ [q], up1 h.2.1 h.1.length (fun _ => 0), up1 h.2.2.1 h.1.length (fun _ => 0), up1 h.2.2.2 h.1.length (fun _ => none)) b = if b < h.1.length then hk h b else if b = h.1.length then q else (99, 0) := by
      unfold hk
      simp only [List.getD_eq_getElem?_getD, List.getElem?_append]
      by_cases hb : b < h.1.length
      · simp [hb]
      · simp only [hb, if_false]
        by_cases hb2 : b = h.1.length
        · simp [hb2]
        · have : ¬ b - h.1.length = 0 := by omega
          simp [hb2, this]
    rw [e3] at e1 e2 ⊢
    split at e1
    · rename_i w; rw [if_pos w] at e2 ⊢; exact Z.2.2.2.2.2.2 b e1 e2
    · rename_i w
      rw [if_neg w] at e2 ⊢
      split at e1
      · rename_i w2; rw [if_pos w2] at e2 ⊢; exact hq2 e1 e2
      · rename_i w2; rw [if_neg w2] at e2; exact absurd e2 (by decide)
end ZZS
set_option maxRecDepth 100000 in
theorem z_X0_init_60 {L B : Nat} {g0 : Hp} {n : Nat} {K46 Q46 : Nat → Int32 → Hp → Option Hp} (HK46 : ∀ (v0 : Nat) (v1 : Int32), B ≤ v0 → ∀ (h g o : Hp), RRL L B g0 h g → Q46 v0 v1 h = some o → ZP L B g0 o (K46 v0 v1 g)) {v0 : Nat} {v1 : Int32} (bv0 : B ≤ v0) {h g o : Hp} (Z : RRL L B g0 h g) (hf : f_X0_init_60 n Q46 v0 v1 h = some o) : ZP L B g0 o (f_X0_init_60 n K46 v0 v1 g) := by
  unfold f_X0_init_60 at hf ⊢
  obtain ⟨c1, hf⟩ := ite_some hf
  refine zif (z_okO Z (by decide) c1) ?_
  obtain ⟨a2, e2, hf⟩ := bind_some hf
  obtain ⟨ye2, ba2⟩ := RR_gR Z bv0 (by rw [c1]; decide) e2
  refine zbd ye2 ?_
  obtain ⟨c3, hf⟩ := ite_some hf
  refine zif (z_okI Z c3) ?_
  exact HK46 _ _ bv0 _ _ _ (RR_si Z ba2 (ix v1) 100) hf
set_option maxRecDepth 100000 in
theorem z_X0_init_46 {L B : Nat} {g0 : Hp} {n : Nat} : ∀ (m : Nat) (v0 : Nat) (v1 : Int32), B ≤ v0 → ∀ (h g o : Hp), RRL L B g0 h g → f_X0_init_46 n m v0 v1 h = some o → ZP L B g0 o (f_X0_init_46 n m v0 v1 g) := by
  intro m
  induction m with
  | zero => intro v0 v1 bv0 h g o Z hf; cases hf
  | succ m ih =>
    intro v0 v1 bv0 h g o Z hf
    rw [f_X0_init_46] at hf ⊢
    by_cases c1 : 12 ≤ v1
    · replace hf := (if_pos c1).symm.trans hf
      refine zif c1 ?_
      have hf := Option.some.inj hf
      subst hf
      exact ⟨_, rfl, Z⟩
    · replace hf := (if_neg c1).symm.trans hf
      refine zifn c1 ?_
      obtain ⟨c2, hf⟩ := ite_some hf
      refine zif (z_okO Z (by decide) c2) ?_
      obtain ⟨a3, e3, hf⟩ := bind_some hf
      obtain ⟨ye3, ba3⟩ := RR_gR Z bv0 (by rw [c2]; decide) e3
      refine zbd ye3 ?_
      obtain ⟨c4, hf⟩ := ite_some hf
      refine zif (z_okI Z c4) ?_
      exact z_X0_init_60 ih bv0 (RR_si Z ba3 (ix v1) 60000) hf
set_option maxRecDepth 100000 in
theorem z_X0_init_39 {L B : Nat} {g0 : Hp} {n : Nat} {v0 : Nat} (bv0 : B ≤ v0) {h g o : Hp} (Z : RRL L B g0 h g) (hf : f_X0_init_39 n v0 h = some o) : ZP L B g0 o (f_X0_init_39 n v0 g) := by
  unfold f_X0_init_39 at hf ⊢
  obtain ⟨c1, hf⟩ := ite_some hf
  refine zif (z_okO Z (by decide) c1) ?_
  exact z_X0_init_46 _ _ _ bv0 _ _ _ (RR_si Z bv0 3 0) hf
set_option maxRecDepth 100000 in
theorem z_X0_init_36 {L B : Nat} {g0 : Hp} {n : Nat} {v0 : Nat} {s0 : Nat} {s1 : Nat} (bv0 : B ≤ v0) (bs0 : B ≤ s0) (bs1 : B ≤ s1) {h g o : Hp} (Z : RRL L B g0 h g) (hf : f_X0_init_36 n v0 s0 s1 h = some o) : ZP L B g0 o (f_X0_init_36 n v0 s0 s1 g) := by
  unfold f_X0_init_36 at hf ⊢
  obtain ⟨c1, hf⟩ := ite_some hf
  refine zif (z_okO Z (by decide) c1) ?_
  obtain ⟨c2, hf⟩ := ite_some hf
  refine zif c2 ?_
  exact z_X0_init_39 bv0 (RR_sr Z bs0 (j := 2) (by decide) bs1) hf
set_option maxRecDepth 100000 in
theorem z_X0_init_32 {L B : Nat} {g0 : Hp} {n : Nat} {v0 : Nat} {s0 : Nat} {s1 : Nat} (bv0 : B ≤ v0) (bs0 : B ≤ s0) (bs1 : B ≤ s1) {h g o : Hp} (Z : RRL L B g0 h g) (hf : f_X0_init_32 n v0 s0 s1 h = some o) : ZP L B g0 o (f_X0_init_32 n v0 s0 s1 g) := by
  unfold f_X0_init_32 at hf ⊢
  obtain ⟨c1, hf⟩ := ite_some hf
  refine zif (z_okI Z c1) ?_
  exact z_X0_init_36 bv0 bs0 bs1 (RR_si Z bs1 (ix 2) 5) hf
set_option maxRecDepth 100000 in
theorem z_X0_init_28 {L B : Nat} {g0 : Hp} {n : Nat} {v0 : Nat} {s0 : Nat} {s1 : Nat} (bv0 : B ≤ v0) (bs0 : B ≤ s0) (bs1 : B ≤ s1) {h g o : Hp} (Z : RRL L B g0 h g) (hf : f_X0_init_28 n v0 s0 s1 h = some o) : ZP L B g0 o (f_X0_init_28 n v0 s0 s1 g) := by
  unfold f_X0_init_28 at hf ⊢
  obtain ⟨c1, hf⟩ := ite_some hf
  refine zif (z_okI Z c1) ?_
  exact z_X0_init_32 bv0 bs0 bs1 (RR_si Z bs1 (ix 1) 2) hf
set_option maxRecDepth 100000 in
theorem z_X0_init_24 {L B : Nat} {g0 : Hp} {n : Nat} {v0 : Nat} {s0 : Nat} {s1 : Nat} (bv0 : B ≤ v0) (bs0 : B ≤ s0) (bs1 : B ≤ s1) {h g o : Hp} (Z : RRL L B g0 h g) (hf : f_X0_init_24 n v0 s0 s1 h = some o) : ZP L B g0 o (f_X0_init_24 n v0 s0 s1 g) := by
  unfold f_X0_init_24 at hf ⊢
  obtain ⟨c1, hf⟩ := ite_some hf
  refine zif (z_okI Z c1) ?_
  exact z_X0_init_28 bv0 bs0 bs1 (RR_si Z bs1 (ix 0) 5) hf
set_option maxRecDepth 100000 in
theorem z_X0_init_20 {L B : Nat} {g0 : Hp} {n : Nat} {v0 : Nat} (bv0 : B ≤ v0) {h g o : Hp} (Z : RRL L B g0 h g) (hf : f_X0_init_20 n v0 h = some o) : ZP L B g0 o (f_X0_init_20 n v0 g) := by
  unfold f_X0_init_20 at hf ⊢
  rw [RR_len Z]
  exact z_X0_init_24 bv0 bv0 Z.2.1 (RR_new Z (q := (9, ix 3)) (by decide) (by decide)) hf
set_option maxRecDepth 100000 in
theorem z_X0_init_17 {L B : Nat} {g0 : Hp} {n : Nat} {v0 : Nat} {s0 : Nat} {s1 : Nat} (bv0 : B ≤ v0) (bs0 : B ≤ s0) (bs1 : B ≤ s1) {h g o : Hp} (Z : RRL L B g0 h g) (hf : f_X0_init_17 n v0 s0 s1 h = some o) : ZP L B g0 o (f_X0_init_17 n v0 s0 s1 g) := by
  unfold f_X0_init_17 at hf ⊢
  obtain ⟨c1, hf⟩ := ite_some hf
  refine zif (z_okO Z (by decide) c1) ?_
  obtain ⟨c2, hf⟩ := ite_some hf
  refine zif c2 ?_
  exact z_X0_init_20 bv0 (RR_sr Z bs0 (j := 1) (by decide) bs1) hf
set_option maxRecDepth 100000 in
theorem z_X0_init_12 {L B : Nat} {g0 : Hp} {n : Nat} {v0 : Nat} (bv0 : B ≤ v0) {h g o : Hp} (Z : RRL L B g0 h g) (hf : f_X0_init_12 n v0 h = some o) : ZP L B g0 o (f_X0_init_12 n v0 g) := by
  unfold f_X0_init_12 at hf ⊢
  rw [RR_len Z]
  exact z_X0_init_17 bv0 bv0 Z.2.1 (RR_new Z (q := (9, ix 12)) (by decide) (by decide)) hf
set_option maxRecDepth 100000 in
theorem z_X0_init_9 {L B : Nat} {g0 : Hp} {n : Nat} {v0 : Nat} {s0 : Nat} {s1 : Nat} (bv0 : B ≤ v0) (bs0 : B ≤ s0) (bs1 : B ≤ s1) {h g o : Hp} (Z : RRL L B g0 h g) (hf : f_X0_init_9 n v0 s0 s1 h = some o) : ZP L B g0 o (f_X0_init_9 n v0 s0 s1 g) := by
  unfold f_X0_init_9 at hf ⊢
  obtain ⟨c1, hf⟩ := ite_some hf
  refine zif (z_okO Z (by decide) c1) ?_
  obtain ⟨c2, hf⟩ := ite_some hf
  refine zif c2 ?_
  exact z_X0_init_12 bv0 (RR_sr Z bs0 (j := 0) (by decide) bs1) hf
set_option maxRecDepth 100000 in
theorem z_X0_init_0 {L B : Nat} {g0 : Hp} {n : Nat} {v0 : Nat} (bv0 : B ≤ v0) {h g o : Hp} (Z : RRL L B g0 h g) (hf : f_X0_init_0 n v0 h = some o) : ZP L B g0 o (f_X0_init_0 n v0 g) := by
  unfold f_X0_init_0 at hf ⊢
  rw [RR_len Z]
  exact z_X0_init_9 bv0 bv0 Z.2.1 (RR_new Z (q := (9, ix 12)) (by decide) (by decide)) hf
theorem z_X0_init {L B : Nat} {g0 : Hp} {n : Nat} {v0 : Nat} (bv0 : B ≤ v0) {h g o : Hp} (Z : RRL L B g0 h g) (hf : f_X0_init n v0 h = some o) : ZP L B g0 o (f_X0_init n v0 g) := z_X0_init_0 bv0 Z hf
set_option maxRecDepth 100000 in
theorem z_X1_init_32 {L B : Nat} {g0 : Hp} {v0 : Nat} {v1 : Nat} (bv0 : B ≤ v0) (bv1 : B ≤ v1) {h g o : Hp} (Z : RRL L B g0 h g) (hf : f_X1_init_32 v0 v1 h = some o) : ZP L B g0 o (f_X1_init_32 v0 v1 g) := by
  unfold f_X1_init_32 at hf ⊢
  obtain ⟨c1, hf⟩ := ite_some hf
  refine zif (z_okO Z (by decide) c1) ?_
  obtain ⟨c2, hf⟩ := ite_some hf
  refine zif c2 ?_
  have hf := Option.some.inj hf
  subst hf
  exact ⟨_, rfl, (RR_sr Z bv0 (j := 1) (by decide) bv1)⟩
set_option maxRecDepth 100000 in
theorem z_X1_init_27 {L B : Nat} {g0 : Hp} {v0 : Nat} {v1 : Nat} (bv0 : B ≤ v0) (bv1 : B ≤ v1) {h g o : Hp} (Z : RRL L B g0 h g) (hf : f_X1_init_27 v0 v1 h = some o) : ZP L B g0 o (f_X1_init_27 v0 v1 g) := by
  unfold f_X1_init_27 at hf ⊢
  obtain ⟨c1, hf⟩ := ite_some hf
  refine zif (z_okO Z (by decide) c1) ?_
  exact z_X1_init_32 bv0 bv1 (RR_sl Z bv0 5 1) hf
set_option maxRecDepth 100000 in
theorem z_X1_init_22 {L B : Nat} {g0 : Hp} {v0 : Nat} {v1 : Nat} (bv0 : B ≤ v0) (bv1 : B ≤ v1) {h g o : Hp} (Z : RRL L B g0 h g) (hf : f_X1_init_22 v0 v1 h = some o) : ZP L B g0 o (f_X1_init_22 v0 v1 g) := by
  unfold f_X1_init_22 at hf ⊢
  obtain ⟨c1, hf⟩ := ite_some hf
  refine zif (z_okO Z (by decide) c1) ?_
  exact z_X1_init_27 bv0 bv1 (RR_si Z bv0 4 0) hf
set_option maxRecDepth 100000 in
theorem z_X1_init_17 {L B : Nat} {g0 : Hp} {v0 : Nat} {v1 : Nat} (bv0 : B ≤ v0) (bv1 : B ≤ v1) {h g o : Hp} (Z : RRL L B g0 h g) (hf : f_X1_init_17 v0 v1 h = some o) : ZP L B g0 o (f_X1_init_17 v0 v1 g) := by
  unfold f_X1_init_17 at hf ⊢
  obtain ⟨c1, hf⟩ := ite_some hf
  refine zif (z_okO Z (by decide) c1) ?_
  exact z_X1_init_22 bv0 bv1 (RR_si Z bv0 3 0) hf
set_option maxRecDepth 100000 in
theorem z_X1_init_12 {L B : Nat} {g0 : Hp} {v0 : Nat} {v1 : Nat} (bv0 : B ≤ v0) (bv1 : B ≤ v1) {h g o : Hp} (Z : RRL L B g0 h g) (hf : f_X1_init_12 v0 v1 h = some o) : ZP L B g0 o (f_X1_init_12 v0 v1 g) := by
  unfold f_X1_init_12 at hf ⊢
  obtain ⟨c1, hf⟩ := ite_some hf
  refine zif (z_okO Z (by decide) c1) ?_
  exact z_X1_init_17 bv0 bv1 (RR_si Z bv0 2 0) hf
set_option maxRecDepth 100000 in
theorem z_X1_init_9 {L B : Nat} {g0 : Hp} {v0 : Nat} {v1 : Nat} {s0 : Nat} {s1 : Nat} (bv0 : B ≤ v0) (bv1 : B ≤ v1) (bs0 : B ≤ s0) (bs1 : B ≤ s1) {h g o : Hp} (Z : RRL L B g0 h g) (hf : f_X1_init_9 v0 v1 s0 s1 h = some o) : ZP L B g0 o (f_X1_init_9 v0 v1 s0 s1 g) := by
  unfold f_X1_init_9 at hf ⊢
  obtain ⟨c1, hf⟩ := ite_some hf
  refine zif (z_okO Z (by decide) c1) ?_
  obtain ⟨c2, hf⟩ := ite_some hf
  refine zif c2 ?_
  exact z_X1_init_12 bv0 bv1 (RR_sr Z bs0 (j := 0) (by decide) bs1) hf
set_option maxRecDepth 100000 in
theorem z_X1_init_0 {L B : Nat} {g0 : Hp} {v0 : Nat} {v1 : Nat} (bv0 : B ≤ v0) (bv1 : B ≤ v1) {h g o : Hp} (Z : RRL L B g0 h g) (hf : f_X1_init_0 v0 v1 h = some o) : ZP L B g0 o (f_X1_init_0 v0 v1 g) := by
  unfold f_X1_init_0 at hf ⊢
  rw [RR_len Z]
  exact z_X1_init_9 bv0 bv1 bv0 Z.2.1 (RR_new Z (q := (9, ix 6)) (by decide) (by decide)) hf
theorem z_X1_init {L B : Nat} {g0 : Hp} {v0 : Nat} {v1 : Nat} (bv0 : B ≤ v0) (bv1 : B ≤ v1) {h g o : Hp} (Z : RRL L B g0 h g) (hf : f_X1_init v0 v1 h = some o) : ZP L B g0 o (f_X1_init v0 v1 g) := z_X1_init_0 bv0 bv1 Z hf
set_option maxRecDepth 100000 in
theorem z_X2_init_33 {L B : Nat} {g0 : Hp} {v0 : Nat} (bv0 : B ≤ v0) {h g o : Hp} (Z : RRL L B g0 h g) (hf : f_X2_init_33 v0 h = some o) : ZP L B g0 o (f_X2_init_33 v0 g) := by
  unfold f_X2_init_33 at hf ⊢
  obtain ⟨c1, hf⟩ := ite_some hf
  refine zif (z_okO Z (by decide) c1) ?_
  have hf := Option.some.inj hf
  subst hf
  exact ⟨_, rfl, (RR_si Z bv0 5 0)⟩
set_option maxRecDepth 100000 in
theorem z_X2_init_28 {L B : Nat} {g0 : Hp} {v0 : Nat} (bv0 : B ≤ v0) {h g o : Hp} (Z : RRL L B g0 h g) (hf : f_X2_init_28 v0 h = some o) : ZP L B g0 o (f_X2_init_28 v0 g) := by
  unfold f_X2_init_28 at hf ⊢
  obtain ⟨c1, hf⟩ := ite_some hf
  refine zif (z_okO Z (by decide) c1) ?_
  exact z_X2_init_33 bv0 (RR_si Z bv0 4 0) hf
set_option maxRecDepth 100000 in
theorem z_X2_init_23 {L B : Nat} {g0 : Hp} {v0 : Nat} (bv0 : B ≤ v0) {h g o : Hp} (Z : RRL L B g0 h g) (hf : f_X2_init_23 v0 h = some o) : ZP L B g0 o (f_X2_init_23 v0 g) := by
  unfold f_X2_init_23 at hf ⊢
  obtain ⟨c1, hf⟩ := ite_some hf
  refine zif (z_okO Z (by decide) c1) ?_
  exact z_X2_init_28 bv0 (RR_si Z bv0 3 0) hf
set_option maxRecDepth 100000 in
theorem z_X2_init_18 {L B : Nat} {g0 : Hp} {v0 : Nat} (bv0 : B ≤ v0) {h g o : Hp} (Z : RRL L B g0 h g) (hf : f_X2_init_18 v0 h = some o) : ZP L B g0 o (f_X2_init_18 v0 g) := by
  unfold f_X2_init_18 at hf ⊢
  obtain ⟨c1, hf⟩ := ite_some hf
  refine zif (z_okO Z (by decide) c1) ?_
  exact z_X2_init_23 bv0 (RR_si Z bv0 2 0) hf
set_option maxRecDepth 100000 in
theorem z_X2_init_13 {L B : Nat} {g0 : Hp} {v0 : Nat} (bv0 : B ≤ v0) {h g o : Hp} (Z : RRL L B g0 h g) (hf : f_X2_init_13 v0 h = some o) : ZP L B g0 o (f_X2_init_13 v0 g) := by
  unfold f_X2_init_13 at hf ⊢
  obtain ⟨c1, hf⟩ := ite_some hf
  refine zif (z_okO Z (by decide) c1) ?_
  exact z_X2_init_18 bv0 (RR_si Z bv0 1 0) hf
set_option maxRecDepth 100000 in
theorem z_X2_init_10 {L B : Nat} {g0 : Hp} {v0 : Nat} {s0 : Nat} {s1 : Nat} (bv0 : B ≤ v0) (bs0 : B ≤ s0) (bs1 : B ≤ s1) {h g o : Hp} (Z : RRL L B g0 h g) (hf : f_X2_init_10 v0 s0 s1 h = some o) : ZP L B g0 o (f_X2_init_10 v0 s0 s1 g) := by
  unfold f_X2_init_10 at hf ⊢
  obtain ⟨c1, hf⟩ := ite_some hf
  refine zif (z_okO Z (by decide) c1) ?_
  obtain ⟨c2, hf⟩ := ite_some hf
  refine zif c2 ?_
  exact z_X2_init_13 bv0 (RR_sr Z bs0 (j := 0) (by decide) bs1) hf
set_option maxRecDepth 100000 in
theorem z_X2_init_0 {L B : Nat} {g0 : Hp} {v0 : Nat} (bv0 : B ≤ v0) {h g o : Hp} (Z : RRL L B g0 h g) (hf : f_X2_init_0 v0 h = some o) : ZP L B g0 o (f_X2_init_0 v0 g) := by
  unfold f_X2_init_0 at hf ⊢
  rw [RR_len Z]
  exact z_X2_init_10 bv0 bv0 Z.2.1 (RR_new Z (q := (9, ix 160)) (by decide) (by decide)) hf
theorem z_X2_init {L B : Nat} {g0 : Hp} {v0 : Nat} (bv0 : B ≤ v0) {h g o : Hp} (Z : RRL L B g0 h g) (hf : f_X2_init v0 h = some o) : ZP L B g0 o (f_X2_init v0 g) := z_X2_init_0 bv0 Z hf
set_option maxRecDepth 100000 in
theorem z_X3_init_81 {L B : Nat} {g0 : Hp} {v0 : Nat} {v1 : Nat} (bv0 : B ≤ v0) (bv1 : B ≤ v1) {h g o : Hp} (Z : RRL L B g0 h g) (hf : f_X3_init_81 v0 v1 h = some o) : ZP L B g0 o (f_X3_init_81 v0 v1 g) := by
  unfold f_X3_init_81 at hf ⊢
  obtain ⟨c1, hf⟩ := ite_some hf
  refine zif (z_okO Z (by decide) c1) ?_
  obtain ⟨c2, hf⟩ := ite_some hf
  refine zif c2 ?_
  have hf := Option.some.inj hf
  subst hf
  exact ⟨_, rfl, (RR_sr Z bv0 (j := 6) (by decide) bv1)⟩
set_option maxRecDepth 100000 in
theorem z_X3_init_74 {L B : Nat} {g0 : Hp} {v0 : Nat} {v1 : Nat} (bv0 : B ≤ v0) (bv1 : B ≤ v1) {h g o : Hp} (Z : RRL L B g0 h g) (hf : f_X3_init_74 v0 v1 h = some o) : ZP L B g0 o (f_X3_init_74 v0 v1 g) := by
  unfold f_X3_init_74 at hf ⊢
  obtain ⟨c1, hf⟩ := ite_some hf
  refine zif (z_okO Z (by decide) c1) ?_
  exact z_X3_init_81 bv0 bv1 (RR_sl Z bv0 11 1000000000) hf
set_option maxRecDepth 100000 in
theorem z_X3_init_67 {L B : Nat} {g0 : Hp} {v0 : Nat} {v1 : Nat} (bv0 : B ≤ v0) (bv1 : B ≤ v1) {h g o : Hp} (Z : RRL L B g0 h g) (hf : f_X3_init_67 v0 v1 h = some o) : ZP L B g0 o (f_X3_init_67 v0 v1 g) := by
  unfold f_X3_init_67 at hf ⊢
  obtain ⟨c1, hf⟩ := ite_some hf
  refine zif (z_okO Z (by decide) c1) ?_
  exact z_X3_init_74 bv0 bv1 (RR_sl Z bv0 10 1000000000) hf
set_option maxRecDepth 100000 in
theorem z_X3_init_62 {L B : Nat} {g0 : Hp} {v0 : Nat} {v1 : Nat} (bv0 : B ≤ v0) (bv1 : B ≤ v1) {h g o : Hp} (Z : RRL L B g0 h g) (hf : f_X3_init_62 v0 v1 h = some o) : ZP L B g0 o (f_X3_init_62 v0 v1 g) := by
  unfold f_X3_init_62 at hf ⊢
  obtain ⟨c1, hf⟩ := ite_some hf
  refine zif (z_okO Z (by decide) c1) ?_
  exact z_X3_init_67 bv0 bv1 (RR_si Z bv0 9 0) hf
set_option maxRecDepth 100000 in
theorem z_X3_init_57 {L B : Nat} {g0 : Hp} {v0 : Nat} {v1 : Nat} (bv0 : B ≤ v0) (bv1 : B ≤ v1) {h g o : Hp} (Z : RRL L B g0 h g) (hf : f_X3_init_57 v0 v1 h = some o) : ZP L B g0 o (f_X3_init_57 v0 v1 g) := by
  unfold f_X3_init_57 at hf ⊢
  obtain ⟨c1, hf⟩ := ite_some hf
  refine zif (z_okO Z (by decide) c1) ?_
  exact z_X3_init_62 bv0 bv1 (RR_si Z bv0 8 0) hf
set_option maxRecDepth 100000 in
theorem z_X3_init_52 {L B : Nat} {g0 : Hp} {v0 : Nat} {v1 : Nat} (bv0 : B ≤ v0) (bv1 : B ≤ v1) {h g o : Hp} (Z : RRL L B g0 h g) (hf : f_X3_init_52 v0 v1 h = some o) : ZP L B g0 o (f_X3_init_52 v0 v1 g) := by
  unfold f_X3_init_52 at hf ⊢
  obtain ⟨c1, hf⟩ := ite_some hf
  refine zif (z_okO Z (by decide) c1) ?_
  exact z_X3_init_57 bv0 bv1 (RR_si Z bv0 7 0) hf
set_option maxRecDepth 100000 in
theorem z_X3_init_49 {L B : Nat} {g0 : Hp} {v0 : Nat} {v1 : Nat} {s0 : Nat} {s1 : Nat} (bv0 : B ≤ v0) (bv1 : B ≤ v1) (bs0 : B ≤ s0) (bs1 : B ≤ s1) {h g o : Hp} (Z : RRL L B g0 h g) (hf : f_X3_init_49 v0 v1 s0 s1 h = some o) : ZP L B g0 o (f_X3_init_49 v0 v1 s0 s1 g) := by
  unfold f_X3_init_49 at hf ⊢
  obtain ⟨c1, hf⟩ := ite_some hf
  refine zif (z_okO Z (by decide) c1) ?_
  obtain ⟨c2, hf⟩ := ite_some hf
  refine zif c2 ?_
  exact z_X3_init_52 bv0 bv1 (RR_sr Z bs0 (j := 5) (by decide) bs1) hf
set_option maxRecDepth 100000 in
theorem z_X3_init_44 {L B : Nat} {g0 : Hp} {v0 : Nat} {v1 : Nat} (bv0 : B ≤ v0) (bv1 : B ≤ v1) {h g o : Hp} (Z : RRL L B g0 h g) (hf : f_X3_init_44 v0 v1 h = some o) : ZP L B g0 o (f_X3_init_44 v0 v1 g) := by
  unfold f_X3_init_44 at hf ⊢
  rw [RR_len Z]
  exact z_X3_init_49 bv0 bv1 bv0 Z.2.1 (RR_new Z (q := (10, ix 12)) (by decide) (by decide)) hf
set_option maxRecDepth 100000 in
theorem z_X3_init_41 {L B : Nat} {g0 : Hp} {v0 : Nat} {v1 : Nat} {s0 : Nat} {s1 : Nat} (bv0 : B ≤ v0) (bv1 : B ≤ v1) (bs0 : B ≤ s0) (bs1 : B ≤ s1) {h g o : Hp} (Z : RRL L B g0 h g) (hf : f_X3_init_41 v0 v1 s0 s1 h = some o) : ZP L B g0 o (f_X3_init_41 v0 v1 s0 s1 g) := by
  unfold f_X3_init_41 at hf ⊢
  obtain ⟨c1, hf⟩ := ite_some hf
  refine zif (z_okO Z (by decide) c1) ?_
  obtain ⟨c2, hf⟩ := ite_some hf
  refine zif c2 ?_
  exact z_X3_init_44 bv0 bv1 (RR_sr Z bs0 (j := 4) (by decide) bs1) hf
set_option maxRecDepth 100000 in
theorem z_X3_init_36 {L B : Nat} {g0 : Hp} {v0 : Nat} {v1 : Nat} (bv0 : B ≤ v0) (bv1 : B ≤ v1) {h g o : Hp} (Z : RRL L B g0 h g) (hf : f_X3_init_36 v0 v1 h = some o) : ZP L B g0 o (f_X3_init_36 v0 v1 g) := by
  unfold f_X3_init_36 at hf ⊢
  rw [RR_len Z]
  exact z_X3_init_41 bv0 bv1 bv0 Z.2.1 (RR_new Z (q := (9, ix 12)) (by decide) (by decide)) hf
set_option maxRecDepth 100000 in
theorem z_X3_init_33 {L B : Nat} {g0 : Hp} {v0 : Nat} {v1 : Nat} {s0 : Nat} {s1 : Nat} (bv0 : B ≤ v0) (bv1 : B ≤ v1) (bs0 : B ≤ s0) (bs1 : B ≤ s1) {h g o : Hp} (Z : RRL L B g0 h g) (hf : f_X3_init_33 v0 v1 s0 s1 h = some o) : ZP L B g0 o (f_X3_init_33 v0 v1 s0 s1 g) := by
  unfold f_X3_init_33 at hf ⊢
  obtain ⟨c1, hf⟩ := ite_some hf
  refine zif (z_okO Z (by decide) c1) ?_
  obtain ⟨c2, hf⟩ := ite_some hf
  refine zif c2 ?_
  exact z_X3_init_36 bv0 bv1 (RR_sr Z bs0 (j := 3) (by decide) bs1) hf
set_option maxRecDepth 100000 in
theorem z_X3_init_28 {L B : Nat} {g0 : Hp} {v0 : Nat} {v1 : Nat} (bv0 : B ≤ v0) (bv1 : B ≤ v1) {h g o : Hp} (Z : RRL L B g0 h g) (hf : f_X3_init_28 v0 v1 h = some o) : ZP L B g0 o (f_X3_init_28 v0 v1 g) := by
  unfold f_X3_init_28 at hf ⊢
  rw [RR_len Z]
  exact z_X3_init_33 bv0 bv1 bv0 Z.2.1 (RR_new Z (q := (9, ix 12)) (by decide) (by decide)) hf
set_option maxRecDepth 100000 in
theorem z_X3_init_25 {L B : Nat} {g0 : Hp} {v0 : Nat} {v1 : Nat} {s0 : Nat} {s1 : Nat} (bv0 : B ≤ v0) (bv1 : B ≤ v1) (bs0 : B ≤ s0) (bs1 : B ≤ s1) {h g o : Hp} (Z : RRL L B g0 h g) (hf : f_X3_init_25 v0 v1 s0 s1 h = some o) : ZP L B g0 o (f_X3_init_25 v0 v1 s0 s1 g) := by
  unfold f_X3_init_25 at hf ⊢
  obtain ⟨c1, hf⟩ := ite_some hf
  refine zif (z_okO Z (by decide) c1) ?_
  obtain ⟨c2, hf⟩ := ite_some hf
  refine zif c2 ?_
  exact z_X3_init_28 bv0 bv1 (RR_sr Z bs0 (j := 2) (by decide) bs1) hf
set_option maxRecDepth 100000 in
theorem z_X3_init_20 {L B : Nat} {g0 : Hp} {v0 : Nat} {v1 : Nat} (bv0 : B ≤ v0) (bv1 : B ≤ v1) {h g o : Hp} (Z : RRL L B g0 h g) (hf : f_X3_init_20 v0 v1 h = some o) : ZP L B g0 o (f_X3_init_20 v0 v1 g) := by
  unfold f_X3_init_20 at hf ⊢
  rw [RR_len Z]
  exact z_X3_init_25 bv0 bv1 bv0 Z.2.1 (RR_new Z (q := (9, ix 12)) (by decide) (by decide)) hf
set_option maxRecDepth 100000 in
theorem z_X3_init_17 {L B : Nat} {g0 : Hp} {v0 : Nat} {v1 : Nat} {s0 : Nat} {s1 : Nat} (bv0 : B ≤ v0) (bv1 : B ≤ v1) (bs0 : B ≤ s0) (bs1 : B ≤ s1) {h g o : Hp} (Z : RRL L B g0 h g) (hf : f_X3_init_17 v0 v1 s0 s1 h = some o) : ZP L B g0 o (f_X3_init_17 v0 v1 s0 s1 g) := by
  unfold f_X3_init_17 at hf ⊢
  obtain ⟨c1, hf⟩ := ite_some hf
  refine zif (z_okO Z (by decide) c1) ?_
  obtain ⟨c2, hf⟩ := ite_some hf
  refine zif c2 ?_
  exact z_X3_init_20 bv0 bv1 (RR_sr Z bs0 (j := 1) (by decide) bs1) hf
set_option maxRecDepth 100000 in
theorem z_X3_init_12 {L B : Nat} {g0 : Hp} {v0 : Nat} {v1 : Nat} (bv0 : B ≤ v0) (bv1 : B ≤ v1) {h g o : Hp} (Z : RRL L B g0 h g) (hf : f_X3_init_12 v0 v1 h = some o) : ZP L B g0 o (f_X3_init_12 v0 v1 g) := by
  unfold f_X3_init_12 at hf ⊢
  rw [RR_len Z]
  exact z_X3_init_17 bv0 bv1 bv0 Z.2.1 (RR_new Z (q := (9, ix 12)) (by decide) (by decide)) hf
set_option maxRecDepth 100000 in
theorem z_X3_init_9 {L B : Nat} {g0 : Hp} {v0 : Nat} {v1 : Nat} {s0 : Nat} {s1 : Nat} (bv0 : B ≤ v0) (bv1 : B ≤ v1) (bs0 : B ≤ s0) (bs1 : B ≤ s1) {h g o : Hp} (Z : RRL L B g0 h g) (hf : f_X3_init_9 v0 v1 s0 s1 h = some o) : ZP L B g0 o (f_X3_init_9 v0 v1 s0 s1 g) := by
  unfold f_X3_init_9 at hf ⊢
  obtain ⟨c1, hf⟩ := ite_some hf
  refine zif (z_okO Z (by decide) c1) ?_
  obtain ⟨c2, hf⟩ := ite_some hf
  refine zif c2 ?_
  exact z_X3_init_12 bv0 bv1 (RR_sr Z bs0 (j := 0) (by decide) bs1) hf
set_option maxRecDepth 100000 in
theorem z_X3_init_0 {L B : Nat} {g0 : Hp} {v0 : Nat} {v1 : Nat} (bv0 : B ≤ v0) (bv1 : B ≤ v1) {h g o : Hp} (Z : RRL L B g0 h g) (hf : f_X3_init_0 v0 v1 h = some o) : ZP L B g0 o (f_X3_init_0 v0 v1 g) := by
  unfold f_X3_init_0 at hf ⊢
  rw [RR_len Z]
  exact z_X3_init_9 bv0 bv1 bv0 Z.2.1 (RR_new Z (q := (9, ix 12)) (by decide) (by decide)) hf
theorem z_X3_init {L B : Nat} {g0 : Hp} {v0 : Nat} {v1 : Nat} (bv0 : B ≤ v0) (bv1 : B ≤ v1) {h g o : Hp} (Z : RRL L B g0 h g) (hf : f_X3_init v0 v1 h = some o) : ZP L B g0 o (f_X3_init v0 v1 g) := z_X3_init_0 bv0 bv1 Z hf
set_option maxRecDepth 100000 in
theorem z_X4_init_17 {L B : Nat} {g0 : Hp} {v0 : Nat} (bv0 : B ≤ v0) {h g o : Hp} (Z : RRL L B g0 h g) (hf : f_X4_init_17 v0 h = some o) : ZP L B g0 o (f_X4_init_17 v0 g) := by
  unfold f_X4_init_17 at hf ⊢
  obtain ⟨c1, hf⟩ := ite_some hf
  refine zif (z_okO Z (by decide) c1) ?_
  have hf := Option.some.inj hf
  subst hf
  exact ⟨_, rfl, (RR_si Z bv0 2 0)⟩
set_option maxRecDepth 100000 in
theorem z_X4_init_12 {L B : Nat} {g0 : Hp} {v0 : Nat} (bv0 : B ≤ v0) {h g o : Hp} (Z : RRL L B g0 h g) (hf : f_X4_init_12 v0 h = some o) : ZP L B g0 o (f_X4_init_12 v0 g) := by
  unfold f_X4_init_12 at hf ⊢
  obtain ⟨c1, hf⟩ := ite_some hf
  refine zif (z_okO Z (by decide) c1) ?_
  exact z_X4_init_17 bv0 (RR_si Z bv0 1 (-1)) hf
set_option maxRecDepth 100000 in
theorem z_X4_init_9 {L B : Nat} {g0 : Hp} {v0 : Nat} {s0 : Nat} {s1 : Nat} (bv0 : B ≤ v0) (bs0 : B ≤ s0) (bs1 : B ≤ s1) {h g o : Hp} (Z : RRL L B g0 h g) (hf : f_X4_init_9 v0 s0 s1 h = some o) : ZP L B g0 o (f_X4_init_9 v0 s0 s1 g) := by
  unfold f_X4_init_9 at hf ⊢
  obtain ⟨c1, hf⟩ := ite_some hf
  refine zif (z_okO Z (by decide) c1) ?_
  obtain ⟨c2, hf⟩ := ite_some hf
  refine zif c2 ?_
  exact z_X4_init_12 bv0 (RR_sr Z bs0 (j := 0) (by decide) bs1) hf
set_option maxRecDepth 100000 in
theorem z_X4_init_0 {L B : Nat} {g0 : Hp} {v0 : Nat} (bv0 : B ≤ v0) {h g o : Hp} (Z : RRL L B g0 h g) (hf : f_X4_init_0 v0 h = some o) : ZP L B g0 o (f_X4_init_0 v0 g) := by
  unfold f_X4_init_0 at hf ⊢
  rw [RR_len Z]
  exact z_X4_init_9 bv0 bv0 Z.2.1 (RR_new Z (q := (9, ix 40)) (by decide) (by decide)) hf
theorem z_X4_init {L B : Nat} {g0 : Hp} {v0 : Nat} (bv0 : B ≤ v0) {h g o : Hp} (Z : RRL L B g0 h g) (hf : f_X4_init v0 h = some o) : ZP L B g0 o (f_X4_init v0 g) := z_X4_init_0 bv0 Z hf
set_option maxRecDepth 100000 in
theorem z_X5_init_14 {L B : Nat} {g0 : Hp} {v0 : Nat} (bv0 : B ≤ v0) {h g o : Hp} (Z : RRL L B g0 h g) (hf : f_X5_init_14 v0 h = some o) : ZP L B g0 o (f_X5_init_14 v0 g) := by
  unfold f_X5_init_14 at hf ⊢
  obtain ⟨c1, hf⟩ := ite_some hf
  refine zif (z_okO Z (by decide) c1) ?_
  have hf := Option.some.inj hf
  subst hf
  exact ⟨_, rfl, (RR_si Z bv0 2 1)⟩
set_option maxRecDepth 100000 in
theorem z_X5_init_9 {L B : Nat} {g0 : Hp} {v0 : Nat} (bv0 : B ≤ v0) {h g o : Hp} (Z : RRL L B g0 h g) (hf : f_X5_init_9 v0 h = some o) : ZP L B g0 o (f_X5_init_9 v0 g) := by
  unfold f_X5_init_9 at hf ⊢
  obtain ⟨c1, hf⟩ := ite_some hf
  refine zif (z_okO Z (by decide) c1) ?_
  exact z_X5_init_14 bv0 (RR_si Z bv0 1 0) hf
set_option maxRecDepth 100000 in
theorem z_X5_init_0 {L B : Nat} {g0 : Hp} {v0 : Nat} (bv0 : B ≤ v0) {h g o : Hp} (Z : RRL L B g0 h g) (hf : f_X5_init_0 v0 h = some o) : ZP L B g0 o (f_X5_init_0 v0 g) := by
  unfold f_X5_init_0 at hf ⊢
  obtain ⟨c1, hf⟩ := ite_some hf
  refine zif (z_okO Z (by decide) c1) ?_
  exact z_X5_init_9 bv0 (RR_si Z bv0 0 0) hf
theorem z_X5_init {L B : Nat} {g0 : Hp} {v0 : Nat} (bv0 : B ≤ v0) {h g o : Hp} (Z : RRL L B g0 h g) (hf : f_X5_init v0 h = some o) : ZP L B g0 o (f_X5_init v0 g) := z_X5_init_0 bv0 Z hf
set_option maxRecDepth 100000 in
theorem z_X6_init_28 {L B : Nat} {g0 : Hp} {v0 : Nat} (bv0 : B ≤ v0) {h g o : Hp} (Z : RRL L B g0 h g) (hf : f_X6_init_28 v0 h = some o) : ZP L B g0 o (f_X6_init_28 v0 g) := by
  unfold f_X6_init_28 at hf ⊢
  obtain ⟨c1, hf⟩ := ite_some hf
  refine zif (z_okO Z (by decide) c1) ?_
  have hf := Option.some.inj hf
  subst hf
  exact ⟨_, rfl, (RR_si Z bv0 3 0)⟩
set_option maxRecDepth 100000 in
theorem z_X6_init_25 {L B : Nat} {g0 : Hp} {v0 : Nat} {s0 : Nat} {s1 : Nat} (bv0 : B ≤ v0) (bs0 : B ≤ s0) (bs1 : B ≤ s1) {h g o : Hp} (Z : RRL L B g0 h g) (hf : f_X6_init_25 v0 s0 s1 h = some o) : ZP L B g0 o (f_X6_init_25 v0 s0 s1 g) := by
  unfold f_X6_init_25 at hf ⊢
  obtain ⟨c1, hf⟩ := ite_some hf
  refine zif (z_okO Z (by decide) c1) ?_
  obtain ⟨c2, hf⟩ := ite_some hf
  refine zif c2 ?_
  exact z_X6_init_28 bv0 (RR_sr Z bs0 (j := 2) (by decide) bs1) hf
set_option maxRecDepth 100000 in
theorem z_X6_init_20 {L B : Nat} {g0 : Hp} {v0 : Nat} (bv0 : B ≤ v0) {h g o : Hp} (Z : RRL L B g0 h g) (hf : f_X6_init_20 v0 h = some o) : ZP L B g0 o (f_X6_init_20 v0 g) := by
  unfold f_X6_init_20 at hf ⊢
  rw [RR_len Z]
  exact z_X6_init_25 bv0 bv0 Z.2.1 (RR_new Z (q := (9, ix 40)) (by decide) (by decide)) hf
set_option maxRecDepth 100000 in
theorem z_X6_init_17 {L B : Nat} {g0 : Hp} {v0 : Nat} {s0 : Nat} {s1 : Nat} (bv0 : B ≤ v0) (bs0 : B ≤ s0) (bs1 : B ≤ s1) {h g o : Hp} (Z : RRL L B g0 h g) (hf : f_X6_init_17 v0 s0 s1 h = some o) : ZP L B g0 o (f_X6_init_17 v0 s0 s1 g) := by
  unfold f_X6_init_17 at hf ⊢
  obtain ⟨c1, hf⟩ := ite_some hf
  refine zif (z_okO Z (by decide) c1) ?_
  obtain ⟨c2, hf⟩ := ite_some hf
  refine zif c2 ?_
  exact z_X6_init_20 bv0 (RR_sr Z bs0 (j := 1) (by decide) bs1) hf
set_option maxRecDepth 100000 in
theorem z_X6_init_13 {L B : Nat} {g0 : Hp} {v0 : Nat} (bv0 : B ≤ v0) {h g o : Hp} (Z : RRL L B g0 h g) (hf : f_X6_init_13 v0 h = some o) : ZP L B g0 o (f_X6_init_13 v0 g) := by
  unfold f_X6_init_13 at hf ⊢
  rw [RR_len Z]
  exact z_X6_init_17 bv0 bv0 Z.2.1 (RR_new Z (q := (9, ix 3)) (by decide) (by decide)) hf
set_option maxRecDepth 100000 in
theorem z_X6_init_10 {L B : Nat} {g0 : Hp} {v0 : Nat} {s0 : Nat} {s1 : Nat} (bv0 : B ≤ v0) (bs0 : B ≤ s0) (bs1 : B ≤ s1) {h g o : Hp} (Z : RRL L B g0 h g) (hf : f_X6_init_10 v0 s0 s1 h = some o) : ZP L B g0 o (f_X6_init_10 v0 s0 s1 g) := by
  unfold f_X6_init_10 at hf ⊢
  obtain ⟨c1, hf⟩ := ite_some hf
  refine zif (z_okO Z (by decide) c1) ?_
  obtain ⟨c2, hf⟩ := ite_some hf
  refine zif c2 ?_
  exact z_X6_init_13 bv0 (RR_sr Z bs0 (j := 0) (by decide) bs1) hf
set_option maxRecDepth 100000 in
theorem z_X6_init_0 {L B : Nat} {g0 : Hp} {v0 : Nat} (bv0 : B ≤ v0) {h g o : Hp} (Z : RRL L B g0 h g) (hf : f_X6_init_0 v0 h = some o) : ZP L B g0 o (f_X6_init_0 v0 g) := by
  unfold f_X6_init_0 at hf ⊢
  rw [RR_len Z]
  exact z_X6_init_10 bv0 bv0 Z.2.1 (RR_new Z (q := (9, ix 160)) (by decide) (by decide)) hf
theorem z_X6_init {L B : Nat} {g0 : Hp} {v0 : Nat} (bv0 : B ≤ v0) {h g o : Hp} (Z : RRL L B g0 h g) (hf : f_X6_init v0 h = some o) : ZP L B g0 o (f_X6_init v0 g) := z_X6_init_0 bv0 Z hf
set_option maxRecDepth 100000 in
theorem z_X7_init_221 {L B : Nat} {g0 : Hp} {Ψ : Hp → Option Hp → Prop} {n : Nat} {K232 Q232 : Nat → Hp → Option Hp} (HK232 : ∀ (v0 : Nat), B ≤ v0 → ∀ (h g o : Hp), RRL L B g0 h g → Q232 v0 h = some o → Ψ o (K232 v0 g)) {v0 : Nat} {s0 : Nat} {s1 : Nat} (bv0 : B ≤ v0) (bs0 : B ≤ s0) (bs1 : B ≤ s1) {h g o : Hp} (Z : RRL L B g0 h g) (hf : f_X7_init_221 n Q232 v0 s0 s1 h = some o) : Ψ o (f_X7_init_221 n K232 v0 s0 s1 g) := by
  unfold f_X7_init_221 at hf ⊢
  obtain ⟨c1, hf⟩ := ite_some hf
  refine zif (z_okO Z (by decide) c1) ?_
  obtain ⟨a2, e2, hf⟩ := bind_some hf
  obtain ⟨ye2, ba2⟩ := RR_gR Z bv0 (by rw [c1]; decide) e2
  refine zbd ye2 ?_
  obtain ⟨c4, hf⟩ := ite_some hf
  refine zif (z_okO Z (by decide) c4) ?_
  obtain ⟨o3, e3, hf⟩ := bind_some hf
  obtain ⟨qo3, ye3, Zo3⟩ := z_X3_init bs1 ba2 Z e3
  refine zbd ye3 ?_
  obtain ⟨c5, hf⟩ := ite_some hf
  refine zif (z_okO Zo3 (by decide) c5) ?_
  obtain ⟨c6, hf⟩ := ite_some hf
  refine zif c6 ?_
  exact HK232 _ bv0 _ _ _ (RR_sr Zo3 bs0 (j := 8) (by decide) bs1) hf
set_option maxRecDepth 100000 in
theorem z_X7_init_217 {L B : Nat} {g0 : Hp} {Ψ : Hp → Option Hp → Prop} {n : Nat} {K232 Q232 : Nat → Hp → Option Hp} (HK232 : ∀ (v0 : Nat), B ≤ v0 → ∀ (h g o : Hp), RRL L B g0 h g → Q232 v0 h = some o → Ψ o (K232 v0 g)) {v0 : Nat} (bv0 : B ≤ v0) {h g o : Hp} (Z : RRL L B g0 h g) (hf : f_X7_init_217 n Q232 v0 h = some o) : Ψ o (f_X7_init_217 n K232 v0 g) := by
  unfold f_X7_init_217 at hf ⊢
  rw [RR_len Z]
  exact z_X7_init_221 HK232 bv0 bv0 Z.2.1 (RR_new Z (q := (3, nFf 3)) (by decide) (by decide)) hf
set_option maxRecDepth 100000 in
theorem z_X7_init_206 {L B : Nat} {g0 : Hp} {Ψ : Hp → Option Hp → Prop} {n : Nat} {K232 Q232 : Nat → Hp → Option Hp} (HK232 : ∀ (v0 : Nat), B ≤ v0 → ∀ (h g o : Hp), RRL L B g0 h g → Q232 v0 h = some o → Ψ o (K232 v0 g)) {v0 : Nat} {s0 : Nat} {s1 : Nat} (bv0 : B ≤ v0) (bs0 : B ≤ s0) (bs1 : B ≤ s1) {h g o : Hp} (Z : RRL L B g0 h g) (hf : f_X7_init_206 n Q232 v0 s0 s1 h = some o) : Ψ o (f_X7_init_206 n K232 v0 s0 s1 g) := by
  unfold f_X7_init_206 at hf ⊢
  obtain ⟨c1, hf⟩ := ite_some hf
  refine zif (z_okO Z (by decide) c1) ?_
  obtain ⟨a2, e2, hf⟩ := bind_some hf
  obtain ⟨ye2, ba2⟩ := RR_gR Z bv0 (by rw [c1]; decide) e2
  refine zbd ye2 ?_
  obtain ⟨c4, hf⟩ := ite_some hf
  refine zif (z_okO Z (by decide) c4) ?_
  obtain ⟨o3, e3, hf⟩ := bind_some hf
  obtain ⟨qo3, ye3, Zo3⟩ := z_X3_init bs1 ba2 Z e3
  refine zbd ye3 ?_
  obtain ⟨c5, hf⟩ := ite_some hf
  refine zif (z_okO Zo3 (by decide) c5) ?_
  obtain ⟨c6, hf⟩ := ite_some hf
  refine zif c6 ?_
  exact z_X7_init_217 HK232 bv0 (RR_sr Zo3 bs0 (j := 7) (by decide) bs1) hf
set_option maxRecDepth 100000 in
theorem z_X7_init_202 {L B : Nat} {g0 : Hp} {Ψ : Hp → Option Hp → Prop} {n : Nat} {K232 Q232 : Nat → Hp → Option Hp} (HK232 : ∀ (v0 : Nat), B ≤ v0 → ∀ (h g o : Hp), RRL L B g0 h g → Q232 v0 h = some o → Ψ o (K232 v0 g)) {v0 : Nat} (bv0 : B ≤ v0) {h g o : Hp} (Z : RRL L B g0 h g) (hf : f_X7_init_202 n Q232 v0 h = some o) : Ψ o (f_X7_init_202 n K232 v0 g) := by
  unfold f_X7_init_202 at hf ⊢
  rw [RR_len Z]
  exact z_X7_init_206 HK232 bv0 bv0 Z.2.1 (RR_new Z (q := (3, nFf 3)) (by decide) (by decide)) hf
set_option maxRecDepth 100000 in
theorem z_X7_init_189 {L B : Nat} {g0 : Hp} {Ψ : Hp → Option Hp → Prop} {n : Nat} {K232 Q232 : Nat → Hp → Option Hp} (HK232 : ∀ (v0 : Nat), B ≤ v0 → ∀ (h g o : Hp), RRL L B g0 h g → Q232 v0 h = some o → Ψ o (K232 v0 g)) {v0 : Nat} {s0 : Nat} {s1 : Nat} (bv0 : B ≤ v0) (bs0 : B ≤ s0) (bs1 : B ≤ s1) {h g o : Hp} (Z : RRL L B g0 h g) (hf : f_X7_init_189 n Q232 v0 s0 s1 h = some o) : Ψ o (f_X7_init_189 n K232 v0 s0 s1 g) := by
  unfold f_X7_init_189 at hf ⊢
  obtain ⟨c1, hf⟩ := ite_some hf
  refine zif (z_okO Z (by decide) c1) ?_
  obtain ⟨a2, e2, hf⟩ := bind_some hf
  obtain ⟨ye2, ba2⟩ := RR_gR Z bv0 (by rw [c1]; decide) e2
  refine zbd ye2 ?_
  obtain ⟨c3, hf⟩ := ite_some hf
  refine zif (z_okR Z c3) ?_
  obtain ⟨a4, e4, hf⟩ := bind_some hf
  obtain ⟨ye4, ba4⟩ := RR_gR Z ba2 (by omega) e4
  refine zbd ye4 ?_
  obtain ⟨c6, hf⟩ := ite_some hf
  refine zif (z_okO Z (by decide) c6) ?_
  obtain ⟨o5, e5, hf⟩ := bind_some hf
  obtain ⟨qo5, ye5, Zo5⟩ := z_X1_init bs1 ba4 Z e5
  refine zbd ye5 ?_
  obtain ⟨c7, hf⟩ := ite_some hf
  refine zif (z_okO Zo5 (by decide) c7) ?_
  obtain ⟨c8, hf⟩ := ite_some hf
  refine zif c8 ?_
  exact z_X7_init_202 HK232 bv0 (RR_sr Zo5 bs0 (j := 6) (by decide) bs1) hf
set_option maxRecDepth 100000 in
theorem z_X7_init_174 {L B : Nat} {g0 : Hp} {Ψ : Hp → Option Hp → Prop} {n : Nat} {K161 Q161 : Nat → Int32 → Hp → Option Hp} {K232 Q232 : Nat → Hp → Option Hp} (HK161 : ∀ (v0 : Nat) (v1 : Int32), B ≤ v0 → ∀ (h g o : Hp), RRL L B g0 h g → Q161 v0 v1 h = some o → Ψ o (K161 v0 v1 g)) (HK232 : ∀ (v0 : Nat), B ≤ v0 → ∀ (h g o : Hp), RRL L B g0 h g → Q232 v0 h = some o → Ψ o (K232 v0 g)) {v0 : Nat} {v1 : Int32} {s0 : Nat} {s1 : Int32} {s2 : Nat} (bv0 : B ≤ v0) (bs0 : B ≤ s0) (bs2 : B ≤ s2) {h g o : Hp} (Z : RRL L B g0 h g) (hf : f_X7_init_174 n Q161 Q232 v0 v1 s0 s1 s2 h = some o) : Ψ o (f_X7_init_174 n K161 K232 v0 v1 s0 s1 s2 g) := by
  unfold f_X7_init_174 at hf ⊢
  obtain ⟨c2, hf⟩ := ite_some hf
  refine zif (z_okO Z (by decide) c2) ?_
  obtain ⟨o1, e1, hf⟩ := bind_some hf
  obtain ⟨qo1, ye1, Zo1⟩ := z_X4_init bs2 Z e1
  refine zbd ye1 ?_
  obtain ⟨c3, hf⟩ := ite_some hf
  refine zif (z_okR Zo1 c3) ?_
  obtain ⟨c4, hf⟩ := ite_some hf
  refine zif (z_aast Zo1 c3 c4) ?_
  exact HK161 _ _ bv0 _ _ _ (RR_srR Zo1 bs0 c3 bs2) hf
set_option maxRecDepth 100000 in
theorem z_X7_init_161 {L B : Nat} {g0 : Hp} {Ψ : Hp → Option Hp → Prop} {n : Nat} {K232 Q232 : Nat → Hp → Option Hp} (HK232 : ∀ (v0 : Nat), B ≤ v0 → ∀ (h g o : Hp), RRL L B g0 h g → Q232 v0 h = some o → Ψ o (K232 v0 g)) : ∀ (m : Nat) (v0 : Nat) (v1 : Int32), B ≤ v0 → ∀ (h g o : Hp), RRL L B g0 h g → f_X7_init_161 n Q232 m v0 v1 h = some o → Ψ o (f_X7_init_161 n K232 m v0 v1 g) := by
  intro m
  induction m with
  | zero => intro v0 v1 bv0 h g o Z hf; cases hf
  | succ m ih =>
    intro v0 v1 bv0 h g o Z hf
    rw [f_X7_init_161] at hf ⊢
    by_cases c1 : 4 ≤ v1
    · replace hf := (if_pos c1).symm.trans hf
      refine zif c1 ?_
      rw [RR_len Z]
      exact z_X7_init_189 HK232 bv0 bv0 Z.2.1 (RR_new Z (q := (1, nFf 1)) (by decide) (by decide)) hf
    · replace hf := (if_neg c1).symm.trans hf
      refine zifn c1 ?_
      obtain ⟨c2, hf⟩ := ite_some hf
      refine zif (z_okO Z (by decide) c2) ?_
      obtain ⟨a3, e3, hf⟩ := bind_some hf
      obtain ⟨ye3, ba3⟩ := RR_gR Z bv0 (by rw [c2]; decide) e3
      refine zbd ye3 ?_
      rw [RR_len Z]
      exact z_X7_init_174 ih HK232 bv0 ba3 Z.2.1 (RR_new Z (q := (4, nFf 4)) (by decide) (by decide)) hf
set_option maxRecDepth 100000 in
theorem z_X7_init_148 {L B : Nat} {g0 : Hp} {Ψ : Hp → Option Hp → Prop} {n : Nat} {K134 Q134 : Nat → Int32 → Hp → Option Hp} {K232 Q232 : Nat → Hp → Option Hp} (HK134 : ∀ (v0 : Nat) (v1 : Int32), B ≤ v0 → ∀ (h g o : Hp), RRL L B g0 h g → Q134 v0 v1 h = some o → Ψ o (K134 v0 v1 g)) (HK232 : ∀ (v0 : Nat), B ≤ v0 → ∀ (h g o : Hp), RRL L B g0 h g → Q232 v0 h = some o → Ψ o (K232 v0 g)) {v0 : Nat} {v1 : Int32} {s0 : Nat} {s1 : Int32} {s2 : Nat} (bv0 : B ≤ v0) (bs0 : B ≤ s0) (bs2 : B ≤ s2) {h g o : Hp} (Z : RRL L B g0 h g) (hf : f_X7_init_148 n Q134 Q232 v0 v1 s0 s1 s2 h = some o) : Ψ o (f_X7_init_148 n K134 K232 v0 v1 s0 s1 s2 g) := by
  unfold f_X7_init_148 at hf ⊢
  obtain ⟨c2, hf⟩ := ite_some hf
  refine zif (z_okO Z (by decide) c2) ?_
  obtain ⟨o1, e1, hf⟩ := bind_some hf
  obtain ⟨qo1, ye1, Zo1⟩ := z_X6_init bs2 Z e1
  refine zbd ye1 ?_
  obtain ⟨c3, hf⟩ := ite_some hf
  refine zif (z_okR Zo1 c3) ?_
  obtain ⟨c4, hf⟩ := ite_some hf
  refine zif (z_aast Zo1 c3 c4) ?_
  exact HK134 _ _ bv0 _ _ _ (RR_srR Zo1 bs0 c3 bs2) hf
set_option maxRecDepth 100000 in
theorem z_X7_init_134 {L B : Nat} {g0 : Hp} {Ψ : Hp → Option Hp → Prop} {n : Nat} {K232 Q232 : Nat → Hp → Option Hp} (HK232 : ∀ (v0 : Nat), B ≤ v0 → ∀ (h g o : Hp), RRL L B g0 h g → Q232 v0 h = some o → Ψ o (K232 v0 g)) : ∀ (m : Nat) (v0 : Nat) (v1 : Int32), B ≤ v0 → ∀ (h g o : Hp), RRL L B g0 h g → f_X7_init_134 n Q232 m v0 v1 h = some o → Ψ o (f_X7_init_134 n K232 m v0 v1 g) := by
  intro m
  induction m with
  | zero => intro v0 v1 bv0 h g o Z hf; cases hf
  | succ m ih =>
    intro v0 v1 bv0 h g o Z hf
    rw [f_X7_init_134] at hf ⊢
    by_cases c1 : 6 ≤ v1
    · replace hf := (if_pos c1).symm.trans hf
      refine zif c1 ?_
      exact z_X7_init_161 HK232 _ _ _ bv0 _ _ _ Z hf
    · replace hf := (if_neg c1).symm.trans hf
      refine zifn c1 ?_
      obtain ⟨c2, hf⟩ := ite_some hf
      refine zif (z_okO Z (by decide) c2) ?_
      obtain ⟨a3, e3, hf⟩ := bind_some hf
      obtain ⟨ye3, ba3⟩ := RR_gR Z bv0 (by rw [c2]; decide) e3
      refine zbd ye3 ?_
      rw [RR_len Z]
      exact z_X7_init_148 ih HK232 bv0 ba3 Z.2.1 (RR_new Z (q := (6, nFf 6)) (by decide) (by decide)) hf
set_option maxRecDepth 100000 in
theorem z_X7_init_121 {L B : Nat} {g0 : Hp} {Ψ : Hp → Option Hp → Prop} {n : Nat} {K107 Q107 : Nat → Int32 → Hp → Option Hp} {K232 Q232 : Nat → Hp → Option Hp} (HK107 : ∀ (v0 : Nat) (v1 : Int32), B ≤ v0 → ∀ (h g o : Hp), RRL L B g0 h g → Q107 v0 v1 h = some o → Ψ o (K107 v0 v1 g)) (HK232 : ∀ (v0 : Nat), B ≤ v0 → ∀ (h g o : Hp), RRL L B g0 h g → Q232 v0 h = some o → Ψ o (K232 v0 g)) {v0 : Nat} {v1 : Int32} {s0 : Nat} {s1 : Int32} {s2 : Nat} (bv0 : B ≤ v0) (bs0 : B ≤ s0) (bs2 : B ≤ s2) {h g o : Hp} (Z : RRL L B g0 h g) (hf : f_X7_init_121 n Q107 Q232 v0 v1 s0 s1 s2 h = some o) : Ψ o (f_X7_init_121 n K107 K232 v0 v1 s0 s1 s2 g) := by
  unfold f_X7_init_121 at hf ⊢
  obtain ⟨c2, hf⟩ := ite_some hf
  refine zif (z_okO Z (by decide) c2) ?_
  obtain ⟨o1, e1, hf⟩ := bind_some hf
  obtain ⟨qo1, ye1, Zo1⟩ := z_X5_init bs2 Z e1
  refine zbd ye1 ?_
  obtain ⟨c3, hf⟩ := ite_some hf
  refine zif (z_okR Zo1 c3) ?_
  obtain ⟨c4, hf⟩ := ite_some hf
  refine zif (z_aast Zo1 c3 c4) ?_
  exact HK107 _ _ bv0 _ _ _ (RR_srR Zo1 bs0 c3 bs2) hf
set_option maxRecDepth 100000 in
theorem z_X7_init_107 {L B : Nat} {g0 : Hp} {Ψ : Hp → Option Hp → Prop} {n : Nat} {K232 Q232 : Nat → Hp → Option Hp} (HK232 : ∀ (v0 : Nat), B ≤ v0 → ∀ (h g o : Hp), RRL L B g0 h g → Q232 v0 h = some o → Ψ o (K232 v0 g)) : ∀ (m : Nat) (v0 : Nat) (v1 : Int32), B ≤ v0 → ∀ (h g o : Hp), RRL L B g0 h g → f_X7_init_107 n Q232 m v0 v1 h = some o → Ψ o (f_X7_init_107 n K232 m v0 v1 g) := by
  intro m
  induction m with
  | zero => intro v0 v1 bv0 h g o Z hf; cases hf
  | succ m ih =>
    intro v0 v1 bv0 h g o Z hf
    rw [f_X7_init_107] at hf ⊢
    by_cases c1 : 12 ≤ v1
    · replace hf := (if_pos c1).symm.trans hf
      refine zif c1 ?_
      exact z_X7_init_134 HK232 _ _ _ bv0 _ _ _ Z hf
    · replace hf := (if_neg c1).symm.trans hf
      refine zifn c1 ?_
      obtain ⟨c2, hf⟩ := ite_some hf
      refine zif (z_okO Z (by decide) c2) ?_
      obtain ⟨a3, e3, hf⟩ := bind_some hf
      obtain ⟨ye3, ba3⟩ := RR_gR Z bv0 (by rw [c2]; decide) e3
      refine zbd ye3 ?_
      rw [RR_len Z]
      exact z_X7_init_121 ih HK232 bv0 ba3 Z.2.1 (RR_new Z (q := (5, nFf 5)) (by decide) (by decide)) hf
set_option maxRecDepth 100000 in
theorem z_X7_init_100 {L B : Nat} {g0 : Hp} {Ψ : Hp → Option Hp → Prop} {n : Nat} {K232 Q232 : Nat → Hp → Option Hp} (HK232 : ∀ (v0 : Nat), B ≤ v0 → ∀ (h g o : Hp), RRL L B g0 h g → Q232 v0 h = some o → Ψ o (K232 v0 g)) {v0 : Nat} (bv0 : B ≤ v0) {h g o : Hp} (Z : RRL L B g0 h g) (hf : f_X7_init_100 n Q232 v0 h = some o) : Ψ o (f_X7_init_100 n K232 v0 g) := by
  unfold f_X7_init_100 at hf ⊢
  obtain ⟨c1, hf⟩ := ite_some hf
  refine zif (z_okO Z (by decide) c1) ?_
  exact z_X7_init_107 HK232 _ _ _ bv0 _ _ _ (RR_si Z bv0 14 0) hf
set_option maxRecDepth 100000 in
theorem z_X7_init_95 {L B : Nat} {g0 : Hp} {Ψ : Hp → Option Hp → Prop} {n : Nat} {K232 Q232 : Nat → Hp → Option Hp} (HK232 : ∀ (v0 : Nat), B ≤ v0 → ∀ (h g o : Hp), RRL L B g0 h g → Q232 v0 h = some o → Ψ o (K232 v0 g)) {v0 : Nat} (bv0 : B ≤ v0) {h g o : Hp} (Z : RRL L B g0 h g) (hf : f_X7_init_95 n Q232 v0 h = some o) : Ψ o (f_X7_init_95 n K232 v0 g) := by
  unfold f_X7_init_95 at hf ⊢
  obtain ⟨c1, hf⟩ := ite_some hf
  refine zif (z_okO Z (by decide) c1) ?_
  exact z_X7_init_100 HK232 bv0 (RR_si Z bv0 13 1) hf
set_option maxRecDepth 100000 in
theorem z_X7_init_90 {L B : Nat} {g0 : Hp} {Ψ : Hp → Option Hp → Prop} {n : Nat} {K232 Q232 : Nat → Hp → Option Hp} (HK232 : ∀ (v0 : Nat), B ≤ v0 → ∀ (h g o : Hp), RRL L B g0 h g → Q232 v0 h = some o → Ψ o (K232 v0 g)) {v0 : Nat} (bv0 : B ≤ v0) {h g o : Hp} (Z : RRL L B g0 h g) (hf : f_X7_init_90 n Q232 v0 h = some o) : Ψ o (f_X7_init_90 n K232 v0 g) := by
  unfold f_X7_init_90 at hf ⊢
  obtain ⟨c1, hf⟩ := ite_some hf
  refine zif (z_okO Z (by decide) c1) ?_
  exact z_X7_init_95 HK232 bv0 (RR_si Z bv0 12 0) hf
set_option maxRecDepth 100000 in
theorem z_X7_init_87 {L B : Nat} {g0 : Hp} {Ψ : Hp → Option Hp → Prop} {n : Nat} {K232 Q232 : Nat → Hp → Option Hp} (HK232 : ∀ (v0 : Nat), B ≤ v0 → ∀ (h g o : Hp), RRL L B g0 h g → Q232 v0 h = some o → Ψ o (K232 v0 g)) {v0 : Nat} {s0 : Nat} {s1 : Nat} (bv0 : B ≤ v0) (bs0 : B ≤ s0) (bs1 : B ≤ s1) {h g o : Hp} (Z : RRL L B g0 h g) (hf : f_X7_init_87 n Q232 v0 s0 s1 h = some o) : Ψ o (f_X7_init_87 n K232 v0 s0 s1 g) := by
  unfold f_X7_init_87 at hf ⊢
  obtain ⟨c1, hf⟩ := ite_some hf
  refine zif (z_okO Z (by decide) c1) ?_
  obtain ⟨c2, hf⟩ := ite_some hf
  refine zif c2 ?_
  exact z_X7_init_90 HK232 bv0 (RR_sr Z bs0 (j := 11) (by decide) bs1) hf
set_option maxRecDepth 100000 in
theorem z_X7_init_82 {L B : Nat} {g0 : Hp} {Ψ : Hp → Option Hp → Prop} {n : Nat} {K232 Q232 : Nat → Hp → Option Hp} (HK232 : ∀ (v0 : Nat), B ≤ v0 → ∀ (h g o : Hp), RRL L B g0 h g → Q232 v0 h = some o → Ψ o (K232 v0 g)) {v0 : Nat} (bv0 : B ≤ v0) {h g o : Hp} (Z : RRL L B g0 h g) (hf : f_X7_init_82 n Q232 v0 h = some o) : Ψ o (f_X7_init_82 n K232 v0 g) := by
  unfold f_X7_init_82 at hf ⊢
  rw [RR_len Z]
  exact z_X7_init_87 HK232 bv0 bv0 Z.2.1 (RR_new Z (q := (9, ix 16)) (by decide) (by decide)) hf
set_option maxRecDepth 100000 in
theorem z_X7_init_79 {L B : Nat} {g0 : Hp} {Ψ : Hp → Option Hp → Prop} {n : Nat} {K232 Q232 : Nat → Hp → Option Hp} (HK232 : ∀ (v0 : Nat), B ≤ v0 → ∀ (h g o : Hp), RRL L B g0 h g → Q232 v0 h = some o → Ψ o (K232 v0 g)) {v0 : Nat} {s0 : Nat} {s1 : Nat} (bv0 : B ≤ v0) (bs0 : B ≤ s0) (bs1 : B ≤ s1) {h g o : Hp} (Z : RRL L B g0 h g) (hf : f_X7_init_79 n Q232 v0 s0 s1 h = some o) : Ψ o (f_X7_init_79 n K232 v0 s0 s1 g) := by
  unfold f_X7_init_79 at hf ⊢
  obtain ⟨c1, hf⟩ := ite_some hf
  refine zif (z_okO Z (by decide) c1) ?_
  obtain ⟨c2, hf⟩ := ite_some hf
  refine zif c2 ?_
  exact z_X7_init_82 HK232 bv0 (RR_sr Z bs0 (j := 10) (by decide) bs1) hf
set_option maxRecDepth 100000 in
theorem z_X7_init_74 {L B : Nat} {g0 : Hp} {Ψ : Hp → Option Hp → Prop} {n : Nat} {K232 Q232 : Nat → Hp → Option Hp} (HK232 : ∀ (v0 : Nat), B ≤ v0 → ∀ (h g o : Hp), RRL L B g0 h g → Q232 v0 h = some o → Ψ o (K232 v0 g)) {v0 : Nat} (bv0 : B ≤ v0) {h g o : Hp} (Z : RRL L B g0 h g) (hf : f_X7_init_74 n Q232 v0 h = some o) : Ψ o (f_X7_init_74 n K232 v0 g) := by
  unfold f_X7_init_74 at hf ⊢
  rw [RR_len Z]
  exact z_X7_init_79 HK232 bv0 bv0 Z.2.1 (RR_new Z (q := (9, ix 16)) (by decide) (by decide)) hf
set_option maxRecDepth 100000 in
theorem z_X7_init_71 {L B : Nat} {g0 : Hp} {Ψ : Hp → Option Hp → Prop} {n : Nat} {K232 Q232 : Nat → Hp → Option Hp} (HK232 : ∀ (v0 : Nat), B ≤ v0 → ∀ (h g o : Hp), RRL L B g0 h g → Q232 v0 h = some o → Ψ o (K232 v0 g)) {v0 : Nat} {s0 : Nat} {s1 : Nat} (bv0 : B ≤ v0) (bs0 : B ≤ s0) (bs1 : B ≤ s1) {h g o : Hp} (Z : RRL L B g0 h g) (hf : f_X7_init_71 n Q232 v0 s0 s1 h = some o) : Ψ o (f_X7_init_71 n K232 v0 s0 s1 g) := by
  unfold f_X7_init_71 at hf ⊢
  obtain ⟨c1, hf⟩ := ite_some hf
  refine zif (z_okO Z (by decide) c1) ?_
  obtain ⟨c2, hf⟩ := ite_some hf
  refine zif c2 ?_
  exact z_X7_init_74 HK232 bv0 (RR_sr Z bs0 (j := 9) (by decide) bs1) hf
set_option maxRecDepth 100000 in
theorem z_X7_init_66 {L B : Nat} {g0 : Hp} {Ψ : Hp → Option Hp → Prop} {n : Nat} {K232 Q232 : Nat → Hp → Option Hp} (HK232 : ∀ (v0 : Nat), B ≤ v0 → ∀ (h g o : Hp), RRL L B g0 h g → Q232 v0 h = some o → Ψ o (K232 v0 g)) {v0 : Nat} (bv0 : B ≤ v0) {h g o : Hp} (Z : RRL L B g0 h g) (hf : f_X7_init_66 n Q232 v0 h = some o) : Ψ o (f_X7_init_66 n K232 v0 g) := by
  unfold f_X7_init_66 at hf ⊢
  rw [RR_len Z]
  exact z_X7_init_71 HK232 bv0 bv0 Z.2.1 (RR_new Z (q := (11, ix 4)) (by decide) (by decide)) hf
set_option maxRecDepth 100000 in
theorem z_X7_init_59 {L B : Nat} {g0 : Hp} {Ψ : Hp → Option Hp → Prop} {n : Nat} {K232 Q232 : Nat → Hp → Option Hp} (HK232 : ∀ (v0 : Nat), B ≤ v0 → ∀ (h g o : Hp), RRL L B g0 h g → Q232 v0 h = some o → Ψ o (K232 v0 g)) {v0 : Nat} {s0 : Nat} {s1 : Nat} (bv0 : B ≤ v0) (bs0 : B ≤ s0) (bs1 : B ≤ s1) {h g o : Hp} (Z : RRL L B g0 h g) (hf : f_X7_init_59 n Q232 v0 s0 s1 h = some o) : Ψ o (f_X7_init_59 n K232 v0 s0 s1 g) := by
  unfold f_X7_init_59 at hf ⊢
  obtain ⟨c2, hf⟩ := ite_some hf
  refine zif (z_okO Z (by decide) c2) ?_
  obtain ⟨o1, e1, hf⟩ := bind_some hf
  obtain ⟨qo1, ye1, Zo1⟩ := z_X2_init bs1 Z e1
  refine zbd ye1 ?_
  obtain ⟨c3, hf⟩ := ite_some hf
  refine zif (z_okO Zo1 (by decide) c3) ?_
  obtain ⟨c4, hf⟩ := ite_some hf
  refine zif c4 ?_
  exact z_X7_init_66 HK232 bv0 (RR_sr Zo1 bs0 (j := 5) (by decide) bs1) hf
set_option maxRecDepth 100000 in
theorem z_X7_init_55 {L B : Nat} {g0 : Hp} {Ψ : Hp → Option Hp → Prop} {n : Nat} {K232 Q232 : Nat → Hp → Option Hp} (HK232 : ∀ (v0 : Nat), B ≤ v0 → ∀ (h g o : Hp), RRL L B g0 h g → Q232 v0 h = some o → Ψ o (K232 v0 g)) {v0 : Nat} (bv0 : B ≤ v0) {h g o : Hp} (Z : RRL L B g0 h g) (hf : f_X7_init_55 n Q232 v0 h = some o) : Ψ o (f_X7_init_55 n K232 v0 g) := by
  unfold f_X7_init_55 at hf ⊢
  rw [RR_len Z]
  exact z_X7_init_59 HK232 bv0 bv0 Z.2.1 (RR_new Z (q := (2, nFf 2)) (by decide) (by decide)) hf
set_option maxRecDepth 100000 in
theorem z_X7_init_52 {L B : Nat} {g0 : Hp} {Ψ : Hp → Option Hp → Prop} {n : Nat} {K232 Q232 : Nat → Hp → Option Hp} (HK232 : ∀ (v0 : Nat), B ≤ v0 → ∀ (h g o : Hp), RRL L B g0 h g → Q232 v0 h = some o → Ψ o (K232 v0 g)) {v0 : Nat} {s0 : Nat} {s1 : Nat} (bv0 : B ≤ v0) (bs0 : B ≤ s0) (bs1 : B ≤ s1) {h g o : Hp} (Z : RRL L B g0 h g) (hf : f_X7_init_52 n Q232 v0 s0 s1 h = some o) : Ψ o (f_X7_init_52 n K232 v0 s0 s1 g) := by
  unfold f_X7_init_52 at hf ⊢
  obtain ⟨c1, hf⟩ := ite_some hf
  refine zif (z_okO Z (by decide) c1) ?_
  obtain ⟨c2, hf⟩ := ite_some hf
  refine zif c2 ?_
  exact z_X7_init_55 HK232 bv0 (RR_sr Z bs0 (j := 4) (by decide) bs1) hf
set_option maxRecDepth 100000 in
theorem z_X7_init_46 {L B : Nat} {g0 : Hp} {Ψ : Hp → Option Hp → Prop} {n : Nat} {K232 Q232 : Nat → Hp → Option Hp} (HK232 : ∀ (v0 : Nat), B ≤ v0 → ∀ (h g o : Hp), RRL L B g0 h g → Q232 v0 h = some o → Ψ o (K232 v0 g)) {v0 : Nat} (bv0 : B ≤ v0) {h g o : Hp} (Z : RRL L B g0 h g) (hf : f_X7_init_46 n Q232 v0 h = some o) : Ψ o (f_X7_init_46 n K232 v0 g) := by
  unfold f_X7_init_46 at hf ⊢
  rw [RR_len Z]
  exact z_X7_init_52 HK232 bv0 bv0 Z.2.1 (RR_new Z (q := (13, ix 6)) (by decide) (by decide)) hf
set_option maxRecDepth 100000 in
theorem z_X7_init_43 {L B : Nat} {g0 : Hp} {Ψ : Hp → Option Hp → Prop} {n : Nat} {K232 Q232 : Nat → Hp → Option Hp} (HK232 : ∀ (v0 : Nat), B ≤ v0 → ∀ (h g o : Hp), RRL L B g0 h g → Q232 v0 h = some o → Ψ o (K232 v0 g)) {v0 : Nat} {s0 : Nat} {s1 : Nat} (bv0 : B ≤ v0) (bs0 : B ≤ s0) (bs1 : B ≤ s1) {h g o : Hp} (Z : RRL L B g0 h g) (hf : f_X7_init_43 n Q232 v0 s0 s1 h = some o) : Ψ o (f_X7_init_43 n K232 v0 s0 s1 g) := by
  unfold f_X7_init_43 at hf ⊢
  obtain ⟨c1, hf⟩ := ite_some hf
  refine zif (z_okO Z (by decide) c1) ?_
  obtain ⟨c2, hf⟩ := ite_some hf
  refine zif c2 ?_
  exact z_X7_init_46 HK232 bv0 (RR_sr Z bs0 (j := 3) (by decide) bs1) hf
set_option maxRecDepth 100000 in
theorem z_X7_init_37 {L B : Nat} {g0 : Hp} {Ψ : Hp → Option Hp → Prop} {n : Nat} {K232 Q232 : Nat → Hp → Option Hp} (HK232 : ∀ (v0 : Nat), B ≤ v0 → ∀ (h g o : Hp), RRL L B g0 h g → Q232 v0 h = some o → Ψ o (K232 v0 g)) {v0 : Nat} (bv0 : B ≤ v0) {h g o : Hp} (Z : RRL L B g0 h g) (hf : f_X7_init_37 n Q232 v0 h = some o) : Ψ o (f_X7_init_37 n K232 v0 g) := by
  unfold f_X7_init_37 at hf ⊢
  rw [RR_len Z]
  exact z_X7_init_43 HK232 bv0 bv0 Z.2.1 (RR_new Z (q := (12, ix 12)) (by decide) (by decide)) hf
set_option maxRecDepth 100000 in
theorem z_X7_init_30 {L B : Nat} {g0 : Hp} {Ψ : Hp → Option Hp → Prop} {n : Nat} {K232 Q232 : Nat → Hp → Option Hp} (HK232 : ∀ (v0 : Nat), B ≤ v0 → ∀ (h g o : Hp), RRL L B g0 h g → Q232 v0 h = some o → Ψ o (K232 v0 g)) {v0 : Nat} {s0 : Nat} {s1 : Nat} (bv0 : B ≤ v0) (bs0 : B ≤ s0) (bs1 : B ≤ s1) {h g o : Hp} (Z : RRL L B g0 h g) (hf : f_X7_init_30 n Q232 v0 s0 s1 h = some o) : Ψ o (f_X7_init_30 n K232 v0 s0 s1 g) := by
  unfold f_X7_init_30 at hf ⊢
  obtain ⟨c2, hf⟩ := ite_some hf
  refine zif (z_okO Z (by decide) c2) ?_
  obtain ⟨o1, e1, hf⟩ := bind_some hf
  obtain ⟨qo1, ye1, Zo1⟩ := z_X0_init bs1 Z e1
  refine zbd ye1 ?_
  obtain ⟨c3, hf⟩ := ite_some hf
  refine zif (z_okO Zo1 (by decide) c3) ?_
  obtain ⟨c4, hf⟩ := ite_some hf
  refine zif c4 ?_
  exact z_X7_init_37 HK232 bv0 (RR_sr Zo1 bs0 (j := 2) (by decide) bs1) hf
set_option maxRecDepth 100000 in
theorem z_X7_init_26 {L B : Nat} {g0 : Hp} {Ψ : Hp → Option Hp → Prop} {n : Nat} {K232 Q232 : Nat → Hp → Option Hp} (HK232 : ∀ (v0 : Nat), B ≤ v0 → ∀ (h g o : Hp), RRL L B g0 h g → Q232 v0 h = some o → Ψ o (K232 v0 g)) {v0 : Nat} (bv0 : B ≤ v0) {h g o : Hp} (Z : RRL L B g0 h g) (hf : f_X7_init_26 n Q232 v0 h = some o) : Ψ o (f_X7_init_26 n K232 v0 g) := by
  unfold f_X7_init_26 at hf ⊢
  rw [RR_len Z]
  exact z_X7_init_30 HK232 bv0 bv0 Z.2.1 (RR_new Z (q := (0, nFf 0)) (by decide) (by decide)) hf
set_option maxRecDepth 100000 in
theorem z_X7_init_19 {L B : Nat} {g0 : Hp} {Ψ : Hp → Option Hp → Prop} {n : Nat} {K232 Q232 : Nat → Hp → Option Hp} (HK232 : ∀ (v0 : Nat), B ≤ v0 → ∀ (h g o : Hp), RRL L B g0 h g → Q232 v0 h = some o → Ψ o (K232 v0 g)) {v0 : Nat} {s0 : Nat} {s1 : Nat} (bv0 : B ≤ v0) (bs0 : B ≤ s0) (bs1 : B ≤ s1) {h g o : Hp} (Z : RRL L B g0 h g) (hf : f_X7_init_19 n Q232 v0 s0 s1 h = some o) : Ψ o (f_X7_init_19 n K232 v0 s0 s1 g) := by
  unfold f_X7_init_19 at hf ⊢
  obtain ⟨c2, hf⟩ := ite_some hf
  refine zif (z_okO Z (by decide) c2) ?_
  obtain ⟨o1, e1, hf⟩ := bind_some hf
  obtain ⟨qo1, ye1, Zo1⟩ := z_X0_init bs1 Z e1
  refine zbd ye1 ?_
  obtain ⟨c3, hf⟩ := ite_some hf
  refine zif (z_okO Zo1 (by decide) c3) ?_
  obtain ⟨c4, hf⟩ := ite_some hf
  refine zif c4 ?_
  exact z_X7_init_26 HK232 bv0 (RR_sr Zo1 bs0 (j := 1) (by decide) bs1) hf
set_option maxRecDepth 100000 in
theorem z_X7_init_15 {L B : Nat} {g0 : Hp} {Ψ : Hp → Option Hp → Prop} {n : Nat} {K232 Q232 : Nat → Hp → Option Hp} (HK232 : ∀ (v0 : Nat), B ≤ v0 → ∀ (h g o : Hp), RRL L B g0 h g → Q232 v0 h = some o → Ψ o (K232 v0 g)) {v0 : Nat} (bv0 : B ≤ v0) {h g o : Hp} (Z : RRL L B g0 h g) (hf : f_X7_init_15 n Q232 v0 h = some o) : Ψ o (f_X7_init_15 n K232 v0 g) := by
  unfold f_X7_init_15 at hf ⊢
  rw [RR_len Z]
  exact z_X7_init_19 HK232 bv0 bv0 Z.2.1 (RR_new Z (q := (0, nFf 0)) (by decide) (by decide)) hf
set_option maxRecDepth 100000 in
theorem z_X7_init_8 {L B : Nat} {g0 : Hp} {Ψ : Hp → Option Hp → Prop} {n : Nat} {K232 Q232 : Nat → Hp → Option Hp} (HK232 : ∀ (v0 : Nat), B ≤ v0 → ∀ (h g o : Hp), RRL L B g0 h g → Q232 v0 h = some o → Ψ o (K232 v0 g)) {v0 : Nat} {s0 : Nat} {s1 : Nat} (bv0 : B ≤ v0) (bs0 : B ≤ s0) (bs1 : B ≤ s1) {h g o : Hp} (Z : RRL L B g0 h g) (hf : f_X7_init_8 n Q232 v0 s0 s1 h = some o) : Ψ o (f_X7_init_8 n K232 v0 s0 s1 g) := by
  unfold f_X7_init_8 at hf ⊢
  obtain ⟨c2, hf⟩ := ite_some hf
  refine zif (z_okO Z (by decide) c2) ?_
  obtain ⟨o1, e1, hf⟩ := bind_some hf
  obtain ⟨qo1, ye1, Zo1⟩ := z_X0_init bs1 Z e1
  refine zbd ye1 ?_
  obtain ⟨c3, hf⟩ := ite_some hf
  refine zif (z_okO Zo1 (by decide) c3) ?_
  obtain ⟨c4, hf⟩ := ite_some hf
  refine zif c4 ?_
  exact z_X7_init_15 HK232 bv0 (RR_sr Zo1 bs0 (j := 0) (by decide) bs1) hf
set_option maxRecDepth 100000 in
theorem z_X7_init_0 {L B : Nat} {g0 : Hp} {Ψ : Hp → Option Hp → Prop} {n : Nat} {K232 Q232 : Nat → Hp → Option Hp} (HK232 : ∀ (v0 : Nat), B ≤ v0 → ∀ (h g o : Hp), RRL L B g0 h g → Q232 v0 h = some o → Ψ o (K232 v0 g)) {v0 : Nat} (bv0 : B ≤ v0) {h g o : Hp} (Z : RRL L B g0 h g) (hf : f_X7_init_0 n Q232 v0 h = some o) : Ψ o (f_X7_init_0 n K232 v0 g) := by
  unfold f_X7_init_0 at hf ⊢
  rw [RR_len Z]
  exact z_X7_init_8 HK232 bv0 bv0 Z.2.1 (RR_new Z (q := (0, nFf 0)) (by decide) (by decide)) hf
set_option maxRecDepth 100000 in
theorem z_X8_init_1453 {L B : Nat} {g0 : Hp} {Ψ : Hp → Option Hp → Prop} {n : Nat} {K1456 Q1456 : Nat → Hp → Option Hp} (HK1456 : ∀ (v0 : Nat), B ≤ v0 → ∀ (h g o : Hp), RRL L B g0 h g → Q1456 v0 h = some o → Ψ o (K1456 v0 g)) {v0 : Nat} {s0 : Nat} {s1 : Nat} (bv0 : B ≤ v0) (bs0 : B ≤ s0) (bs1 : B ≤ s1) {h g o : Hp} (Z : RRL L B g0 h g) (hf : f_X8_init_1453 n Q1456 v0 s0 s1 h = some o) : Ψ o (f_X8_init_1453 n K1456 v0 s0 s1 g) := by
  unfold f_X8_init_1453 at hf ⊢
  obtain ⟨c1, hf⟩ := ite_some hf
  refine zif (z_okO Z (by decide) c1) ?_
  obtain ⟨c2, hf⟩ := ite_some hf
  refine zif c2 ?_
  exact HK1456 _ bv0 _ _ _ (RR_sr Z bs0 (j := 53) (by decide) bs1) hf
set_option maxRecDepth 100000 in
theorem z_X8_init_1448 {L B : Nat} {g0 : Hp} {Ψ : Hp → Option Hp → Prop} {n : Nat} {K1456 Q1456 : Nat → Hp → Option Hp} (HK1456 : ∀ (v0 : Nat), B ≤ v0 → ∀ (h g o : Hp), RRL L B g0 h g → Q1456 v0 h = some o → Ψ o (K1456 v0 g)) {v0 : Nat} (bv0 : B ≤ v0) {h g o : Hp} (Z : RRL L B g0 h g) (hf : f_X8_init_1448 n Q1456 v0 h = some o) : Ψ o (f_X8_init_1448 n K1456 v0 g) := by
  unfold f_X8_init_1448 at hf ⊢
  rw [RR_len Z]
  exact z_X8_init_1453 HK1456 bv0 bv0 Z.2.1 (RR_new Z (q := (9, ix 16)) (by decide) (by decide)) hf
set_option maxRecDepth 100000 in
theorem z_X8_init_1445 {L B : Nat} {g0 : Hp} {Ψ : Hp → Option Hp → Prop} {n : Nat} {K1456 Q1456 : Nat → Hp → Option Hp} (HK1456 : ∀ (v0 : Nat), B ≤ v0 → ∀ (h g o : Hp), RRL L B g0 h g → Q1456 v0 h = some o → Ψ o (K1456 v0 g)) {v0 : Nat} {s0 : Nat} {s1 : Nat} (bv0 : B ≤ v0) (bs0 : B ≤ s0) (bs1 : B ≤ s1) {h g o : Hp} (Z : RRL L B g0 h g) (hf : f_X8_init_1445 n Q1456 v0 s0 s1 h = some o) : Ψ o (f_X8_init_1445 n K1456 v0 s0 s1 g) := by
  unfold f_X8_init_1445 at hf ⊢
  obtain ⟨c1, hf⟩ := ite_some hf
  refine zif (z_okO Z (by decide) c1) ?_
  obtain ⟨c2, hf⟩ := ite_some hf
  refine zif c2 ?_
  exact z_X8_init_1448 HK1456 bv0 (RR_sr Z bs0 (j := 52) (by decide) bs1) hf
set_option maxRecDepth 100000 in
theorem z_X8_init_1440 {L B : Nat} {g0 : Hp} {Ψ : Hp → Option Hp → Prop} {n : Nat} {K1456 Q1456 : Nat → Hp → Option Hp} (HK1456 : ∀ (v0 : Nat), B ≤ v0 → ∀ (h g o : Hp), RRL L B g0 h g → Q1456 v0 h = some o → Ψ o (K1456 v0 g)) {v0 : Nat} (bv0 : B ≤ v0) {h g o : Hp} (Z : RRL L B g0 h g) (hf : f_X8_init_1440 n Q1456 v0 h = some o) : Ψ o (f_X8_init_1440 n K1456 v0 g) := by
  unfold f_X8_init_1440 at hf ⊢
  rw [RR_len Z]
  exact z_X8_init_1445 HK1456 bv0 bv0 Z.2.1 (RR_new Z (q := (9, ix 16)) (by decide) (by decide)) hf
set_option maxRecDepth 100000 in
theorem z_X8_init_1437 {L B : Nat} {g0 : Hp} {Ψ : Hp → Option Hp → Prop} {n : Nat} {K1456 Q1456 : Nat → Hp → Option Hp} (HK1456 : ∀ (v0 : Nat), B ≤ v0 → ∀ (h g o : Hp), RRL L B g0 h g → Q1456 v0 h = some o → Ψ o (K1456 v0 g)) {v0 : Nat} {s0 : Nat} {s1 : Nat} (bv0 : B ≤ v0) (bs0 : B ≤ s0) (bs1 : B ≤ s1) {h g o : Hp} (Z : RRL L B g0 h g) (hf : f_X8_init_1437 n Q1456 v0 s0 s1 h = some o) : Ψ o (f_X8_init_1437 n K1456 v0 s0 s1 g) := by
  unfold f_X8_init_1437 at hf ⊢
  obtain ⟨c1, hf⟩ := ite_some hf
  refine zif (z_okO Z (by decide) c1) ?_
  obtain ⟨c2, hf⟩ := ite_some hf
  refine zif c2 ?_
  exact z_X8_init_1440 HK1456 bv0 (RR_sr Z bs0 (j := 51) (by decide) bs1) hf
set_option maxRecDepth 100000 in
theorem z_X8_init_1432 {L B : Nat} {g0 : Hp} {Ψ : Hp → Option Hp → Prop} {n : Nat} {K1456 Q1456 : Nat → Hp → Option Hp} (HK1456 : ∀ (v0 : Nat), B ≤ v0 → ∀ (h g o : Hp), RRL L B g0 h g → Q1456 v0 h = some o → Ψ o (K1456 v0 g)) {v0 : Nat} (bv0 : B ≤ v0) {h g o : Hp} (Z : RRL L B g0 h g) (hf : f_X8_init_1432 n Q1456 v0 h = some o) : Ψ o (f_X8_init_1432 n K1456 v0 g) := by
  unfold f_X8_init_1432 at hf ⊢
  rw [RR_len Z]
  exact z_X8_init_1437 HK1456 bv0 bv0 Z.2.1 (RR_new Z (q := (9, ix 12)) (by decide) (by decide)) hf
set_option maxRecDepth 100000 in
theorem z_X8_init_1429 {L B : Nat} {g0 : Hp} {Ψ : Hp → Option Hp → Prop} {n : Nat} {K1456 Q1456 : Nat → Hp → Option Hp} (HK1456 : ∀ (v0 : Nat), B ≤ v0 → ∀ (h g o : Hp), RRL L B g0 h g → Q1456 v0 h = some o → Ψ o (K1456 v0 g)) {v0 : Nat} {s0 : Nat} {s1 : Nat} (bv0 : B ≤ v0) (bs0 : B ≤ s0) (bs1 : B ≤ s1) {h g o : Hp} (Z : RRL L B g0 h g) (hf : f_X8_init_1429 n Q1456 v0 s0 s1 h = some o) : Ψ o (f_X8_init_1429 n K1456 v0 s0 s1 g) := by
  unfold f_X8_init_1429 at hf ⊢
  obtain ⟨c1, hf⟩ := ite_some hf
  refine zif (z_okO Z (by decide) c1) ?_
  obtain ⟨c2, hf⟩ := ite_some hf
  refine zif c2 ?_
  exact z_X8_init_1432 HK1456 bv0 (RR_sr Z bs0 (j := 50) (by decide) bs1) hf
set_option maxRecDepth 100000 in
theorem z_X8_init_1424 {L B : Nat} {g0 : Hp} {Ψ : Hp → Option Hp → Prop} {n : Nat} {K1456 Q1456 : Nat → Hp → Option Hp} (HK1456 : ∀ (v0 : Nat), B ≤ v0 → ∀ (h g o : Hp), RRL L B g0 h g → Q1456 v0 h = some o → Ψ o (K1456 v0 g)) {v0 : Nat} (bv0 : B ≤ v0) {h g o : Hp} (Z : RRL L B g0 h g) (hf : f_X8_init_1424 n Q1456 v0 h = some o) : Ψ o (f_X8_init_1424 n K1456 v0 g) := by
  unfold f_X8_init_1424 at hf ⊢
  rw [RR_len Z]
  exact z_X8_init_1429 HK1456 bv0 bv0 Z.2.1 (RR_new Z (q := (9, ix 12)) (by decide) (by decide)) hf
set_option maxRecDepth 100000 in
theorem z_X8_init_1421 {L B : Nat} {g0 : Hp} {Ψ : Hp → Option Hp → Prop} {n : Nat} {K1456 Q1456 : Nat → Hp → Option Hp} (HK1456 : ∀ (v0 : Nat), B ≤ v0 → ∀ (h g o : Hp), RRL L B g0 h g → Q1456 v0 h = some o → Ψ o (K1456 v0 g)) {v0 : Nat} {s0 : Nat} {s1 : Nat} (bv0 : B ≤ v0) (bs0 : B ≤ s0) (bs1 : B ≤ s1) {h g o : Hp} (Z : RRL L B g0 h g) (hf : f_X8_init_1421 n Q1456 v0 s0 s1 h = some o) : Ψ o (f_X8_init_1421 n K1456 v0 s0 s1 g) := by
  unfold f_X8_init_1421 at hf ⊢
  obtain ⟨c1, hf⟩ := ite_some hf
  refine zif (z_okO Z (by decide) c1) ?_
  obtain ⟨c2, hf⟩ := ite_some hf
  refine zif c2 ?_
  exact z_X8_init_1424 HK1456 bv0 (RR_sr Z bs0 (j := 49) (by decide) bs1) hf
set_option maxRecDepth 100000 in
theorem z_X8_init_1416 {L B : Nat} {g0 : Hp} {Ψ : Hp → Option Hp → Prop} {n : Nat} {K1456 Q1456 : Nat → Hp → Option Hp} (HK1456 : ∀ (v0 : Nat), B ≤ v0 → ∀ (h g o : Hp), RRL L B g0 h g → Q1456 v0 h = some o → Ψ o (K1456 v0 g)) {v0 : Nat} (bv0 : B ≤ v0) {h g o : Hp} (Z : RRL L B g0 h g) (hf : f_X8_init_1416 n Q1456 v0 h = some o) : Ψ o (f_X8_init_1416 n K1456 v0 g) := by
  unfold f_X8_init_1416 at hf ⊢
  rw [RR_len Z]
  exact z_X8_init_1421 HK1456 bv0 bv0 Z.2.1 (RR_new Z (q := (9, ix 12)) (by decide) (by decide)) hf
set_option maxRecDepth 100000 in
theorem z_X8_init_1413 {L B : Nat} {g0 : Hp} {Ψ : Hp → Option Hp → Prop} {n : Nat} {K1456 Q1456 : Nat → Hp → Option Hp} (HK1456 : ∀ (v0 : Nat), B ≤ v0 → ∀ (h g o : Hp), RRL L B g0 h g → Q1456 v0 h = some o → Ψ o (K1456 v0 g)) {v0 : Nat} {s0 : Nat} {s1 : Nat} (bv0 : B ≤ v0) (bs0 : B ≤ s0) (bs1 : B ≤ s1) {h g o : Hp} (Z : RRL L B g0 h g) (hf : f_X8_init_1413 n Q1456 v0 s0 s1 h = some o) : Ψ o (f_X8_init_1413 n K1456 v0 s0 s1 g) := by
  unfold f_X8_init_1413 at hf ⊢
  obtain ⟨c1, hf⟩ := ite_some hf
  refine zif (z_okO Z (by decide) c1) ?_
  obtain ⟨c2, hf⟩ := ite_some hf
  refine zif c2 ?_
  exact z_X8_init_1416 HK1456 bv0 (RR_sr Z bs0 (j := 48) (by decide) bs1) hf
set_option maxRecDepth 100000 in
theorem z_X8_init_1408 {L B : Nat} {g0 : Hp} {Ψ : Hp → Option Hp → Prop} {n : Nat} {K1456 Q1456 : Nat → Hp → Option Hp} (HK1456 : ∀ (v0 : Nat), B ≤ v0 → ∀ (h g o : Hp), RRL L B g0 h g → Q1456 v0 h = some o → Ψ o (K1456 v0 g)) {v0 : Nat} (bv0 : B ≤ v0) {h g o : Hp} (Z : RRL L B g0 h g) (hf : f_X8_init_1408 n Q1456 v0 h = some o) : Ψ o (f_X8_init_1408 n K1456 v0 g) := by
  unfold f_X8_init_1408 at hf ⊢
  rw [RR_len Z]
  exact z_X8_init_1413 HK1456 bv0 bv0 Z.2.1 (RR_new Z (q := (9, ix 12)) (by decide) (by decide)) hf
set_option maxRecDepth 100000 in
theorem z_X8_init_1405 {L B : Nat} {g0 : Hp} {Ψ : Hp → Option Hp → Prop} {n : Nat} {K1456 Q1456 : Nat → Hp → Option Hp} (HK1456 : ∀ (v0 : Nat), B ≤ v0 → ∀ (h g o : Hp), RRL L B g0 h g → Q1456 v0 h = some o → Ψ o (K1456 v0 g)) {v0 : Nat} {s0 : Nat} {s1 : Nat} (bv0 : B ≤ v0) (bs0 : B ≤ s0) (bs1 : B ≤ s1) {h g o : Hp} (Z : RRL L B g0 h g) (hf : f_X8_init_1405 n Q1456 v0 s0 s1 h = some o) : Ψ o (f_X8_init_1405 n K1456 v0 s0 s1 g) := by
  unfold f_X8_init_1405 at hf ⊢
  obtain ⟨c1, hf⟩ := ite_some hf
  refine zif (z_okO Z (by decide) c1) ?_
  obtain ⟨c2, hf⟩ := ite_some hf
  refine zif c2 ?_
  exact z_X8_init_1408 HK1456 bv0 (RR_sr Z bs0 (j := 47) (by decide) bs1) hf
set_option maxRecDepth 100000 in
theorem z_X8_init_1400 {L B : Nat} {g0 : Hp} {Ψ : Hp → Option Hp → Prop} {n : Nat} {K1456 Q1456 : Nat → Hp → Option Hp} (HK1456 : ∀ (v0 : Nat), B ≤ v0 → ∀ (h g o : Hp), RRL L B g0 h g → Q1456 v0 h = some o → Ψ o (K1456 v0 g)) {v0 : Nat} (bv0 : B ≤ v0) {h g o : Hp} (Z : RRL L B g0 h g) (hf : f_X8_init_1400 n Q1456 v0 h = some o) : Ψ o (f_X8_init_1400 n K1456 v0 g) := by
  unfold f_X8_init_1400 at hf ⊢
  rw [RR_len Z]
  exact z_X8_init_1405 HK1456 bv0 bv0 Z.2.1 (RR_new Z (q := (9, ix 12)) (by decide) (by decide)) hf
set_option maxRecDepth 100000 in
theorem z_X8_init_1397 {L B : Nat} {g0 : Hp} {Ψ : Hp → Option Hp → Prop} {n : Nat} {K1456 Q1456 : Nat → Hp → Option Hp} (HK1456 : ∀ (v0 : Nat), B ≤ v0 → ∀ (h g o : Hp), RRL L B g0 h g → Q1456 v0 h = some o → Ψ o (K1456 v0 g)) {v0 : Nat} {s0 : Nat} {s1 : Nat} (bv0 : B ≤ v0) (bs0 : B ≤ s0) (bs1 : B ≤ s1) {h g o : Hp} (Z : RRL L B g0 h g) (hf : f_X8_init_1397 n Q1456 v0 s0 s1 h = some o) : Ψ o (f_X8_init_1397 n K1456 v0 s0 s1 g) := by
  unfold f_X8_init_1397 at hf ⊢
  obtain ⟨c1, hf⟩ := ite_some hf
  refine zif (z_okO Z (by decide) c1) ?_
  obtain ⟨c2, hf⟩ := ite_some hf
  refine zif c2 ?_
  exact z_X8_init_1400 HK1456 bv0 (RR_sr Z bs0 (j := 39) (by decide) bs1) hf
set_option maxRecDepth 100000 in
theorem z_X8_init_1392 {L B : Nat} {g0 : Hp} {Ψ : Hp → Option Hp → Prop} {n : Nat} {K1456 Q1456 : Nat → Hp → Option Hp} (HK1456 : ∀ (v0 : Nat), B ≤ v0 → ∀ (h g o : Hp), RRL L B g0 h g → Q1456 v0 h = some o → Ψ o (K1456 v0 g)) {v0 : Nat} (bv0 : B ≤ v0) {h g o : Hp} (Z : RRL L B g0 h g) (hf : f_X8_init_1392 n Q1456 v0 h = some o) : Ψ o (f_X8_init_1392 n K1456 v0 g) := by
  unfold f_X8_init_1392 at hf ⊢
  rw [RR_len Z]
  exact z_X8_init_1397 HK1456 bv0 bv0 Z.2.1 (RR_new Z (q := (9, ix 12)) (by decide) (by decide)) hf
set_option maxRecDepth 100000 in
theorem z_X8_init_1389 {L B : Nat} {g0 : Hp} {Ψ : Hp → Option Hp → Prop} {n : Nat} {K1456 Q1456 : Nat → Hp → Option Hp} (HK1456 : ∀ (v0 : Nat), B ≤ v0 → ∀ (h g o : Hp), RRL L B g0 h g → Q1456 v0 h = some o → Ψ o (K1456 v0 g)) {v0 : Nat} {s0 : Nat} {s1 : Nat} (bv0 : B ≤ v0) (bs0 : B ≤ s0) (bs1 : B ≤ s1) {h g o : Hp} (Z : RRL L B g0 h g) (hf : f_X8_init_1389 n Q1456 v0 s0 s1 h = some o) : Ψ o (f_X8_init_1389 n K1456 v0 s0 s1 g) := by
  unfold f_X8_init_1389 at hf ⊢
  obtain ⟨c1, hf⟩ := ite_some hf
  refine zif (z_okO Z (by decide) c1) ?_
  obtain ⟨c2, hf⟩ := ite_some hf
  refine zif c2 ?_
  exact z_X8_init_1392 HK1456 bv0 (RR_sr Z bs0 (j := 38) (by decide) bs1) hf
set_option maxRecDepth 100000 in
theorem z_X8_init_1384 {L B : Nat} {g0 : Hp} {Ψ : Hp → Option Hp → Prop} {n : Nat} {K1456 Q1456 : Nat → Hp → Option Hp} (HK1456 : ∀ (v0 : Nat), B ≤ v0 → ∀ (h g o : Hp), RRL L B g0 h g → Q1456 v0 h = some o → Ψ o (K1456 v0 g)) {v0 : Nat} (bv0 : B ≤ v0) {h g o : Hp} (Z : RRL L B g0 h g) (hf : f_X8_init_1384 n Q1456 v0 h = some o) : Ψ o (f_X8_init_1384 n K1456 v0 g) := by
  unfold f_X8_init_1384 at hf ⊢
  rw [RR_len Z]
  exact z_X8_init_1389 HK1456 bv0 bv0 Z.2.1 (RR_new Z (q := (9, ix 12)) (by decide) (by decide)) hf
set_option maxRecDepth 100000 in
theorem z_X8_init_1381 {L B : Nat} {g0 : Hp} {Ψ : Hp → Option Hp → Prop} {n : Nat} {K1456 Q1456 : Nat → Hp → Option Hp} (HK1456 : ∀ (v0 : Nat), B ≤ v0 → ∀ (h g o : Hp), RRL L B g0 h g → Q1456 v0 h = some o → Ψ o (K1456 v0 g)) {v0 : Nat} {s0 : Nat} {s1 : Nat} (bv0 : B ≤ v0) (bs0 : B ≤ s0) (bs1 : B ≤ s1) {h g o : Hp} (Z : RRL L B g0 h g) (hf : f_X8_init_1381 n Q1456 v0 s0 s1 h = some o) : Ψ o (f_X8_init_1381 n K1456 v0 s0 s1 g) := by
  unfold f_X8_init_1381 at hf ⊢
  obtain ⟨c1, hf⟩ := ite_some hf
  refine zif (z_okO Z (by decide) c1) ?_
  obtain ⟨c2, hf⟩ := ite_some hf
  refine zif c2 ?_
  exact z_X8_init_1384 HK1456 bv0 (RR_sr Z bs0 (j := 37) (by decide) bs1) hf
set_option maxRecDepth 100000 in
theorem z_X8_init_1376 {L B : Nat} {g0 : Hp} {Ψ : Hp → Option Hp → Prop} {n : Nat} {K1456 Q1456 : Nat → Hp → Option Hp} (HK1456 : ∀ (v0 : Nat), B ≤ v0 → ∀ (h g o : Hp), RRL L B g0 h g → Q1456 v0 h = some o → Ψ o (K1456 v0 g)) {v0 : Nat} (bv0 : B ≤ v0) {h g o : Hp} (Z : RRL L B g0 h g) (hf : f_X8_init_1376 n Q1456 v0 h = some o) : Ψ o (f_X8_init_1376 n K1456 v0 g) := by
  unfold f_X8_init_1376 at hf ⊢
  rw [RR_len Z]
  exact z_X8_init_1381 HK1456 bv0 bv0 Z.2.1 (RR_new Z (q := (9, ix 12)) (by decide) (by decide)) hf
set_option maxRecDepth 100000 in
theorem z_X8_init_1373 {L B : Nat} {g0 : Hp} {Ψ : Hp → Option Hp → Prop} {n : Nat} {K1456 Q1456 : Nat → Hp → Option Hp} (HK1456 : ∀ (v0 : Nat), B ≤ v0 → ∀ (h g o : Hp), RRL L B g0 h g → Q1456 v0 h = some o → Ψ o (K1456 v0 g)) {v0 : Nat} {s0 : Nat} {s1 : Nat} (bv0 : B ≤ v0) (bs0 : B ≤ s0) (bs1 : B ≤ s1) {h g o : Hp} (Z : RRL L B g0 h g) (hf : f_X8_init_1373 n Q1456 v0 s0 s1 h = some o) : Ψ o (f_X8_init_1373 n K1456 v0 s0 s1 g) := by
  unfold f_X8_init_1373 at hf ⊢
  obtain ⟨c1, hf⟩ := ite_some hf
  refine zif (z_okO Z (by decide) c1) ?_
  obtain ⟨c2, hf⟩ := ite_some hf
  refine zif c2 ?_
  exact z_X8_init_1376 HK1456 bv0 (RR_sr Z bs0 (j := 36) (by decide) bs1) hf
set_option maxRecDepth 100000 in
theorem z_X8_init_1368 {L B : Nat} {g0 : Hp} {Ψ : Hp → Option Hp → Prop} {n : Nat} {K1456 Q1456 : Nat → Hp → Option Hp} (HK1456 : ∀ (v0 : Nat), B ≤ v0 → ∀ (h g o : Hp), RRL L B g0 h g → Q1456 v0 h = some o → Ψ o (K1456 v0 g)) {v0 : Nat} (bv0 : B ≤ v0) {h g o : Hp} (Z : RRL L B g0 h g) (hf : f_X8_init_1368 n Q1456 v0 h = some o) : Ψ o (f_X8_init_1368 n K1456 v0 g) := by
  unfold f_X8_init_1368 at hf ⊢
  rw [RR_len Z]
  exact z_X8_init_1373 HK1456 bv0 bv0 Z.2.1 (RR_new Z (q := (9, ix 6)) (by decide) (by decide)) hf
set_option maxRecDepth 100000 in
theorem z_X8_init_1365 {L B : Nat} {g0 : Hp} {Ψ : Hp → Option Hp → Prop} {n : Nat} {K1456 Q1456 : Nat → Hp → Option Hp} (HK1456 : ∀ (v0 : Nat), B ≤ v0 → ∀ (h g o : Hp), RRL L B g0 h g → Q1456 v0 h = some o → Ψ o (K1456 v0 g)) {v0 : Nat} {s0 : Nat} {s1 : Nat} (bv0 : B ≤ v0) (bs0 : B ≤ s0) (bs1 : B ≤ s1) {h g o : Hp} (Z : RRL L B g0 h g) (hf : f_X8_init_1365 n Q1456 v0 s0 s1 h = some o) : Ψ o (f_X8_init_1365 n K1456 v0 s0 s1 g) := by
  unfold f_X8_init_1365 at hf ⊢
  obtain ⟨c1, hf⟩ := ite_some hf
  refine zif (z_okO Z (by decide) c1) ?_
  obtain ⟨c2, hf⟩ := ite_some hf
  refine zif c2 ?_
  exact z_X8_init_1368 HK1456 bv0 (RR_sr Z bs0 (j := 35) (by decide) bs1) hf
set_option maxRecDepth 100000 in
theorem z_X8_init_1359 {L B : Nat} {g0 : Hp} {Ψ : Hp → Option Hp → Prop} {n : Nat} {K1456 Q1456 : Nat → Hp → Option Hp} (HK1456 : ∀ (v0 : Nat), B ≤ v0 → ∀ (h g o : Hp), RRL L B g0 h g → Q1456 v0 h = some o → Ψ o (K1456 v0 g)) {v0 : Nat} (bv0 : B ≤ v0) {h g o : Hp} (Z : RRL L B g0 h g) (hf : f_X8_init_1359 n Q1456 v0 h = some o) : Ψ o (f_X8_init_1359 n K1456 v0 g) := by
  unfold f_X8_init_1359 at hf ⊢
  rw [RR_len Z]
  exact z_X8_init_1365 HK1456 bv0 bv0 Z.2.1 (RR_new Z (q := (9, ix 200)) (by decide) (by decide)) hf
set_option maxRecDepth 100000 in
theorem z_X8_init_1356 {L B : Nat} {g0 : Hp} {Ψ : Hp → Option Hp → Prop} {n : Nat} {K1456 Q1456 : Nat → Hp → Option Hp} (HK1456 : ∀ (v0 : Nat), B ≤ v0 → ∀ (h g o : Hp), RRL L B g0 h g → Q1456 v0 h = some o → Ψ o (K1456 v0 g)) {v0 : Nat} {s0 : Nat} {s1 : Nat} (bv0 : B ≤ v0) (bs0 : B ≤ s0) (bs1 : B ≤ s1) {h g o : Hp} (Z : RRL L B g0 h g) (hf : f_X8_init_1356 n Q1456 v0 s0 s1 h = some o) : Ψ o (f_X8_init_1356 n K1456 v0 s0 s1 g) := by
  unfold f_X8_init_1356 at hf ⊢
  obtain ⟨c1, hf⟩ := ite_some hf
  refine zif (z_okO Z (by decide) c1) ?_
  obtain ⟨c2, hf⟩ := ite_some hf
  refine zif c2 ?_
  exact z_X8_init_1359 HK1456 bv0 (RR_sr Z bs0 (j := 31) (by decide) bs1) hf
set_option maxRecDepth 100000 in
theorem z_X8_init_1350 {L B : Nat} {g0 : Hp} {Ψ : Hp → Option Hp → Prop} {n : Nat} {K1456 Q1456 : Nat → Hp → Option Hp} (HK1456 : ∀ (v0 : Nat), B ≤ v0 → ∀ (h g o : Hp), RRL L B g0 h g → Q1456 v0 h = some o → Ψ o (K1456 v0 g)) {v0 : Nat} (bv0 : B ≤ v0) {h g o : Hp} (Z : RRL L B g0 h g) (hf : f_X8_init_1350 n Q1456 v0 h = some o) : Ψ o (f_X8_init_1350 n K1456 v0 g) := by
  unfold f_X8_init_1350 at hf ⊢
  rw [RR_len Z]
  exact z_X8_init_1356 HK1456 bv0 bv0 Z.2.1 (RR_new Z (q := (9, ix 200)) (by decide) (by decide)) hf
set_option maxRecDepth 100000 in
theorem z_X8_init_1347 {L B : Nat} {g0 : Hp} {Ψ : Hp → Option Hp → Prop} {n : Nat} {K1456 Q1456 : Nat → Hp → Option Hp} (HK1456 : ∀ (v0 : Nat), B ≤ v0 → ∀ (h g o : Hp), RRL L B g0 h g → Q1456 v0 h = some o → Ψ o (K1456 v0 g)) {v0 : Nat} {s0 : Nat} {s1 : Nat} (bv0 : B ≤ v0) (bs0 : B ≤ s0) (bs1 : B ≤ s1) {h g o : Hp} (Z : RRL L B g0 h g) (hf : f_X8_init_1347 n Q1456 v0 s0 s1 h = some o) : Ψ o (f_X8_init_1347 n K1456 v0 s0 s1 g) := by
  unfold f_X8_init_1347 at hf ⊢
  obtain ⟨c1, hf⟩ := ite_some hf
  refine zif (z_okO Z (by decide) c1) ?_
  obtain ⟨c2, hf⟩ := ite_some hf
  refine zif c2 ?_
  exact z_X8_init_1350 HK1456 bv0 (RR_sr Z bs0 (j := 30) (by decide) bs1) hf
set_option maxRecDepth 100000 in
theorem z_X8_init_1341 {L B : Nat} {g0 : Hp} {Ψ : Hp → Option Hp → Prop} {n : Nat} {K1456 Q1456 : Nat → Hp → Option Hp} (HK1456 : ∀ (v0 : Nat), B ≤ v0 → ∀ (h g o : Hp), RRL L B g0 h g → Q1456 v0 h = some o → Ψ o (K1456 v0 g)) {v0 : Nat} {s0 : Nat} {s1 : Nat} (bv0 : B ≤ v0) (bs0 : B ≤ s0) (bs1 : B ≤ s1) {h g o : Hp} (Z : RRL L B g0 h g) (hf : f_X8_init_1341 n Q1456 v0 s0 s1 h = some o) : Ψ o (f_X8_init_1341 n K1456 v0 s0 s1 g) := by
  unfold f_X8_init_1341 at hf ⊢
  obtain ⟨c1, hf⟩ := ite_some hf
  refine zif (z_okI Z c1) ?_
  exact z_X8_init_1347 HK1456 bv0 bs0 bs1 (RR_si Z bs1 (ix 95) 32) hf
set_option maxRecDepth 100000 in
theorem z_X8_init_1335 {L B : Nat} {g0 : Hp} {Ψ : Hp → Option Hp → Prop} {n : Nat} {K1456 Q1456 : Nat → Hp → Option Hp} (HK1456 : ∀ (v0 : Nat), B ≤ v0 → ∀ (h g o : Hp), RRL L B g0 h g → Q1456 v0 h = some o → Ψ o (K1456 v0 g)) {v0 : Nat} {s0 : Nat} {s1 : Nat} (bv0 : B ≤ v0) (bs0 : B ≤ s0) (bs1 : B ≤ s1) {h g o : Hp} (Z : RRL L B g0 h g) (hf : f_X8_init_1335 n Q1456 v0 s0 s1 h = some o) : Ψ o (f_X8_init_1335 n K1456 v0 s0 s1 g) := by
  unfold f_X8_init_1335 at hf ⊢
  obtain ⟨c1, hf⟩ := ite_some hf
  refine zif (z_okI Z c1) ?_
  exact z_X8_init_1341 HK1456 bv0 bs0 bs1 (RR_si Z bs1 (ix 94) 32) hf
set_option maxRecDepth 100000 in
theorem z_X8_init_1329 {L B : Nat} {g0 : Hp} {Ψ : Hp → Option Hp → Prop} {n : Nat} {K1456 Q1456 : Nat → Hp → Option Hp} (HK1456 : ∀ (v0 : Nat), B ≤ v0 → ∀ (h g o : Hp), RRL L B g0 h g → Q1456 v0 h = some o → Ψ o (K1456 v0 g)) {v0 : Nat} {s0 : Nat} {s1 : Nat} (bv0 : B ≤ v0) (bs0 : B ≤ s0) (bs1 : B ≤ s1) {h g o : Hp} (Z : RRL L B g0 h g) (hf : f_X8_init_1329 n Q1456 v0 s0 s1 h = some o) : Ψ o (f_X8_init_1329 n K1456 v0 s0 s1 g) := by
  unfold f_X8_init_1329 at hf ⊢
  obtain ⟨c1, hf⟩ := ite_some hf
  refine zif (z_okI Z c1) ?_
  exact z_X8_init_1335 HK1456 bv0 bs0 bs1 (RR_si Z bs1 (ix 93) 32) hf
set_option maxRecDepth 100000 in
theorem z_X8_init_1323 {L B : Nat} {g0 : Hp} {Ψ : Hp → Option Hp → Prop} {n : Nat} {K1456 Q1456 : Nat → Hp → Option Hp} (HK1456 : ∀ (v0 : Nat), B ≤ v0 → ∀ (h g o : Hp), RRL L B g0 h g → Q1456 v0 h = some o → Ψ o (K1456 v0 g)) {v0 : Nat} {s0 : Nat} {s1 : Nat} (bv0 : B ≤ v0) (bs0 : B ≤ s0) (bs1 : B ≤ s1) {h g o : Hp} (Z : RRL L B g0 h g) (hf : f_X8_init_1323 n Q1456 v0 s0 s1 h = some o) : Ψ o (f_X8_init_1323 n K1456 v0 s0 s1 g) := by
  unfold f_X8_init_1323 at hf ⊢
  obtain ⟨c1, hf⟩ := ite_some hf
  refine zif (z_okI Z c1) ?_
  exact z_X8_init_1329 HK1456 bv0 bs0 bs1 (RR_si Z bs1 (ix 92) 32) hf
set_option maxRecDepth 100000 in
theorem z_X8_init_1317 {L B : Nat} {g0 : Hp} {Ψ : Hp → Option Hp → Prop} {n : Nat} {K1456 Q1456 : Nat → Hp → Option Hp} (HK1456 : ∀ (v0 : Nat), B ≤ v0 → ∀ (h g o : Hp), RRL L B g0 h g → Q1456 v0 h = some o → Ψ o (K1456 v0 g)) {v0 : Nat} {s0 : Nat} {s1 : Nat} (bv0 : B ≤ v0) (bs0 : B ≤ s0) (bs1 : B ≤ s1) {h g o : Hp} (Z : RRL L B g0 h g) (hf : f_X8_init_1317 n Q1456 v0 s0 s1 h = some o) : Ψ o (f_X8_init_1317 n K1456 v0 s0 s1 g) := by
  unfold f_X8_init_1317 at hf ⊢
  obtain ⟨c1, hf⟩ := ite_some hf
  refine zif (z_okI Z c1) ?_
  exact z_X8_init_1323 HK1456 bv0 bs0 bs1 (RR_si Z bs1 (ix 91) 32) hf
set_option maxRecDepth 100000 in
theorem z_X8_init_1311 {L B : Nat} {g0 : Hp} {Ψ : Hp → Option Hp → Prop} {n : Nat} {K1456 Q1456 : Nat → Hp → Option Hp} (HK1456 : ∀ (v0 : Nat), B ≤ v0 → ∀ (h g o : Hp), RRL L B g0 h g → Q1456 v0 h = some o → Ψ o (K1456 v0 g)) {v0 : Nat} {s0 : Nat} {s1 : Nat} (bv0 : B ≤ v0) (bs0 : B ≤ s0) (bs1 : B ≤ s1) {h g o : Hp} (Z : RRL L B g0 h g) (hf : f_X8_init_1311 n Q1456 v0 s0 s1 h = some o) : Ψ o (f_X8_init_1311 n K1456 v0 s0 s1 g) := by
  unfold f_X8_init_1311 at hf ⊢
  obtain ⟨c1, hf⟩ := ite_some hf
  refine zif (z_okI Z c1) ?_
  exact z_X8_init_1317 HK1456 bv0 bs0 bs1 (RR_si Z bs1 (ix 90) 116) hf
set_option maxRecDepth 100000 in
theorem z_X8_init_1305 {L B : Nat} {g0 : Hp} {Ψ : Hp → Option Hp → Prop} {n : Nat} {K1456 Q1456 : Nat → Hp → Option Hp} (HK1456 : ∀ (v0 : Nat), B ≤ v0 → ∀ (h g o : Hp), RRL L B g0 h g → Q1456 v0 h = some o → Ψ o (K1456 v0 g)) {v0 : Nat} {s0 : Nat} {s1 : Nat} (bv0 : B ≤ v0) (bs0 : B ≤ s0) (bs1 : B ≤ s1) {h g o : Hp} (Z : RRL L B g0 h g) (hf : f_X8_init_1305 n Q1456 v0 s0 s1 h = some o) : Ψ o (f_X8_init_1305 n K1456 v0 s0 s1 g) := by
  unfold f_X8_init_1305 at hf ⊢
  obtain ⟨c1, hf⟩ := ite_some hf
  refine zif (z_okI Z c1) ?_
  exact z_X8_init_1311 HK1456 bv0 bs0 bs1 (RR_si Z bs1 (ix 89) 111) hf
set_option maxRecDepth 100000 in
theorem z_X8_init_1299 {L B : Nat} {g0 : Hp} {Ψ : Hp → Option Hp → Prop} {n : Nat} {K1456 Q1456 : Nat → Hp → Option Hp} (HK1456 : ∀ (v0 : Nat), B ≤ v0 → ∀ (h g o : Hp), RRL L B g0 h g → Q1456 v0 h = some o → Ψ o (K1456 v0 g)) {v0 : Nat} {s0 : Nat} {s1 : Nat} (bv0 : B ≤ v0) (bs0 : B ≤ s0) (bs1 : B ≤ s1) {h g o : Hp} (Z : RRL L B g0 h g) (hf : f_X8_init_1299 n Q1456 v0 s0 s1 h = some o) : Ψ o (f_X8_init_1299 n K1456 v0 s0 s1 g) := by
  unfold f_X8_init_1299 at hf ⊢
  obtain ⟨c1, hf⟩ := ite_some hf
  refine zif (z_okI Z c1) ?_
  exact z_X8_init_1305 HK1456 bv0 bs0 bs1 (RR_si Z bs1 (ix 88) 110) hf
set_option maxRecDepth 100000 in
theorem z_X8_init_1293 {L B : Nat} {g0 : Hp} {Ψ : Hp → Option Hp → Prop} {n : Nat} {K1456 Q1456 : Nat → Hp → Option Hp} (HK1456 : ∀ (v0 : Nat), B ≤ v0 → ∀ (h g o : Hp), RRL L B g0 h g → Q1456 v0 h = some o → Ψ o (K1456 v0 g)) {v0 : Nat} {s0 : Nat} {s1 : Nat} (bv0 : B ≤ v0) (bs0 : B ≤ s0) (bs1 : B ≤ s1) {h g o : Hp} (Z : RRL L B g0 h g) (hf : f_X8_init_1293 n Q1456 v0 s0 s1 h = some o) : Ψ o (f_X8_init_1293 n K1456 v0 s0 s1 g) := by
  unfold f_X8_init_1293 at hf ⊢
  obtain ⟨c1, hf⟩ := ite_some hf
  refine zif (z_okI Z c1) ?_
  exact z_X8_init_1299 HK1456 bv0 bs0 bs1 (RR_si Z bs1 (ix 87) 32) hf
set_option maxRecDepth 100000 in
theorem z_X8_init_1287 {L B : Nat} {g0 : Hp} {Ψ : Hp → Option Hp → Prop} {n : Nat} {K1456 Q1456 : Nat → Hp → Option Hp} (HK1456 : ∀ (v0 : Nat), B ≤ v0 → ∀ (h g o : Hp), RRL L B g0 h g → Q1456 v0 h = some o → Ψ o (K1456 v0 g)) {v0 : Nat} {s0 : Nat} {s1 : Nat} (bv0 : B ≤ v0) (bs0 : B ≤ s0) (bs1 : B ≤ s1) {h g o : Hp} (Z : RRL L B g0 h g) (hf : f_X8_init_1287 n Q1456 v0 s0 s1 h = some o) : Ψ o (f_X8_init_1287 n K1456 v0 s0 s1 g) := by
  unfold f_X8_init_1287 at hf ⊢
  obtain ⟨c1, hf⟩ := ite_some hf
  refine zif (z_okI Z c1) ?_
  exact z_X8_init_1293 HK1456 bv0 bs0 bs1 (RR_si Z bs1 (ix 86) 32) hf
set_option maxRecDepth 100000 in
theorem z_X8_init_1281 {L B : Nat} {g0 : Hp} {Ψ : Hp → Option Hp → Prop} {n : Nat} {K1456 Q1456 : Nat → Hp → Option Hp} (HK1456 : ∀ (v0 : Nat), B ≤ v0 → ∀ (h g o : Hp), RRL L B g0 h g → Q1456 v0 h = some o → Ψ o (K1456 v0 g)) {v0 : Nat} {s0 : Nat} {s1 : Nat} (bv0 : B ≤ v0) (bs0 : B ≤ s0) (bs1 : B ≤ s1) {h g o : Hp} (Z : RRL L B g0 h g) (hf : f_X8_init_1281 n Q1456 v0 s0 s1 h = some o) : Ψ o (f_X8_init_1281 n K1456 v0 s0 s1 g) := by
  unfold f_X8_init_1281 at hf ⊢
  obtain ⟨c1, hf⟩ := ite_some hf
  refine zif (z_okI Z c1) ?_
  exact z_X8_init_1287 HK1456 bv0 bs0 bs1 (RR_si Z bs1 (ix 85) 32) hf
set_option maxRecDepth 100000 in
theorem z_X8_init_1275 {L B : Nat} {g0 : Hp} {Ψ : Hp → Option Hp → Prop} {n : Nat} {K1456 Q1456 : Nat → Hp → Option Hp} (HK1456 : ∀ (v0 : Nat), B ≤ v0 → ∀ (h g o : Hp), RRL L B g0 h g → Q1456 v0 h = some o → Ψ o (K1456 v0 g)) {v0 : Nat} {s0 : Nat} {s1 : Nat} (bv0 : B ≤ v0) (bs0 : B ≤ s0) (bs1 : B ≤ s1) {h g o : Hp} (Z : RRL L B g0 h g) (hf : f_X8_init_1275 n Q1456 v0 s0 s1 h = some o) : Ψ o (f_X8_init_1275 n K1456 v0 s0 s1 g) := by
  unfold f_X8_init_1275 at hf ⊢
  obtain ⟨c1, hf⟩ := ite_some hf
  refine zif (z_okI Z c1) ?_
  exact z_X8_init_1281 HK1456 bv0 bs0 bs1 (RR_si Z bs1 (ix 84) 32) hf
set_option maxRecDepth 100000 in
theorem z_X8_init_1269 {L B : Nat} {g0 : Hp} {Ψ : Hp → Option Hp → Prop} {n : Nat} {K1456 Q1456 : Nat → Hp → Option Hp} (HK1456 : ∀ (v0 : Nat), B ≤ v0 → ∀ (h g o : Hp), RRL L B g0 h g → Q1456 v0 h = some o → Ψ o (K1456 v0 g)) {v0 : Nat} {s0 : Nat} {s1 : Nat} (bv0 : B ≤ v0) (bs0 : B ≤ s0) (bs1 : B ≤ s1) {h g o : Hp} (Z : RRL L B g0 h g) (hf : f_X8_init_1269 n Q1456 v0 s0 s1 h = some o) : Ψ o (f_X8_init_1269 n K1456 v0 s0 s1 g) := by
  unfold f_X8_init_1269 at hf ⊢
  obtain ⟨c1, hf⟩ := ite_some hf
  refine zif (z_okI Z c1) ?_
  exact z_X8_init_1275 HK1456 bv0 bs0 bs1 (RR_si Z bs1 (ix 83) 32) hf
set_option maxRecDepth 100000 in
theorem z_X8_init_1263 {L B : Nat} {g0 : Hp} {Ψ : Hp → Option Hp → Prop} {n : Nat} {K1456 Q1456 : Nat → Hp → Option Hp} (HK1456 : ∀ (v0 : Nat), B ≤ v0 → ∀ (h g o : Hp), RRL L B g0 h g → Q1456 v0 h = some o → Ψ o (K1456 v0 g)) {v0 : Nat} {s0 : Nat} {s1 : Nat} (bv0 : B ≤ v0) (bs0 : B ≤ s0) (bs1 : B ≤ s1) {h g o : Hp} (Z : RRL L B g0 h g) (hf : f_X8_init_1263 n Q1456 v0 s0 s1 h = some o) : Ψ o (f_X8_init_1263 n K1456 v0 s0 s1 g) := by
  unfold f_X8_init_1263 at hf ⊢
  obtain ⟨c1, hf⟩ := ite_some hf
  refine zif (z_okI Z c1) ?_
  exact z_X8_init_1269 HK1456 bv0 bs0 bs1 (RR_si Z bs1 (ix 82) 100) hf
set_option maxRecDepth 100000 in
theorem z_X8_init_1257 {L B : Nat} {g0 : Hp} {Ψ : Hp → Option Hp → Prop} {n : Nat} {K1456 Q1456 : Nat → Hp → Option Hp} (HK1456 : ∀ (v0 : Nat), B ≤ v0 → ∀ (h g o : Hp), RRL L B g0 h g → Q1456 v0 h = some o → Ψ o (K1456 v0 g)) {v0 : Nat} {s0 : Nat} {s1 : Nat} (bv0 : B ≤ v0) (bs0 : B ≤ s0) (bs1 : B ≤ s1) {h g o : Hp} (Z : RRL L B g0 h g) (hf : f_X8_init_1257 n Q1456 v0 s0 s1 h = some o) : Ψ o (f_X8_init_1257 n K1456 v0 s0 s1 g) := by
  unfold f_X8_init_1257 at hf ⊢
  obtain ⟨c1, hf⟩ := ite_some hf
  refine zif (z_okI Z c1) ?_
  exact z_X8_init_1263 HK1456 bv0 bs0 bs1 (RR_si Z bs1 (ix 81) 110) hf
set_option maxRecDepth 100000 in
theorem z_X8_init_1251 {L B : Nat} {g0 : Hp} {Ψ : Hp → Option Hp → Prop} {n : Nat} {K1456 Q1456 : Nat → Hp → Option Hp} (HK1456 : ∀ (v0 : Nat), B ≤ v0 → ∀ (h g o : Hp), RRL L B g0 h g → Q1456 v0 h = some o → Ψ o (K1456 v0 g)) {v0 : Nat} {s0 : Nat} {s1 : Nat} (bv0 : B ≤ v0) (bs0 : B ≤ s0) (bs1 : B ≤ s1) {h g o : Hp} (Z : RRL L B g0 h g) (hf : f_X8_init_1251 n Q1456 v0 s0 s1 h = some o) : Ψ o (f_X8_init_1251 n K1456 v0 s0 s1 g) := by
  unfold f_X8_init_1251 at hf ⊢
  obtain ⟨c1, hf⟩ := ite_some hf
  refine zif (z_okI Z c1) ?_
  exact z_X8_init_1257 HK1456 bv0 bs0 bs1 (RR_si Z bs1 (ix 80) 97) hf
set_option maxRecDepth 100000 in
theorem z_X8_init_1245 {L B : Nat} {g0 : Hp} {Ψ : Hp → Option Hp → Prop} {n : Nat} {K1456 Q1456 : Nat → Hp → Option Hp} (HK1456 : ∀ (v0 : Nat), B ≤ v0 → ∀ (h g o : Hp), RRL L B g0 h g → Q1456 v0 h = some o → Ψ o (K1456 v0 g)) {v0 : Nat} {s0 : Nat} {s1 : Nat} (bv0 : B ≤ v0) (bs0 : B ≤ s0) (bs1 : B ≤ s1) {h g o : Hp} (Z : RRL L B g0 h g) (hf : f_X8_init_1245 n Q1456 v0 s0 s1 h = some o) : Ψ o (f_X8_init_1245 n K1456 v0 s0 s1 g) := by
  unfold f_X8_init_1245 at hf ⊢
  obtain ⟨c1, hf⟩ := ite_some hf
  refine zif (z_okI Z c1) ?_
  exact z_X8_init_1251 HK1456 bv0 bs0 bs1 (RR_si Z bs1 (ix 79) 32) hf
set_option maxRecDepth 100000 in
theorem z_X8_init_1239 {L B : Nat} {g0 : Hp} {Ψ : Hp → Option Hp → Prop} {n : Nat} {K1456 Q1456 : Nat → Hp → Option Hp} (HK1456 : ∀ (v0 : Nat), B ≤ v0 → ∀ (h g o : Hp), RRL L B g0 h g → Q1456 v0 h = some o → Ψ o (K1456 v0 g)) {v0 : Nat} {s0 : Nat} {s1 : Nat} (bv0 : B ≤ v0) (bs0 : B ≤ s0) (bs1 : B ≤ s1) {h g o : Hp} (Z : RRL L B g0 h g) (hf : f_X8_init_1239 n Q1456 v0 s0 s1 h = some o) : Ψ o (f_X8_init_1239 n K1456 v0 s0 s1 g) := by
  unfold f_X8_init_1239 at hf ⊢
  obtain ⟨c1, hf⟩ := ite_some hf
  refine zif (z_okI Z c1) ?_
  exact z_X8_init_1245 HK1456 bv0 bs0 bs1 (RR_si Z bs1 (ix 78) 32) hf
set_option maxRecDepth 100000 in
theorem z_X8_init_1233 {L B : Nat} {g0 : Hp} {Ψ : Hp → Option Hp → Prop} {n : Nat} {K1456 Q1456 : Nat → Hp → Option Hp} (HK1456 : ∀ (v0 : Nat), B ≤ v0 → ∀ (h g o : Hp), RRL L B g0 h g → Q1456 v0 h = some o → Ψ o (K1456 v0 g)) {v0 : Nat} {s0 : Nat} {s1 : Nat} (bv0 : B ≤ v0) (bs0 : B ≤ s0) (bs1 : B ≤ s1) {h g o : Hp} (Z : RRL L B g0 h g) (hf : f_X8_init_1233 n Q1456 v0 s0 s1 h = some o) : Ψ o (f_X8_init_1233 n K1456 v0 s0 s1 g) := by
  unfold f_X8_init_1233 at hf ⊢
  obtain ⟨c1, hf⟩ := ite_some hf
  refine zif (z_okI Z c1) ?_
  exact z_X8_init_1239 HK1456 bv0 bs0 bs1 (RR_si Z bs1 (ix 77) 32) hf
set_option maxRecDepth 100000 in
theorem z_X8_init_1227 {L B : Nat} {g0 : Hp} {Ψ : Hp → Option Hp → Prop} {n : Nat} {K1456 Q1456 : Nat → Hp → Option Hp} (HK1456 : ∀ (v0 : Nat), B ≤ v0 → ∀ (h g o : Hp), RRL L B g0 h g → Q1456 v0 h = some o → Ψ o (K1456 v0 g)) {v0 : Nat} {s0 : Nat} {s1 : Nat} (bv0 : B ≤ v0) (bs0 : B ≤ s0) (bs1 : B ≤ s1) {h g o : Hp} (Z : RRL L B g0 h g) (hf : f_X8_init_1227 n Q1456 v0 s0 s1 h = some o) : Ψ o (f_X8_init_1227 n K1456 v0 s0 s1 g) := by
  unfold f_X8_init_1227 at hf ⊢
  obtain ⟨c1, hf⟩ := ite_some hf
  refine zif (z_okI Z c1) ?_
  exact z_X8_init_1233 HK1456 bv0 bs0 bs1 (RR_si Z bs1 (ix 76) 32) hf
set_option maxRecDepth 100000 in
theorem z_X8_init_1221 {L B : Nat} {g0 : Hp} {Ψ : Hp → Option Hp → Prop} {n : Nat} {K1456 Q1456 : Nat → Hp → Option Hp} (HK1456 : ∀ (v0 : Nat), B ≤ v0 → ∀ (h g o : Hp), RRL L B g0 h g → Q1456 v0 h = some o → Ψ o (K1456 v0 g)) {v0 : Nat} {s0 : Nat} {s1 : Nat} (bv0 : B ≤ v0) (bs0 : B ≤ s0) (bs1 : B ≤ s1) {h g o : Hp} (Z : RRL L B g0 h g) (hf : f_X8_init_1221 n Q1456 v0 s0 s1 h = some o) : Ψ o (f_X8_init_1221 n K1456 v0 s0 s1 g) := by
  unfold f_X8_init_1221 at hf ⊢
  obtain ⟨c1, hf⟩ := ite_some hf
  refine zif (z_okI Z c1) ?_
  exact z_X8_init_1227 HK1456 bv0 bs0 bs1 (RR_si Z bs1 (ix 75) 32) hf
set_option maxRecDepth 100000 in
theorem z_X8_init_1215 {L B : Nat} {g0 : Hp} {Ψ : Hp → Option Hp → Prop} {n : Nat} {K1456 Q1456 : Nat → Hp → Option Hp} (HK1456 : ∀ (v0 : Nat), B ≤ v0 → ∀ (h g o : Hp), RRL L B g0 h g → Q1456 v0 h = some o → Ψ o (K1456 v0 g)) {v0 : Nat} {s0 : Nat} {s1 : Nat} (bv0 : B ≤ v0) (bs0 : B ≤ s0) (bs1 : B ≤ s1) {h g o : Hp} (Z : RRL L B g0 h g) (hf : f_X8_init_1215 n Q1456 v0 s0 s1 h = some o) : Ψ o (f_X8_init_1215 n K1456 v0 s0 s1 g) := by
  unfold f_X8_init_1215 at hf ⊢
  obtain ⟨c1, hf⟩ := ite_some hf
  refine zif (z_okI Z c1) ?_
  exact z_X8_init_1221 HK1456 bv0 bs0 bs1 (RR_si Z bs1 (ix 74) 32) hf
set_option maxRecDepth 100000 in
theorem z_X8_init_1209 {L B : Nat} {g0 : Hp} {Ψ : Hp → Option Hp → Prop} {n : Nat} {K1456 Q1456 : Nat → Hp → Option Hp} (HK1456 : ∀ (v0 : Nat), B ≤ v0 → ∀ (h g o : Hp), RRL L B g0 h g → Q1456 v0 h = some o → Ψ o (K1456 v0 g)) {v0 : Nat} {s0 : Nat} {s1 : Nat} (bv0 : B ≤ v0) (bs0 : B ≤ s0) (bs1 : B ≤ s1) {h g o : Hp} (Z : RRL L B g0 h g) (hf : f_X8_init_1209 n Q1456 v0 s0 s1 h = some o) : Ψ o (f_X8_init_1209 n K1456 v0 s0 s1 g) := by
  unfold f_X8_init_1209 at hf ⊢
  obtain ⟨c1, hf⟩ := ite_some hf
  refine zif (z_okI Z c1) ?_
  exact z_X8_init_1215 HK1456 bv0 bs0 bs1 (RR_si Z bs1 (ix 73) 114) hf
set_option maxRecDepth 100000 in
theorem z_X8_init_1203 {L B : Nat} {g0 : Hp} {Ψ : Hp → Option Hp → Prop} {n : Nat} {K1456 Q1456 : Nat → Hp → Option Hp} (HK1456 : ∀ (v0 : Nat), B ≤ v0 → ∀ (h g o : Hp), RRL L B g0 h g → Q1456 v0 h = some o → Ψ o (K1456 v0 g)) {v0 : Nat} {s0 : Nat} {s1 : Nat} (bv0 : B ≤ v0) (bs0 : B ≤ s0) (bs1 : B ≤ s1) {h g o : Hp} (Z : RRL L B g0 h g) (hf : f_X8_init_1203 n Q1456 v0 s0 s1 h = some o) : Ψ o (f_X8_init_1203 n K1456 v0 s0 s1 g) := by
  unfold f_X8_init_1203 at hf ⊢
  obtain ⟨c1, hf⟩ := ite_some hf
  refine zif (z_okI Z c1) ?_
  exact z_X8_init_1209 HK1456 bv0 bs0 bs1 (RR_si Z bs1 (ix 72) 111) hf
set_option maxRecDepth 100000 in
theorem z_X8_init_1197 {L B : Nat} {g0 : Hp} {Ψ : Hp → Option Hp → Prop} {n : Nat} {K1456 Q1456 : Nat → Hp → Option Hp} (HK1456 : ∀ (v0 : Nat), B ≤ v0 → ∀ (h g o : Hp), RRL L B g0 h g → Q1456 v0 h = some o → Ψ o (K1456 v0 g)) {v0 : Nat} {s0 : Nat} {s1 : Nat} (bv0 : B ≤ v0) (bs0 : B ≤ s0) (bs1 : B ≤ s1) {h g o : Hp} (Z : RRL L B g0 h g) (hf : f_X8_init_1197 n Q1456 v0 s0 s1 h = some o) : Ψ o (f_X8_init_1197 n K1456 v0 s0 s1 g) := by
  unfold f_X8_init_1197 at hf ⊢
  obtain ⟨c1, hf⟩ := ite_some hf
  refine zif (z_okI Z c1) ?_
  exact z_X8_init_1203 HK1456 bv0 bs0 bs1 (RR_si Z bs1 (ix 71) 32) hf
set_option maxRecDepth 100000 in
theorem z_X8_init_1191 {L B : Nat} {g0 : Hp} {Ψ : Hp → Option Hp → Prop} {n : Nat} {K1456 Q1456 : Nat → Hp → Option Hp} (HK1456 : ∀ (v0 : Nat), B ≤ v0 → ∀ (h g o : Hp), RRL L B g0 h g → Q1456 v0 h = some o → Ψ o (K1456 v0 g)) {v0 : Nat} {s0 : Nat} {s1 : Nat} (bv0 : B ≤ v0) (bs0 : B ≤ s0) (bs1 : B ≤ s1) {h g o : Hp} (Z : RRL L B g0 h g) (hf : f_X8_init_1191 n Q1456 v0 s0 s1 h = some o) : Ψ o (f_X8_init_1191 n K1456 v0 s0 s1 g) := by
  unfold f_X8_init_1191 at hf ⊢
  obtain ⟨c1, hf⟩ := ite_some hf
  refine zif (z_okI Z c1) ?_
  exact z_X8_init_1197 HK1456 bv0 bs0 bs1 (RR_si Z bs1 (ix 70) 32) hf
set_option maxRecDepth 100000 in
theorem z_X8_init_1185 {L B : Nat} {g0 : Hp} {Ψ : Hp → Option Hp → Prop} {n : Nat} {K1456 Q1456 : Nat → Hp → Option Hp} (HK1456 : ∀ (v0 : Nat), B ≤ v0 → ∀ (h g o : Hp), RRL L B g0 h g → Q1456 v0 h = some o → Ψ o (K1456 v0 g)) {v0 : Nat} {s0 : Nat} {s1 : Nat} (bv0 : B ≤ v0) (bs0 : B ≤ s0) (bs1 : B ≤ s1) {h g o : Hp} (Z : RRL L B g0 h g) (hf : f_X8_init_1185 n Q1456 v0 s0 s1 h = some o) : Ψ o (f_X8_init_1185 n K1456 v0 s0 s1 g) := by
  unfold f_X8_init_1185 at hf ⊢
  obtain ⟨c1, hf⟩ := ite_some hf
  refine zif (z_okI Z c1) ?_
  exact z_X8_init_1191 HK1456 bv0 bs0 bs1 (RR_si Z bs1 (ix 69) 32) hf
set_option maxRecDepth 100000 in
theorem z_X8_init_1179 {L B : Nat} {g0 : Hp} {Ψ : Hp → Option Hp → Prop} {n : Nat} {K1456 Q1456 : Nat → Hp → Option Hp} (HK1456 : ∀ (v0 : Nat), B ≤ v0 → ∀ (h g o : Hp), RRL L B g0 h g → Q1456 v0 h = some o → Ψ o (K1456 v0 g)) {v0 : Nat} {s0 : Nat} {s1 : Nat} (bv0 : B ≤ v0) (bs0 : B ≤ s0) (bs1 : B ≤ s1) {h g o : Hp} (Z : RRL L B g0 h g) (hf : f_X8_init_1179 n Q1456 v0 s0 s1 h = some o) : Ψ o (f_X8_init_1179 n K1456 v0 s0 s1 g) := by
  unfold f_X8_init_1179 at hf ⊢
  obtain ⟨c1, hf⟩ := ite_some hf
  refine zif (z_okI Z c1) ?_
  exact z_X8_init_1185 HK1456 bv0 bs0 bs1 (RR_si Z bs1 (ix 68) 32) hf
set_option maxRecDepth 100000 in
theorem z_X8_init_1173 {L B : Nat} {g0 : Hp} {Ψ : Hp → Option Hp → Prop} {n : Nat} {K1456 Q1456 : Nat → Hp → Option Hp} (HK1456 : ∀ (v0 : Nat), B ≤ v0 → ∀ (h g o : Hp), RRL L B g0 h g → Q1456 v0 h = some o → Ψ o (K1456 v0 g)) {v0 : Nat} {s0 : Nat} {s1 : Nat} (bv0 : B ≤ v0) (bs0 : B ≤ s0) (bs1 : B ≤ s1) {h g o : Hp} (Z : RRL L B g0 h g) (hf : f_X8_init_1173 n Q1456 v0 s0 s1 h = some o) : Ψ o (f_X8_init_1173 n K1456 v0 s0 s1 g) := by
  unfold f_X8_init_1173 at hf ⊢
  obtain ⟨c1, hf⟩ := ite_some hf
  refine zif (z_okI Z c1) ?_
  exact z_X8_init_1179 HK1456 bv0 bs0 bs1 (RR_si Z bs1 (ix 67) 116) hf
set_option maxRecDepth 100000 in
theorem z_X8_init_1167 {L B : Nat} {g0 : Hp} {Ψ : Hp → Option Hp → Prop} {n : Nat} {K1456 Q1456 : Nat → Hp → Option Hp} (HK1456 : ∀ (v0 : Nat), B ≤ v0 → ∀ (h g o : Hp), RRL L B g0 h g → Q1456 v0 h = some o → Ψ o (K1456 v0 g)) {v0 : Nat} {s0 : Nat} {s1 : Nat} (bv0 : B ≤ v0) (bs0 : B ≤ s0) (bs1 : B ≤ s1) {h g o : Hp} (Z : RRL L B g0 h g) (hf : f_X8_init_1167 n Q1456 v0 s0 s1 h = some o) : Ψ o (f_X8_init_1167 n K1456 v0 s0 s1 g) := by
  unfold f_X8_init_1167 at hf ⊢
  obtain ⟨c1, hf⟩ := ite_some hf
  refine zif (z_okI Z c1) ?_
  exact z_X8_init_1173 HK1456 bv0 bs0 bs1 (RR_si Z bs1 (ix 66) 115) hf
set_option maxRecDepth 100000 in
theorem z_X8_init_1161 {L B : Nat} {g0 : Hp} {Ψ : Hp → Option Hp → Prop} {n : Nat} {K1456 Q1456 : Nat → Hp → Option Hp} (HK1456 : ∀ (v0 : Nat), B ≤ v0 → ∀ (h g o : Hp), RRL L B g0 h g → Q1456 v0 h = some o → Ψ o (K1456 v0 g)) {v0 : Nat} {s0 : Nat} {s1 : Nat} (bv0 : B ≤ v0) (bs0 : B ≤ s0) (bs1 : B ≤ s1) {h g o : Hp} (Z : RRL L B g0 h g) (hf : f_X8_init_1161 n Q1456 v0 s0 s1 h = some o) : Ψ o (f_X8_init_1161 n K1456 v0 s0 s1 g) := by
  unfold f_X8_init_1161 at hf ⊢
  obtain ⟨c1, hf⟩ := ite_some hf
  refine zif (z_okI Z c1) ?_
  exact z_X8_init_1167 HK1456 bv0 bs0 bs1 (RR_si Z bs1 (ix 65) 117) hf
set_option maxRecDepth 100000 in
theorem z_X8_init_1155 {L B : Nat} {g0 : Hp} {Ψ : Hp → Option Hp → Prop} {n : Nat} {K1456 Q1456 : Nat → Hp → Option Hp} (HK1456 : ∀ (v0 : Nat), B ≤ v0 → ∀ (h g o : Hp), RRL L B g0 h g → Q1456 v0 h = some o → Ψ o (K1456 v0 g)) {v0 : Nat} {s0 : Nat} {s1 : Nat} (bv0 : B ≤ v0) (bs0 : B ≤ s0) (bs1 : B ≤ s1) {h g o : Hp} (Z : RRL L B g0 h g) (hf : f_X8_init_1155 n Q1456 v0 s0 s1 h = some o) : Ψ o (f_X8_init_1155 n K1456 v0 s0 s1 g) := by
  unfold f_X8_init_1155 at hf ⊢
  obtain ⟨c1, hf⟩ := ite_some hf
  refine zif (z_okI Z c1) ?_
  exact z_X8_init_1161 HK1456 bv0 bs0 bs1 (RR_si Z bs1 (ix 64) 100) hf
set_option maxRecDepth 100000 in
theorem z_X8_init_1149 {L B : Nat} {g0 : Hp} {Ψ : Hp → Option Hp → Prop} {n : Nat} {K1456 Q1456 : Nat → Hp → Option Hp} (HK1456 : ∀ (v0 : Nat), B ≤ v0 → ∀ (h g o : Hp), RRL L B g0 h g → Q1456 v0 h = some o → Ψ o (K1456 v0 g)) {v0 : Nat} {s0 : Nat} {s1 : Nat} (bv0 : B ≤ v0) (bs0 : B ≤ s0) (bs1 : B ≤ s1) {h g o : Hp} (Z : RRL L B g0 h g) (hf : f_X8_init_1149 n Q1456 v0 s0 s1 h = some o) : Ψ o (f_X8_init_1149 n K1456 v0 s0 s1 g) := by
  unfold f_X8_init_1149 at hf ⊢
  obtain ⟨c1, hf⟩ := ite_some hf
  refine zif (z_okI Z c1) ?_
  exact z_X8_init_1155 HK1456 bv0 bs0 bs1 (RR_si Z bs1 (ix 63) 32) hf
set_option maxRecDepth 100000 in
theorem z_X8_init_1143 {L B : Nat} {g0 : Hp} {Ψ : Hp → Option Hp → Prop} {n : Nat} {K1456 Q1456 : Nat → Hp → Option Hp} (HK1456 : ∀ (v0 : Nat), B ≤ v0 → ∀ (h g o : Hp), RRL L B g0 h g → Q1456 v0 h = some o → Ψ o (K1456 v0 g)) {v0 : Nat} {s0 : Nat} {s1 : Nat} (bv0 : B ≤ v0) (bs0 : B ≤ s0) (bs1 : B ≤ s1) {h g o : Hp} (Z : RRL L B g0 h g) (hf : f_X8_init_1143 n Q1456 v0 s0 s1 h = some o) : Ψ o (f_X8_init_1143 n K1456 v0 s0 s1 g) := by
  unfold f_X8_init_1143 at hf ⊢
  obtain ⟨c1, hf⟩ := ite_some hf
  refine zif (z_okI Z c1) ?_
  exact z_X8_init_1149 HK1456 bv0 bs0 bs1 (RR_si Z bs1 (ix 62) 32) hf
set_option maxRecDepth 100000 in
theorem z_X8_init_1137 {L B : Nat} {g0 : Hp} {Ψ : Hp → Option Hp → Prop} {n : Nat} {K1456 Q1456 : Nat → Hp → Option Hp} (HK1456 : ∀ (v0 : Nat), B ≤ v0 → ∀ (h g o : Hp), RRL L B g0 h g → Q1456 v0 h = some o → Ψ o (K1456 v0 g)) {v0 : Nat} {s0 : Nat} {s1 : Nat} (bv0 : B ≤ v0) (bs0 : B ≤ s0) (bs1 : B ≤ s1) {h g o : Hp} (Z : RRL L B g0 h g) (hf : f_X8_init_1137 n Q1456 v0 s0 s1 h = some o) : Ψ o (f_X8_init_1137 n K1456 v0 s0 s1 g) := by
  unfold f_X8_init_1137 at hf ⊢
  obtain ⟨c1, hf⟩ := ite_some hf
  refine zif (z_okI Z c1) ?_
  exact z_X8_init_1143 HK1456 bv0 bs0 bs1 (RR_si Z bs1 (ix 61) 32) hf
set_option maxRecDepth 100000 in
theorem z_X8_init_1131 {L B : Nat} {g0 : Hp} {Ψ : Hp → Option Hp → Prop} {n : Nat} {K1456 Q1456 : Nat → Hp → Option Hp} (HK1456 : ∀ (v0 : Nat), B ≤ v0 → ∀ (h g o : Hp), RRL L B g0 h g → Q1456 v0 h = some o → Ψ o (K1456 v0 g)) {v0 : Nat} {s0 : Nat} {s1 : Nat} (bv0 : B ≤ v0) (bs0 : B ≤ s0) (bs1 : B ≤ s1) {h g o : Hp} (Z : RRL L B g0 h g) (hf : f_X8_init_1131 n Q1456 v0 s0 s1 h = some o) : Ψ o (f_X8_init_1131 n K1456 v0 s0 s1 g) := by
  unfold f_X8_init_1131 at hf ⊢
  obtain ⟨c1, hf⟩ := ite_some hf
  refine zif (z_okI Z c1) ?_
  exact z_X8_init_1137 HK1456 bv0 bs0 bs1 (RR_si Z bs1 (ix 60) 115) hf
set_option maxRecDepth 100000 in
theorem z_X8_init_1125 {L B : Nat} {g0 : Hp} {Ψ : Hp → Option Hp → Prop} {n : Nat} {K1456 Q1456 : Nat → Hp → Option Hp} (HK1456 : ∀ (v0 : Nat), B ≤ v0 → ∀ (h g o : Hp), RRL L B g0 h g → Q1456 v0 h = some o → Ψ o (K1456 v0 g)) {v0 : Nat} {s0 : Nat} {s1 : Nat} (bv0 : B ≤ v0) (bs0 : B ≤ s0) (bs1 : B ≤ s1) {h g o : Hp} (Z : RRL L B g0 h g) (hf : f_X8_init_1125 n Q1456 v0 s0 s1 h = some o) : Ψ o (f_X8_init_1125 n K1456 v0 s0 s1 g) := by
  unfold f_X8_init_1125 at hf ⊢
  obtain ⟨c1, hf⟩ := ite_some hf
  refine zif (z_okI Z c1) ?_
  exact z_X8_init_1131 HK1456 bv0 bs0 bs1 (RR_si Z bs1 (ix 59) 100) hf
set_option maxRecDepth 100000 in
theorem z_X8_init_1119 {L B : Nat} {g0 : Hp} {Ψ : Hp → Option Hp → Prop} {n : Nat} {K1456 Q1456 : Nat → Hp → Option Hp} (HK1456 : ∀ (v0 : Nat), B ≤ v0 → ∀ (h g o : Hp), RRL L B g0 h g → Q1456 v0 h = some o → Ψ o (K1456 v0 g)) {v0 : Nat} {s0 : Nat} {s1 : Nat} (bv0 : B ≤ v0) (bs0 : B ≤ s0) (bs1 : B ≤ s1) {h g o : Hp} (Z : RRL L B g0 h g) (hf : f_X8_init_1119 n Q1456 v0 s0 s1 h = some o) : Ψ o (f_X8_init_1119 n K1456 v0 s0 s1 g) := by
  unfold f_X8_init_1119 at hf ⊢
  obtain ⟨c1, hf⟩ := ite_some hf
  refine zif (z_okI Z c1) ?_
  exact z_X8_init_1125 HK1456 bv0 bs0 bs1 (RR_si Z bs1 (ix 58) 108) hf
set_option maxRecDepth 100000 in
theorem z_X8_init_1113 {L B : Nat} {g0 : Hp} {Ψ : Hp → Option Hp → Prop} {n : Nat} {K1456 Q1456 : Nat → Hp → Option Hp} (HK1456 : ∀ (v0 : Nat), B ≤ v0 → ∀ (h g o : Hp), RRL L B g0 h g → Q1456 v0 h = some o → Ψ o (K1456 v0 g)) {v0 : Nat} {s0 : Nat} {s1 : Nat} (bv0 : B ≤ v0) (bs0 : B ≤ s0) (bs1 : B ≤ s1) {h g o : Hp} (Z : RRL L B g0 h g) (hf : f_X8_init_1113 n Q1456 v0 s0 s1 h = some o) : Ψ o (f_X8_init_1113 n K1456 v0 s0 s1 g) := by
  unfold f_X8_init_1113 at hf ⊢
  obtain ⟨c1, hf⟩ := ite_some hf
  refine zif (z_okI Z c1) ?_
  exact z_X8_init_1119 HK1456 bv0 bs0 bs1 (RR_si Z bs1 (ix 57) 111) hf
set_option maxRecDepth 100000 in
theorem z_X8_init_1107 {L B : Nat} {g0 : Hp} {Ψ : Hp → Option Hp → Prop} {n : Nat} {K1456 Q1456 : Nat → Hp → Option Hp} (HK1456 : ∀ (v0 : Nat), B ≤ v0 → ∀ (h g o : Hp), RRL L B g0 h g → Q1456 v0 h = some o → Ψ o (K1456 v0 g)) {v0 : Nat} {s0 : Nat} {s1 : Nat} (bv0 : B ≤ v0) (bs0 : B ≤ s0) (bs1 : B ≤ s1) {h g o : Hp} (Z : RRL L B g0 h g) (hf : f_X8_init_1107 n Q1456 v0 s0 s1 h = some o) : Ψ o (f_X8_init_1107 n K1456 v0 s0 s1 g) := by
  unfold f_X8_init_1107 at hf ⊢
  obtain ⟨c1, hf⟩ := ite_some hf
  refine zif (z_okI Z c1) ?_
  exact z_X8_init_1113 HK1456 bv0 bs0 bs1 (RR_si Z bs1 (ix 56) 102) hf
set_option maxRecDepth 100000 in
theorem z_X8_init_1101 {L B : Nat} {g0 : Hp} {Ψ : Hp → Option Hp → Prop} {n : Nat} {K1456 Q1456 : Nat → Hp → Option Hp} (HK1456 : ∀ (v0 : Nat), B ≤ v0 → ∀ (h g o : Hp), RRL L B g0 h g → Q1456 v0 h = some o → Ψ o (K1456 v0 g)) {v0 : Nat} {s0 : Nat} {s1 : Nat} (bv0 : B ≤ v0) (bs0 : B ≤ s0) (bs1 : B ≤ s1) {h g o : Hp} (Z : RRL L B g0 h g) (hf : f_X8_init_1101 n Q1456 v0 s0 s1 h = some o) : Ψ o (f_X8_init_1101 n K1456 v0 s0 s1 g) := by
  unfold f_X8_init_1101 at hf ⊢
  obtain ⟨c1, hf⟩ := ite_some hf
  refine zif (z_okI Z c1) ?_
  exact z_X8_init_1107 HK1456 bv0 bs0 bs1 (RR_si Z bs1 (ix 55) 32) hf
set_option maxRecDepth 100000 in
theorem z_X8_init_1095 {L B : Nat} {g0 : Hp} {Ψ : Hp → Option Hp → Prop} {n : Nat} {K1456 Q1456 : Nat → Hp → Option Hp} (HK1456 : ∀ (v0 : Nat), B ≤ v0 → ∀ (h g o : Hp), RRL L B g0 h g → Q1456 v0 h = some o → Ψ o (K1456 v0 g)) {v0 : Nat} {s0 : Nat} {s1 : Nat} (bv0 : B ≤ v0) (bs0 : B ≤ s0) (bs1 : B ≤ s1) {h g o : Hp} (Z : RRL L B g0 h g) (hf : f_X8_init_1095 n Q1456 v0 s0 s1 h = some o) : Ψ o (f_X8_init_1095 n K1456 v0 s0 s1 g) := by
  unfold f_X8_init_1095 at hf ⊢
  obtain ⟨c1, hf⟩ := ite_some hf
  refine zif (z_okI Z c1) ?_
  exact z_X8_init_1101 HK1456 bv0 bs0 bs1 (RR_si Z bs1 (ix 54) 32) hf
set_option maxRecDepth 100000 in
theorem z_X8_init_1089 {L B : Nat} {g0 : Hp} {Ψ : Hp → Option Hp → Prop} {n : Nat} {K1456 Q1456 : Nat → Hp → Option Hp} (HK1456 : ∀ (v0 : Nat), B ≤ v0 → ∀ (h g o : Hp), RRL L B g0 h g → Q1456 v0 h = some o → Ψ o (K1456 v0 g)) {v0 : Nat} {s0 : Nat} {s1 : Nat} (bv0 : B ≤ v0) (bs0 : B ≤ s0) (bs1 : B ≤ s1) {h g o : Hp} (Z : RRL L B g0 h g) (hf : f_X8_init_1089 n Q1456 v0 s0 s1 h = some o) : Ψ o (f_X8_init_1089 n K1456 v0 s0 s1 g) := by
  unfold f_X8_init_1089 at hf ⊢
  obtain ⟨c1, hf⟩ := ite_some hf
  refine zif (z_okI Z c1) ?_
  exact z_X8_init_1095 HK1456 bv0 bs0 bs1 (RR_si Z bs1 (ix 53) 32) hf
set_option maxRecDepth 100000 in
theorem z_X8_init_1083 {L B : Nat} {g0 : Hp} {Ψ : Hp → Option Hp → Prop} {n : Nat} {K1456 Q1456 : Nat → Hp → Option Hp} (HK1456 : ∀ (v0 : Nat), B ≤ v0 → ∀ (h g o : Hp), RRL L B g0 h g → Q1456 v0 h = some o → Ψ o (K1456 v0 g)) {v0 : Nat} {s0 : Nat} {s1 : Nat} (bv0 : B ≤ v0) (bs0 : B ≤ s0) (bs1 : B ≤ s1) {h g o : Hp} (Z : RRL L B g0 h g) (hf : f_X8_init_1083 n Q1456 v0 s0 s1 h = some o) : Ψ o (f_X8_init_1083 n K1456 v0 s0 s1 g) := by
  unfold f_X8_init_1083 at hf ⊢
  obtain ⟨c1, hf⟩ := ite_some hf
  refine zif (z_okI Z c1) ?_
  exact z_X8_init_1089 HK1456 bv0 bs0 bs1 (RR_si Z bs1 (ix 52) 32) hf
set_option maxRecDepth 100000 in
theorem z_X8_init_1077 {L B : Nat} {g0 : Hp} {Ψ : Hp → Option Hp → Prop} {n : Nat} {K1456 Q1456 : Nat → Hp → Option Hp} (HK1456 : ∀ (v0 : Nat), B ≤ v0 → ∀ (h g o : Hp), RRL L B g0 h g → Q1456 v0 h = some o → Ψ o (K1456 v0 g)) {v0 : Nat} {s0 : Nat} {s1 : Nat} (bv0 : B ≤ v0) (bs0 : B ≤ s0) (bs1 : B ≤ s1) {h g o : Hp} (Z : RRL L B g0 h g) (hf : f_X8_init_1077 n Q1456 v0 s0 s1 h = some o) : Ψ o (f_X8_init_1077 n K1456 v0 s0 s1 g) := by
  unfold f_X8_init_1077 at hf ⊢
  obtain ⟨c1, hf⟩ := ite_some hf
  refine zif (z_okI Z c1) ?_
  exact z_X8_init_1083 HK1456 bv0 bs0 bs1 (RR_si Z bs1 (ix 51) 101) hf
set_option maxRecDepth 100000 in
theorem z_X8_init_1071 {L B : Nat} {g0 : Hp} {Ψ : Hp → Option Hp → Prop} {n : Nat} {K1456 Q1456 : Nat → Hp → Option Hp} (HK1456 : ∀ (v0 : Nat), B ≤ v0 → ∀ (h g o : Hp), RRL L B g0 h g → Q1456 v0 h = some o → Ψ o (K1456 v0 g)) {v0 : Nat} {s0 : Nat} {s1 : Nat} (bv0 : B ≤ v0) (bs0 : B ≤ s0) (bs1 : B ≤ s1) {h g o : Hp} (Z : RRL L B g0 h g) (hf : f_X8_init_1071 n Q1456 v0 s0 s1 h = some o) : Ψ o (f_X8_init_1071 n K1456 v0 s0 s1 g) := by
  unfold f_X8_init_1071 at hf ⊢
  obtain ⟨c1, hf⟩ := ite_some hf
  refine zif (z_okI Z c1) ?_
  exact z_X8_init_1077 HK1456 bv0 bs0 bs1 (RR_si Z bs1 (ix 50) 99) hf
set_option maxRecDepth 100000 in
theorem z_X8_init_1065 {L B : Nat} {g0 : Hp} {Ψ : Hp → Option Hp → Prop} {n : Nat} {K1456 Q1456 : Nat → Hp → Option Hp} (HK1456 : ∀ (v0 : Nat), B ≤ v0 → ∀ (h g o : Hp), RRL L B g0 h g → Q1456 v0 h = some o → Ψ o (K1456 v0 g)) {v0 : Nat} {s0 : Nat} {s1 : Nat} (bv0 : B ≤ v0) (bs0 : B ≤ s0) (bs1 : B ≤ s1) {h g o : Hp} (Z : RRL L B g0 h g) (hf : f_X8_init_1065 n Q1456 v0 s0 s1 h = some o) : Ψ o (f_X8_init_1065 n K1456 v0 s0 s1 g) := by
  unfold f_X8_init_1065 at hf ⊢
  obtain ⟨c1, hf⟩ := ite_some hf
  refine zif (z_okI Z c1) ?_
  exact z_X8_init_1071 HK1456 bv0 bs0 bs1 (RR_si Z bs1 (ix 49) 97) hf
set_option maxRecDepth 100000 in
theorem z_X8_init_1059 {L B : Nat} {g0 : Hp} {Ψ : Hp → Option Hp → Prop} {n : Nat} {K1456 Q1456 : Nat → Hp → Option Hp} (HK1456 : ∀ (v0 : Nat), B ≤ v0 → ∀ (h g o : Hp), RRL L B g0 h g → Q1456 v0 h = some o → Ψ o (K1456 v0 g)) {v0 : Nat} {s0 : Nat} {s1 : Nat} (bv0 : B ≤ v0) (bs0 : B ≤ s0) (bs1 : B ≤ s1) {h g o : Hp} (Z : RRL L B g0 h g) (hf : f_X8_init_1059 n Q1456 v0 s0 s1 h = some o) : Ψ o (f_X8_init_1059 n K1456 v0 s0 s1 g) := by
  unfold f_X8_init_1059 at hf ⊢
  obtain ⟨c1, hf⟩ := ite_some hf
  refine zif (z_okI Z c1) ?_
  exact z_X8_init_1065 HK1456 bv0 bs0 bs1 (RR_si Z bs1 (ix 48) 112) hf
set_option maxRecDepth 100000 in
theorem z_X8_init_1053 {L B : Nat} {g0 : Hp} {Ψ : Hp → Option Hp → Prop} {n : Nat} {K1456 Q1456 : Nat → Hp → Option Hp} (HK1456 : ∀ (v0 : Nat), B ≤ v0 → ∀ (h g o : Hp), RRL L B g0 h g → Q1456 v0 h = some o → Ψ o (K1456 v0 g)) {v0 : Nat} {s0 : Nat} {s1 : Nat} (bv0 : B ≤ v0) (bs0 : B ≤ s0) (bs1 : B ≤ s1) {h g o : Hp} (Z : RRL L B g0 h g) (hf : f_X8_init_1053 n Q1456 v0 s0 s1 h = some o) : Ψ o (f_X8_init_1053 n K1456 v0 s0 s1 g) := by
  unfold f_X8_init_1053 at hf ⊢
  obtain ⟨c1, hf⟩ := ite_some hf
  refine zif (z_okI Z c1) ?_
  exact z_X8_init_1059 HK1456 bv0 bs0 bs1 (RR_si Z bs1 (ix 47) 32) hf
set_option maxRecDepth 100000 in
theorem z_X8_init_1047 {L B : Nat} {g0 : Hp} {Ψ : Hp → Option Hp → Prop} {n : Nat} {K1456 Q1456 : Nat → Hp → Option Hp} (HK1456 : ∀ (v0 : Nat), B ≤ v0 → ∀ (h g o : Hp), RRL L B g0 h g → Q1456 v0 h = some o → Ψ o (K1456 v0 g)) {v0 : Nat} {s0 : Nat} {s1 : Nat} (bv0 : B ≤ v0) (bs0 : B ≤ s0) (bs1 : B ≤ s1) {h g o : Hp} (Z : RRL L B g0 h g) (hf : f_X8_init_1047 n Q1456 v0 s0 s1 h = some o) : Ψ o (f_X8_init_1047 n K1456 v0 s0 s1 g) := by
  unfold f_X8_init_1047 at hf ⊢
  obtain ⟨c1, hf⟩ := ite_some hf
  refine zif (z_okI Z c1) ?_
  exact z_X8_init_1053 HK1456 bv0 bs0 bs1 (RR_si Z bs1 (ix 46) 32) hf
set_option maxRecDepth 100000 in
theorem z_X8_init_1041 {L B : Nat} {g0 : Hp} {Ψ : Hp → Option Hp → Prop} {n : Nat} {K1456 Q1456 : Nat → Hp → Option Hp} (HK1456 : ∀ (v0 : Nat), B ≤ v0 → ∀ (h g o : Hp), RRL L B g0 h g → Q1456 v0 h = some o → Ψ o (K1456 v0 g)) {v0 : Nat} {s0 : Nat} {s1 : Nat} (bv0 : B ≤ v0) (bs0 : B ≤ s0) (bs1 : B ≤ s1) {h g o : Hp} (Z : RRL L B g0 h g) (hf : f_X8_init_1041 n Q1456 v0 s0 s1 h = some o) : Ψ o (f_X8_init_1041 n K1456 v0 s0 s1 g) := by
  unfold f_X8_init_1041 at hf ⊢
  obtain ⟨c1, hf⟩ := ite_some hf
  refine zif (z_okI Z c1) ?_
  exact z_X8_init_1047 HK1456 bv0 bs0 bs1 (RR_si Z bs1 (ix 45) 32) hf
set_option maxRecDepth 100000 in
theorem z_X8_init_1035 {L B : Nat} {g0 : Hp} {Ψ : Hp → Option Hp → Prop} {n : Nat} {K1456 Q1456 : Nat → Hp → Option Hp} (HK1456 : ∀ (v0 : Nat), B ≤ v0 → ∀ (h g o : Hp), RRL L B g0 h g → Q1456 v0 h = some o → Ψ o (K1456 v0 g)) {v0 : Nat} {s0 : Nat} {s1 : Nat} (bv0 : B ≤ v0) (bs0 : B ≤ s0) (bs1 : B ≤ s1) {h g o : Hp} (Z : RRL L B g0 h g) (hf : f_X8_init_1035 n Q1456 v0 s0 s1 h = some o) : Ψ o (f_X8_init_1035 n K1456 v0 s0 s1 g) := by
  unfold f_X8_init_1035 at hf ⊢
  obtain ⟨c1, hf⟩ := ite_some hf
  refine zif (z_okI Z c1) ?_
  exact z_X8_init_1041 HK1456 bv0 bs0 bs1 (RR_si Z bs1 (ix 44) 102) hf
set_option maxRecDepth 100000 in
theorem z_X8_init_1029 {L B : Nat} {g0 : Hp} {Ψ : Hp → Option Hp → Prop} {n : Nat} {K1456 Q1456 : Nat → Hp → Option Hp} (HK1456 : ∀ (v0 : Nat), B ≤ v0 → ∀ (h g o : Hp), RRL L B g0 h g → Q1456 v0 h = some o → Ψ o (K1456 v0 g)) {v0 : Nat} {s0 : Nat} {s1 : Nat} (bv0 : B ≤ v0) (bs0 : B ≤ s0) (bs1 : B ≤ s1) {h g o : Hp} (Z : RRL L B g0 h g) (hf : f_X8_init_1029 n Q1456 v0 s0 s1 h = some o) : Ψ o (f_X8_init_1029 n K1456 v0 s0 s1 g) := by
  unfold f_X8_init_1029 at hf ⊢
  obtain ⟨c1, hf⟩ := ite_some hf
  refine zif (z_okI Z c1) ?_
  exact z_X8_init_1035 HK1456 bv0 bs0 bs1 (RR_si Z bs1 (ix 43) 102) hf
set_option maxRecDepth 100000 in
theorem z_X8_init_1023 {L B : Nat} {g0 : Hp} {Ψ : Hp → Option Hp → Prop} {n : Nat} {K1456 Q1456 : Nat → Hp → Option Hp} (HK1456 : ∀ (v0 : Nat), B ≤ v0 → ∀ (h g o : Hp), RRL L B g0 h g → Q1456 v0 h = some o → Ψ o (K1456 v0 g)) {v0 : Nat} {s0 : Nat} {s1 : Nat} (bv0 : B ≤ v0) (bs0 : B ≤ s0) (bs1 : B ≤ s1) {h g o : Hp} (Z : RRL L B g0 h g) (hf : f_X8_init_1023 n Q1456 v0 s0 s1 h = some o) : Ψ o (f_X8_init_1023 n K1456 v0 s0 s1 g) := by
  unfold f_X8_init_1023 at hf ⊢
  obtain ⟨c1, hf⟩ := ite_some hf
  refine zif (z_okI Z c1) ?_
  exact z_X8_init_1029 HK1456 bv0 bs0 bs1 (RR_si Z bs1 (ix 42) 105) hf
set_option maxRecDepth 100000 in
theorem z_X8_init_1017 {L B : Nat} {g0 : Hp} {Ψ : Hp → Option Hp → Prop} {n : Nat} {K1456 Q1456 : Nat → Hp → Option Hp} (HK1456 : ∀ (v0 : Nat), B ≤ v0 → ∀ (h g o : Hp), RRL L B g0 h g → Q1456 v0 h = some o → Ψ o (K1456 v0 g)) {v0 : Nat} {s0 : Nat} {s1 : Nat} (bv0 : B ≤ v0) (bs0 : B ≤ s0) (bs1 : B ≤ s1) {h g o : Hp} (Z : RRL L B g0 h g) (hf : f_X8_init_1017 n Q1456 v0 s0 s1 h = some o) : Ψ o (f_X8_init_1017 n K1456 v0 s0 s1 g) := by
  unfold f_X8_init_1017 at hf ⊢
  obtain ⟨c1, hf⟩ := ite_some hf
  refine zif (z_okI Z c1) ?_
  exact z_X8_init_1023 HK1456 bv0 bs0 bs1 (RR_si Z bs1 (ix 41) 116) hf
set_option maxRecDepth 100000 in
theorem z_X8_init_1011 {L B : Nat} {g0 : Hp} {Ψ : Hp → Option Hp → Prop} {n : Nat} {K1456 Q1456 : Nat → Hp → Option Hp} (HK1456 : ∀ (v0 : Nat), B ≤ v0 → ∀ (h g o : Hp), RRL L B g0 h g → Q1456 v0 h = some o → Ψ o (K1456 v0 g)) {v0 : Nat} {s0 : Nat} {s1 : Nat} (bv0 : B ≤ v0) (bs0 : B ≤ s0) (bs1 : B ≤ s1) {h g o : Hp} (Z : RRL L B g0 h g) (hf : f_X8_init_1011 n Q1456 v0 s0 s1 h = some o) : Ψ o (f_X8_init_1011 n K1456 v0 s0 s1 g) := by
  unfold f_X8_init_1011 at hf ⊢
  obtain ⟨c1, hf⟩ := ite_some hf
  refine zif (z_okI Z c1) ?_
  exact z_X8_init_1017 HK1456 bv0 bs0 bs1 (RR_si Z bs1 (ix 40) 115) hf
set_option maxRecDepth 100000 in
theorem z_X8_init_1005 {L B : Nat} {g0 : Hp} {Ψ : Hp → Option Hp → Prop} {n : Nat} {K1456 Q1456 : Nat → Hp → Option Hp} (HK1456 : ∀ (v0 : Nat), B ≤ v0 → ∀ (h g o : Hp), RRL L B g0 h g → Q1456 v0 h = some o → Ψ o (K1456 v0 g)) {v0 : Nat} {s0 : Nat} {s1 : Nat} (bv0 : B ≤ v0) (bs0 : B ≤ s0) (bs1 : B ≤ s1) {h g o : Hp} (Z : RRL L B g0 h g) (hf : f_X8_init_1005 n Q1456 v0 s0 s1 h = some o) : Ψ o (f_X8_init_1005 n K1456 v0 s0 s1 g) := by
  unfold f_X8_init_1005 at hf ⊢
  obtain ⟨c1, hf⟩ := ite_some hf
  refine zif (z_okI Z c1) ?_
  exact z_X8_init_1011 HK1456 bv0 bs0 bs1 (RR_si Z bs1 (ix 39) 32) hf
set_option maxRecDepth 100000 in
theorem z_X8_init_999 {L B : Nat} {g0 : Hp} {Ψ : Hp → Option Hp → Prop} {n : Nat} {K1456 Q1456 : Nat → Hp → Option Hp} (HK1456 : ∀ (v0 : Nat), B ≤ v0 → ∀ (h g o : Hp), RRL L B g0 h g → Q1456 v0 h = some o → Ψ o (K1456 v0 g)) {v0 : Nat} {s0 : Nat} {s1 : Nat} (bv0 : B ≤ v0) (bs0 : B ≤ s0) (bs1 : B ≤ s1) {h g o : Hp} (Z : RRL L B g0 h g) (hf : f_X8_init_999 n Q1456 v0 s0 s1 h = some o) : Ψ o (f_X8_init_999 n K1456 v0 s0 s1 g) := by
  unfold f_X8_init_999 at hf ⊢
  obtain ⟨c1, hf⟩ := ite_some hf
  refine zif (z_okI Z c1) ?_
  exact z_X8_init_1005 HK1456 bv0 bs0 bs1 (RR_si Z bs1 (ix 38) 32) hf
set_option maxRecDepth 100000 in
theorem z_X8_init_993 {L B : Nat} {g0 : Hp} {Ψ : Hp → Option Hp → Prop} {n : Nat} {K1456 Q1456 : Nat → Hp → Option Hp} (HK1456 : ∀ (v0 : Nat), B ≤ v0 → ∀ (h g o : Hp), RRL L B g0 h g → Q1456 v0 h = some o → Ψ o (K1456 v0 g)) {v0 : Nat} {s0 : Nat} {s1 : Nat} (bv0 : B ≤ v0) (bs0 : B ≤ s0) (bs1 : B ≤ s1) {h g o : Hp} (Z : RRL L B g0 h g) (hf : f_X8_init_993 n Q1456 v0 s0 s1 h = some o) : Ψ o (f_X8_init_993 n K1456 v0 s0 s1 g) := by
  unfold f_X8_init_993 at hf ⊢
  obtain ⟨c1, hf⟩ := ite_some hf
  refine zif (z_okI Z c1) ?_
  exact z_X8_init_999 HK1456 bv0 bs0 bs1 (RR_si Z bs1 (ix 37) 32) hf
set_option maxRecDepth 100000 in
theorem z_X8_init_987 {L B : Nat} {g0 : Hp} {Ψ : Hp → Option Hp → Prop} {n : Nat} {K1456 Q1456 : Nat → Hp → Option Hp} (HK1456 : ∀ (v0 : Nat), B ≤ v0 → ∀ (h g o : Hp), RRL L B g0 h g → Q1456 v0 h = some o → Ψ o (K1456 v0 g)) {v0 : Nat} {s0 : Nat} {s1 : Nat} (bv0 : B ≤ v0) (bs0 : B ≤ s0) (bs1 : B ≤ s1) {h g o : Hp} (Z : RRL L B g0 h g) (hf : f_X8_init_987 n Q1456 v0 s0 s1 h = some o) : Ψ o (f_X8_init_987 n K1456 v0 s0 s1 g) := by
  unfold f_X8_init_987 at hf ⊢
  obtain ⟨c1, hf⟩ := ite_some hf
  refine zif (z_okI Z c1) ?_
  exact z_X8_init_993 HK1456 bv0 bs0 bs1 (RR_si Z bs1 (ix 36) 107) hf
set_option maxRecDepth 100000 in
theorem z_X8_init_981 {L B : Nat} {g0 : Hp} {Ψ : Hp → Option Hp → Prop} {n : Nat} {K1456 Q1456 : Nat → Hp → Option Hp} (HK1456 : ∀ (v0 : Nat), B ≤ v0 → ∀ (h g o : Hp), RRL L B g0 h g → Q1456 v0 h = some o → Ψ o (K1456 v0 g)) {v0 : Nat} {s0 : Nat} {s1 : Nat} (bv0 : B ≤ v0) (bs0 : B ≤ s0) (bs1 : B ≤ s1) {h g o : Hp} (Z : RRL L B g0 h g) (hf : f_X8_init_981 n Q1456 v0 s0 s1 h = some o) : Ψ o (f_X8_init_981 n K1456 v0 s0 s1 g) := by
  unfold f_X8_init_981 at hf ⊢
  obtain ⟨c1, hf⟩ := ite_some hf
  refine zif (z_okI Z c1) ?_
  exact z_X8_init_987 HK1456 bv0 bs0 bs1 (RR_si Z bs1 (ix 35) 99) hf
set_option maxRecDepth 100000 in
theorem z_X8_init_975 {L B : Nat} {g0 : Hp} {Ψ : Hp → Option Hp → Prop} {n : Nat} {K1456 Q1456 : Nat → Hp → Option Hp} (HK1456 : ∀ (v0 : Nat), B ≤ v0 → ∀ (h g o : Hp), RRL L B g0 h g → Q1456 v0 h = some o → Ψ o (K1456 v0 g)) {v0 : Nat} {s0 : Nat} {s1 : Nat} (bv0 : B ≤ v0) (bs0 : B ≤ s0) (bs1 : B ≤ s1) {h g o : Hp} (Z : RRL L B g0 h g) (hf : f_X8_init_975 n Q1456 v0 s0 s1 h = some o) : Ψ o (f_X8_init_975 n K1456 v0 s0 s1 g) := by
  unfold f_X8_init_975 at hf ⊢
  obtain ⟨c1, hf⟩ := ite_some hf
  refine zif (z_okI Z c1) ?_
  exact z_X8_init_981 HK1456 bv0 bs0 bs1 (RR_si Z bs1 (ix 34) 105) hf
set_option maxRecDepth 100000 in
theorem z_X8_init_969 {L B : Nat} {g0 : Hp} {Ψ : Hp → Option Hp → Prop} {n : Nat} {K1456 Q1456 : Nat → Hp → Option Hp} (HK1456 : ∀ (v0 : Nat), B ≤ v0 → ∀ (h g o : Hp), RRL L B g0 h g → Q1456 v0 h = some o → Ψ o (K1456 v0 g)) {v0 : Nat} {s0 : Nat} {s1 : Nat} (bv0 : B ≤ v0) (bs0 : B ≤ s0) (bs1 : B ≤ s1) {h g o : Hp} (Z : RRL L B g0 h g) (hf : f_X8_init_969 n Q1456 v0 s0 s1 h = some o) : Ψ o (f_X8_init_969 n K1456 v0 s0 s1 g) := by
  unfold f_X8_init_969 at hf ⊢
  obtain ⟨c1, hf⟩ := ite_some hf
  refine zif (z_okI Z c1) ?_
  exact z_X8_init_975 HK1456 bv0 bs0 bs1 (RR_si Z bs1 (ix 33) 104) hf
set_option maxRecDepth 100000 in
theorem z_X8_init_963 {L B : Nat} {g0 : Hp} {Ψ : Hp → Option Hp → Prop} {n : Nat} {K1456 Q1456 : Nat → Hp → Option Hp} (HK1456 : ∀ (v0 : Nat), B ≤ v0 → ∀ (h g o : Hp), RRL L B g0 h g → Q1456 v0 h = some o → Ψ o (K1456 v0 g)) {v0 : Nat} {s0 : Nat} {s1 : Nat} (bv0 : B ≤ v0) (bs0 : B ≤ s0) (bs1 : B ≤ s1) {h g o : Hp} (Z : RRL L B g0 h g) (hf : f_X8_init_963 n Q1456 v0 s0 s1 h = some o) : Ψ o (f_X8_init_963 n K1456 v0 s0 s1 g) := by
  unfold f_X8_init_963 at hf ⊢
  obtain ⟨c1, hf⟩ := ite_some hf
  refine zif (z_okI Z c1) ?_
  exact z_X8_init_969 HK1456 bv0 bs0 bs1 (RR_si Z bs1 (ix 32) 116) hf
set_option maxRecDepth 100000 in
theorem z_X8_init_957 {L B : Nat} {g0 : Hp} {Ψ : Hp → Option Hp → Prop} {n : Nat} {K1456 Q1456 : Nat → Hp → Option Hp} (HK1456 : ∀ (v0 : Nat), B ≤ v0 → ∀ (h g o : Hp), RRL L B g0 h g → Q1456 v0 h = some o → Ψ o (K1456 v0 g)) {v0 : Nat} {s0 : Nat} {s1 : Nat} (bv0 : B ≤ v0) (bs0 : B ≤ s0) (bs1 : B ≤ s1) {h g o : Hp} (Z : RRL L B g0 h g) (hf : f_X8_init_957 n Q1456 v0 s0 s1 h = some o) : Ψ o (f_X8_init_957 n K1456 v0 s0 s1 g) := by
  unfold f_X8_init_957 at hf ⊢
  obtain ⟨c1, hf⟩ := ite_some hf
  refine zif (z_okI Z c1) ?_
  exact z_X8_init_963 HK1456 bv0 bs0 bs1 (RR_si Z bs1 (ix 31) 32) hf
set_option maxRecDepth 100000 in
theorem z_X8_init_951 {L B : Nat} {g0 : Hp} {Ψ : Hp → Option Hp → Prop} {n : Nat} {K1456 Q1456 : Nat → Hp → Option Hp} (HK1456 : ∀ (v0 : Nat), B ≤ v0 → ∀ (h g o : Hp), RRL L B g0 h g → Q1456 v0 h = some o → Ψ o (K1456 v0 g)) {v0 : Nat} {s0 : Nat} {s1 : Nat} (bv0 : B ≤ v0) (bs0 : B ≤ s0) (bs1 : B ≤ s1) {h g o : Hp} (Z : RRL L B g0 h g) (hf : f_X8_init_951 n Q1456 v0 s0 s1 h = some o) : Ψ o (f_X8_init_951 n K1456 v0 s0 s1 g) := by
  unfold f_X8_init_951 at hf ⊢
  obtain ⟨c1, hf⟩ := ite_some hf
  refine zif (z_okI Z c1) ?_
  exact z_X8_init_957 HK1456 bv0 bs0 bs1 (RR_si Z bs1 (ix 30) 32) hf
set_option maxRecDepth 100000 in
theorem z_X8_init_945 {L B : Nat} {g0 : Hp} {Ψ : Hp → Option Hp → Prop} {n : Nat} {K1456 Q1456 : Nat → Hp → Option Hp} (HK1456 : ∀ (v0 : Nat), B ≤ v0 → ∀ (h g o : Hp), RRL L B g0 h g → Q1456 v0 h = some o → Ψ o (K1456 v0 g)) {v0 : Nat} {s0 : Nat} {s1 : Nat} (bv0 : B ≤ v0) (bs0 : B ≤ s0) (bs1 : B ≤ s1) {h g o : Hp} (Z : RRL L B g0 h g) (hf : f_X8_init_945 n Q1456 v0 s0 s1 h = some o) : Ψ o (f_X8_init_945 n K1456 v0 s0 s1 g) := by
  unfold f_X8_init_945 at hf ⊢
  obtain ⟨c1, hf⟩ := ite_some hf
  refine zif (z_okI Z c1) ?_
  exact z_X8_init_951 HK1456 bv0 bs0 bs1 (RR_si Z bs1 (ix 29) 32) hf
set_option maxRecDepth 100000 in
theorem z_X8_init_939 {L B : Nat} {g0 : Hp} {Ψ : Hp → Option Hp → Prop} {n : Nat} {K1456 Q1456 : Nat → Hp → Option Hp} (HK1456 : ∀ (v0 : Nat), B ≤ v0 → ∀ (h g o : Hp), RRL L B g0 h g → Q1456 v0 h = some o → Ψ o (K1456 v0 g)) {v0 : Nat} {s0 : Nat} {s1 : Nat} (bv0 : B ≤ v0) (bs0 : B ≤ s0) (bs1 : B ≤ s1) {h g o : Hp} (Z : RRL L B g0 h g) (hf : f_X8_init_939 n Q1456 v0 s0 s1 h = some o) : Ψ o (f_X8_init_939 n K1456 v0 s0 s1 g) := by
  unfold f_X8_init_939 at hf ⊢
  obtain ⟨c1, hf⟩ := ite_some hf
  refine zif (z_okI Z c1) ?_
  exact z_X8_init_945 HK1456 bv0 bs0 bs1 (RR_si Z bs1 (ix 28) 32) hf
set_option maxRecDepth 100000 in
theorem z_X8_init_933 {L B : Nat} {g0 : Hp} {Ψ : Hp → Option Hp → Prop} {n : Nat} {K1456 Q1456 : Nat → Hp → Option Hp} (HK1456 : ∀ (v0 : Nat), B ≤ v0 → ∀ (h g o : Hp), RRL L B g0 h g → Q1456 v0 h = some o → Ψ o (K1456 v0 g)) {v0 : Nat} {s0 : Nat} {s1 : Nat} (bv0 : B ≤ v0) (bs0 : B ≤ s0) (bs1 : B ≤ s1) {h g o : Hp} (Z : RRL L B g0 h g) (hf : f_X8_init_933 n Q1456 v0 s0 s1 h = some o) : Ψ o (f_X8_init_933 n K1456 v0 s0 s1 g) := by
  unfold f_X8_init_933 at hf ⊢
  obtain ⟨c1, hf⟩ := ite_some hf
  refine zif (z_okI Z c1) ?_
  exact z_X8_init_939 HK1456 bv0 bs0 bs1 (RR_si Z bs1 (ix 27) 32) hf
set_option maxRecDepth 100000 in
theorem z_X8_init_927 {L B : Nat} {g0 : Hp} {Ψ : Hp → Option Hp → Prop} {n : Nat} {K1456 Q1456 : Nat → Hp → Option Hp} (HK1456 : ∀ (v0 : Nat), B ≤ v0 → ∀ (h g o : Hp), RRL L B g0 h g → Q1456 v0 h = some o → Ψ o (K1456 v0 g)) {v0 : Nat} {s0 : Nat} {s1 : Nat} (bv0 : B ≤ v0) (bs0 : B ≤ s0) (bs1 : B ≤ s1) {h g o : Hp} (Z : RRL L B g0 h g) (hf : f_X8_init_927 n Q1456 v0 s0 s1 h = some o) : Ψ o (f_X8_init_927 n K1456 v0 s0 s1 g) := by
  unfold f_X8_init_927 at hf ⊢
  obtain ⟨c1, hf⟩ := ite_some hf
  refine zif (z_okI Z c1) ?_
  exact z_X8_init_933 HK1456 bv0 bs0 bs1 (RR_si Z bs1 (ix 26) 116) hf
set_option maxRecDepth 100000 in
theorem z_X8_init_921 {L B : Nat} {g0 : Hp} {Ψ : Hp → Option Hp → Prop} {n : Nat} {K1456 Q1456 : Nat → Hp → Option Hp} (HK1456 : ∀ (v0 : Nat), B ≤ v0 → ∀ (h g o : Hp), RRL L B g0 h g → Q1456 v0 h = some o → Ψ o (K1456 v0 g)) {v0 : Nat} {s0 : Nat} {s1 : Nat} (bv0 : B ≤ v0) (bs0 : B ≤ s0) (bs1 : B ≤ s1) {h g o : Hp} (Z : RRL L B g0 h g) (hf : f_X8_init_921 n Q1456 v0 s0 s1 h = some o) : Ψ o (f_X8_init_921 n K1456 v0 s0 s1 g) := by
  unfold f_X8_init_921 at hf ⊢
  obtain ⟨c1, hf⟩ := ite_some hf
  refine zif (z_okI Z c1) ?_
  exact z_X8_init_927 HK1456 bv0 bs0 bs1 (RR_si Z bs1 (ix 25) 101) hf
set_option maxRecDepth 100000 in
theorem z_X8_init_915 {L B : Nat} {g0 : Hp} {Ψ : Hp → Option Hp → Prop} {n : Nat} {K1456 Q1456 : Nat → Hp → Option Hp} (HK1456 : ∀ (v0 : Nat), B ≤ v0 → ∀ (h g o : Hp), RRL L B g0 h g → Q1456 v0 h = some o → Ψ o (K1456 v0 g)) {v0 : Nat} {s0 : Nat} {s1 : Nat} (bv0 : B ≤ v0) (bs0 : B ≤ s0) (bs1 : B ≤ s1) {h g o : Hp} (Z : RRL L B g0 h g) (hf : f_X8_init_915 n Q1456 v0 s0 s1 h = some o) : Ψ o (f_X8_init_915 n K1456 v0 s0 s1 g) := by
  unfold f_X8_init_915 at hf ⊢
  obtain ⟨c1, hf⟩ := ite_some hf
  refine zif (z_okI Z c1) ?_
  exact z_X8_init_921 HK1456 bv0 bs0 bs1 (RR_si Z bs1 (ix 24) 119) hf
set_option maxRecDepth 100000 in
theorem z_X8_init_909 {L B : Nat} {g0 : Hp} {Ψ : Hp → Option Hp → Prop} {n : Nat} {K1456 Q1456 : Nat → Hp → Option Hp} (HK1456 : ∀ (v0 : Nat), B ≤ v0 → ∀ (h g o : Hp), RRL L B g0 h g → Q1456 v0 h = some o → Ψ o (K1456 v0 g)) {v0 : Nat} {s0 : Nat} {s1 : Nat} (bv0 : B ≤ v0) (bs0 : B ≤ s0) (bs1 : B ≤ s1) {h g o : Hp} (Z : RRL L B g0 h g) (hf : f_X8_init_909 n Q1456 v0 s0 s1 h = some o) : Ψ o (f_X8_init_909 n K1456 v0 s0 s1 g) := by
  unfold f_X8_init_909 at hf ⊢
  obtain ⟨c1, hf⟩ := ite_some hf
  refine zif (z_okI Z c1) ?_
  exact z_X8_init_915 HK1456 bv0 bs0 bs1 (RR_si Z bs1 (ix 23) 32) hf
set_option maxRecDepth 100000 in
theorem z_X8_init_903 {L B : Nat} {g0 : Hp} {Ψ : Hp → Option Hp → Prop} {n : Nat} {K1456 Q1456 : Nat → Hp → Option Hp} (HK1456 : ∀ (v0 : Nat), B ≤ v0 → ∀ (h g o : Hp), RRL L B g0 h g → Q1456 v0 h = some o → Ψ o (K1456 v0 g)) {v0 : Nat} {s0 : Nat} {s1 : Nat} (bv0 : B ≤ v0) (bs0 : B ≤ s0) (bs1 : B ≤ s1) {h g o : Hp} (Z : RRL L B g0 h g) (hf : f_X8_init_903 n Q1456 v0 s0 s1 h = some o) : Ψ o (f_X8_init_903 n K1456 v0 s0 s1 g) := by
  unfold f_X8_init_903 at hf ⊢
  obtain ⟨c1, hf⟩ := ite_some hf
  refine zif (z_okI Z c1) ?_
  exact z_X8_init_909 HK1456 bv0 bs0 bs1 (RR_si Z bs1 (ix 22) 32) hf
set_option maxRecDepth 100000 in
theorem z_X8_init_897 {L B : Nat} {g0 : Hp} {Ψ : Hp → Option Hp → Prop} {n : Nat} {K1456 Q1456 : Nat → Hp → Option Hp} (HK1456 : ∀ (v0 : Nat), B ≤ v0 → ∀ (h g o : Hp), RRL L B g0 h g → Q1456 v0 h = some o → Ψ o (K1456 v0 g)) {v0 : Nat} {s0 : Nat} {s1 : Nat} (bv0 : B ≤ v0) (bs0 : B ≤ s0) (bs1 : B ≤ s1) {h g o : Hp} (Z : RRL L B g0 h g) (hf : f_X8_init_897 n Q1456 v0 s0 s1 h = some o) : Ψ o (f_X8_init_897 n K1456 v0 s0 s1 g) := by
  unfold f_X8_init_897 at hf ⊢
  obtain ⟨c1, hf⟩ := ite_some hf
  refine zif (z_okI Z c1) ?_
  exact z_X8_init_903 HK1456 bv0 bs0 bs1 (RR_si Z bs1 (ix 21) 115) hf
set_option maxRecDepth 100000 in
theorem z_X8_init_891 {L B : Nat} {g0 : Hp} {Ψ : Hp → Option Hp → Prop} {n : Nat} {K1456 Q1456 : Nat → Hp → Option Hp} (HK1456 : ∀ (v0 : Nat), B ≤ v0 → ∀ (h g o : Hp), RRL L B g0 h g → Q1456 v0 h = some o → Ψ o (K1456 v0 g)) {v0 : Nat} {s0 : Nat} {s1 : Nat} (bv0 : B ≤ v0) (bs0 : B ≤ s0) (bs1 : B ≤ s1) {h g o : Hp} (Z : RRL L B g0 h g) (hf : f_X8_init_891 n Q1456 v0 s0 s1 h = some o) : Ψ o (f_X8_init_891 n K1456 v0 s0 s1 g) := by
  unfold f_X8_init_891 at hf ⊢
  obtain ⟨c1, hf⟩ := ite_some hf
  refine zif (z_okI Z c1) ?_
  exact z_X8_init_897 HK1456 bv0 bs0 bs1 (RR_si Z bs1 (ix 20) 107) hf
set_option maxRecDepth 100000 in
theorem z_X8_init_885 {L B : Nat} {g0 : Hp} {Ψ : Hp → Option Hp → Prop} {n : Nat} {K1456 Q1456 : Nat → Hp → Option Hp} (HK1456 : ∀ (v0 : Nat), B ≤ v0 → ∀ (h g o : Hp), RRL L B g0 h g → Q1456 v0 h = some o → Ψ o (K1456 v0 g)) {v0 : Nat} {s0 : Nat} {s1 : Nat} (bv0 : B ≤ v0) (bs0 : B ≤ s0) (bs1 : B ≤ s1) {h g o : Hp} (Z : RRL L B g0 h g) (hf : f_X8_init_885 n Q1456 v0 s0 s1 h = some o) : Ψ o (f_X8_init_885 n K1456 v0 s0 s1 g) := by
  unfold f_X8_init_885 at hf ⊢
  obtain ⟨c1, hf⟩ := ite_some hf
  refine zif (z_okI Z c1) ?_
  exact z_X8_init_891 HK1456 bv0 bs0 bs1 (RR_si Z bs1 (ix 19) 99) hf
set_option maxRecDepth 100000 in
theorem z_X8_init_879 {L B : Nat} {g0 : Hp} {Ψ : Hp → Option Hp → Prop} {n : Nat} {K1456 Q1456 : Nat → Hp → Option Hp} (HK1456 : ∀ (v0 : Nat), B ≤ v0 → ∀ (h g o : Hp), RRL L B g0 h g → Q1456 v0 h = some o → Ψ o (K1456 v0 g)) {v0 : Nat} {s0 : Nat} {s1 : Nat} (bv0 : B ≤ v0) (bs0 : B ≤ s0) (bs1 : B ≤ s1) {h g o : Hp} (Z : RRL L B g0 h g) (hf : f_X8_init_879 n Q1456 v0 s0 s1 h = some o) : Ψ o (f_X8_init_879 n K1456 v0 s0 s1 g) := by
  unfold f_X8_init_879 at hf ⊢
  obtain ⟨c1, hf⟩ := ite_some hf
  refine zif (z_okI Z c1) ?_
  exact z_X8_init_885 HK1456 bv0 bs0 bs1 (RR_si Z bs1 (ix 18) 105) hf
set_option maxRecDepth 100000 in
theorem z_X8_init_873 {L B : Nat} {g0 : Hp} {Ψ : Hp → Option Hp → Prop} {n : Nat} {K1456 Q1456 : Nat → Hp → Option Hp} (HK1456 : ∀ (v0 : Nat), B ≤ v0 → ∀ (h g o : Hp), RRL L B g0 h g → Q1456 v0 h = some o → Ψ o (K1456 v0 g)) {v0 : Nat} {s0 : Nat} {s1 : Nat} (bv0 : B ≤ v0) (bs0 : B ≤ s0) (bs1 : B ≤ s1) {h g o : Hp} (Z : RRL L B g0 h g) (hf : f_X8_init_873 n Q1456 v0 s0 s1 h = some o) : Ψ o (f_X8_init_873 n K1456 v0 s0 s1 g) := by
  unfold f_X8_init_873 at hf ⊢
  obtain ⟨c1, hf⟩ := ite_some hf
  refine zif (z_okI Z c1) ?_
  exact z_X8_init_879 HK1456 bv0 bs0 bs1 (RR_si Z bs1 (ix 17) 116) hf
set_option maxRecDepth 100000 in
theorem z_X8_init_867 {L B : Nat} {g0 : Hp} {Ψ : Hp → Option Hp → Prop} {n : Nat} {K1456 Q1456 : Nat → Hp → Option Hp} (HK1456 : ∀ (v0 : Nat), B ≤ v0 → ∀ (h g o : Hp), RRL L B g0 h g → Q1456 v0 h = some o → Ψ o (K1456 v0 g)) {v0 : Nat} {s0 : Nat} {s1 : Nat} (bv0 : B ≤ v0) (bs0 : B ≤ s0) (bs1 : B ≤ s1) {h g o : Hp} (Z : RRL L B g0 h g) (hf : f_X8_init_867 n Q1456 v0 s0 s1 h = some o) : Ψ o (f_X8_init_867 n K1456 v0 s0 s1 g) := by
  unfold f_X8_init_867 at hf ⊢
  obtain ⟨c1, hf⟩ := ite_some hf
  refine zif (z_okI Z c1) ?_
  exact z_X8_init_873 HK1456 bv0 bs0 bs1 (RR_si Z bs1 (ix 16) 115) hf
set_option maxRecDepth 100000 in
theorem z_X8_init_861 {L B : Nat} {g0 : Hp} {Ψ : Hp → Option Hp → Prop} {n : Nat} {K1456 Q1456 : Nat → Hp → Option Hp} (HK1456 : ∀ (v0 : Nat), B ≤ v0 → ∀ (h g o : Hp), RRL L B g0 h g → Q1456 v0 h = some o → Ψ o (K1456 v0 g)) {v0 : Nat} {s0 : Nat} {s1 : Nat} (bv0 : B ≤ v0) (bs0 : B ≤ s0) (bs1 : B ≤ s1) {h g o : Hp} (Z : RRL L B g0 h g) (hf : f_X8_init_861 n Q1456 v0 s0 s1 h = some o) : Ψ o (f_X8_init_861 n K1456 v0 s0 s1 g) := by
  unfold f_X8_init_861 at hf ⊢
  obtain ⟨c1, hf⟩ := ite_some hf
  refine zif (z_okI Z c1) ?_
  exact z_X8_init_867 HK1456 bv0 bs0 bs1 (RR_si Z bs1 (ix 15) 32) hf
set_option maxRecDepth 100000 in
theorem z_X8_init_855 {L B : Nat} {g0 : Hp} {Ψ : Hp → Option Hp → Prop} {n : Nat} {K1456 Q1456 : Nat → Hp → Option Hp} (HK1456 : ∀ (v0 : Nat), B ≤ v0 → ∀ (h g o : Hp), RRL L B g0 h g → Q1456 v0 h = some o → Ψ o (K1456 v0 g)) {v0 : Nat} {s0 : Nat} {s1 : Nat} (bv0 : B ≤ v0) (bs0 : B ≤ s0) (bs1 : B ≤ s1) {h g o : Hp} (Z : RRL L B g0 h g) (hf : f_X8_init_855 n Q1456 v0 s0 s1 h = some o) : Ψ o (f_X8_init_855 n K1456 v0 s0 s1 g) := by
  unfold f_X8_init_855 at hf ⊢
  obtain ⟨c1, hf⟩ := ite_some hf
  refine zif (z_okI Z c1) ?_
  exact z_X8_init_861 HK1456 bv0 bs0 bs1 (RR_si Z bs1 (ix 14) 32) hf
set_option maxRecDepth 100000 in
theorem z_X8_init_849 {L B : Nat} {g0 : Hp} {Ψ : Hp → Option Hp → Prop} {n : Nat} {K1456 Q1456 : Nat → Hp → Option Hp} (HK1456 : ∀ (v0 : Nat), B ≤ v0 → ∀ (h g o : Hp), RRL L B g0 h g → Q1456 v0 h = some o → Ψ o (K1456 v0 g)) {v0 : Nat} {s0 : Nat} {s1 : Nat} (bv0 : B ≤ v0) (bs0 : B ≤ s0) (bs1 : B ≤ s1) {h g o : Hp} (Z : RRL L B g0 h g) (hf : f_X8_init_849 n Q1456 v0 s0 s1 h = some o) : Ψ o (f_X8_init_849 n K1456 v0 s0 s1 g) := by
  unfold f_X8_init_849 at hf ⊢
  obtain ⟨c1, hf⟩ := ite_some hf
  refine zif (z_okI Z c1) ?_
  exact z_X8_init_855 HK1456 bv0 bs0 bs1 (RR_si Z bs1 (ix 13) 32) hf
set_option maxRecDepth 100000 in
theorem z_X8_init_843 {L B : Nat} {g0 : Hp} {Ψ : Hp → Option Hp → Prop} {n : Nat} {K1456 Q1456 : Nat → Hp → Option Hp} (HK1456 : ∀ (v0 : Nat), B ≤ v0 → ∀ (h g o : Hp), RRL L B g0 h g → Q1456 v0 h = some o → Ψ o (K1456 v0 g)) {v0 : Nat} {s0 : Nat} {s1 : Nat} (bv0 : B ≤ v0) (bs0 : B ≤ s0) (bs1 : B ≤ s1) {h g o : Hp} (Z : RRL L B g0 h g) (hf : f_X8_init_843 n Q1456 v0 s0 s1 h = some o) : Ψ o (f_X8_init_843 n K1456 v0 s0 s1 g) := by
  unfold f_X8_init_843 at hf ⊢
  obtain ⟨c1, hf⟩ := ite_some hf
  refine zif (z_okI Z c1) ?_
  exact z_X8_init_849 HK1456 bv0 bs0 bs1 (RR_si Z bs1 (ix 12) 115) hf
set_option maxRecDepth 100000 in
theorem z_X8_init_837 {L B : Nat} {g0 : Hp} {Ψ : Hp → Option Hp → Prop} {n : Nat} {K1456 Q1456 : Nat → Hp → Option Hp} (HK1456 : ∀ (v0 : Nat), B ≤ v0 → ∀ (h g o : Hp), RRL L B g0 h g → Q1456 v0 h = some o → Ψ o (K1456 v0 g)) {v0 : Nat} {s0 : Nat} {s1 : Nat} (bv0 : B ≤ v0) (bs0 : B ≤ s0) (bs1 : B ≤ s1) {h g o : Hp} (Z : RRL L B g0 h g) (hf : f_X8_init_837 n Q1456 v0 s0 s1 h = some o) : Ψ o (f_X8_init_837 n K1456 v0 s0 s1 g) := by
  unfold f_X8_init_837 at hf ⊢
  obtain ⟨c1, hf⟩ := ite_some hf
  refine zif (z_okI Z c1) ?_
  exact z_X8_init_843 HK1456 bv0 bs0 bs1 (RR_si Z bs1 (ix 11) 114) hf
set_option maxRecDepth 100000 in
theorem z_X8_init_831 {L B : Nat} {g0 : Hp} {Ψ : Hp → Option Hp → Prop} {n : Nat} {K1456 Q1456 : Nat → Hp → Option Hp} (HK1456 : ∀ (v0 : Nat), B ≤ v0 → ∀ (h g o : Hp), RRL L B g0 h g → Q1456 v0 h = some o → Ψ o (K1456 v0 g)) {v0 : Nat} {s0 : Nat} {s1 : Nat} (bv0 : B ≤ v0) (bs0 : B ≤ s0) (bs1 : B ≤ s1) {h g o : Hp} (Z : RRL L B g0 h g) (hf : f_X8_init_831 n Q1456 v0 s0 s1 h = some o) : Ψ o (f_X8_init_831 n K1456 v0 s0 s1 g) := by
  unfold f_X8_init_831 at hf ⊢
  obtain ⟨c1, hf⟩ := ite_some hf
  refine zif (z_okI Z c1) ?_
  exact z_X8_init_837 HK1456 bv0 bs0 bs1 (RR_si Z bs1 (ix 10) 97) hf
set_option maxRecDepth 100000 in
theorem z_X8_init_825 {L B : Nat} {g0 : Hp} {Ψ : Hp → Option Hp → Prop} {n : Nat} {K1456 Q1456 : Nat → Hp → Option Hp} (HK1456 : ∀ (v0 : Nat), B ≤ v0 → ∀ (h g o : Hp), RRL L B g0 h g → Q1456 v0 h = some o → Ψ o (K1456 v0 g)) {v0 : Nat} {s0 : Nat} {s1 : Nat} (bv0 : B ≤ v0) (bs0 : B ≤ s0) (bs1 : B ≤ s1) {h g o : Hp} (Z : RRL L B g0 h g) (hf : f_X8_init_825 n Q1456 v0 s0 s1 h = some o) : Ψ o (f_X8_init_825 n K1456 v0 s0 s1 g) := by
  unfold f_X8_init_825 at hf ⊢
  obtain ⟨c1, hf⟩ := ite_some hf
  refine zif (z_okI Z c1) ?_
  exact z_X8_init_831 HK1456 bv0 bs0 bs1 (RR_si Z bs1 (ix 9) 101) hf
set_option maxRecDepth 100000 in
theorem z_X8_init_819 {L B : Nat} {g0 : Hp} {Ψ : Hp → Option Hp → Prop} {n : Nat} {K1456 Q1456 : Nat → Hp → Option Hp} (HK1456 : ∀ (v0 : Nat), B ≤ v0 → ∀ (h g o : Hp), RRL L B g0 h g → Q1456 v0 h = some o → Ψ o (K1456 v0 g)) {v0 : Nat} {s0 : Nat} {s1 : Nat} (bv0 : B ≤ v0) (bs0 : B ≤ s0) (bs1 : B ≤ s1) {h g o : Hp} (Z : RRL L B g0 h g) (hf : f_X8_init_819 n Q1456 v0 s0 s1 h = some o) : Ψ o (f_X8_init_819 n K1456 v0 s0 s1 g) := by
  unfold f_X8_init_819 at hf ⊢
  obtain ⟨c1, hf⟩ := ite_some hf
  refine zif (z_okI Z c1) ?_
  exact z_X8_init_825 HK1456 bv0 bs0 bs1 (RR_si Z bs1 (ix 8) 116) hf
set_option maxRecDepth 100000 in
theorem z_X8_init_813 {L B : Nat} {g0 : Hp} {Ψ : Hp → Option Hp → Prop} {n : Nat} {K1456 Q1456 : Nat → Hp → Option Hp} (HK1456 : ∀ (v0 : Nat), B ≤ v0 → ∀ (h g o : Hp), RRL L B g0 h g → Q1456 v0 h = some o → Ψ o (K1456 v0 g)) {v0 : Nat} {s0 : Nat} {s1 : Nat} (bv0 : B ≤ v0) (bs0 : B ≤ s0) (bs1 : B ≤ s1) {h g o : Hp} (Z : RRL L B g0 h g) (hf : f_X8_init_813 n Q1456 v0 s0 s1 h = some o) : Ψ o (f_X8_init_813 n K1456 v0 s0 s1 g) := by
  unfold f_X8_init_813 at hf ⊢
  obtain ⟨c1, hf⟩ := ite_some hf
  refine zif (z_okI Z c1) ?_
  exact z_X8_init_819 HK1456 bv0 bs0 bs1 (RR_si Z bs1 (ix 7) 32) hf
set_option maxRecDepth 100000 in
theorem z_X8_init_807 {L B : Nat} {g0 : Hp} {Ψ : Hp → Option Hp → Prop} {n : Nat} {K1456 Q1456 : Nat → Hp → Option Hp} (HK1456 : ∀ (v0 : Nat), B ≤ v0 → ∀ (h g o : Hp), RRL L B g0 h g → Q1456 v0 h = some o → Ψ o (K1456 v0 g)) {v0 : Nat} {s0 : Nat} {s1 : Nat} (bv0 : B ≤ v0) (bs0 : B ≤ s0) (bs1 : B ≤ s1) {h g o : Hp} (Z : RRL L B g0 h g) (hf : f_X8_init_807 n Q1456 v0 s0 s1 h = some o) : Ψ o (f_X8_init_807 n K1456 v0 s0 s1 g) := by
  unfold f_X8_init_807 at hf ⊢
  obtain ⟨c1, hf⟩ := ite_some hf
  refine zif (z_okI Z c1) ?_
  exact z_X8_init_813 HK1456 bv0 bs0 bs1 (RR_si Z bs1 (ix 6) 32) hf
set_option maxRecDepth 100000 in
theorem z_X8_init_802 {L B : Nat} {g0 : Hp} {Ψ : Hp → Option Hp → Prop} {n : Nat} {K1456 Q1456 : Nat → Hp → Option Hp} (HK1456 : ∀ (v0 : Nat), B ≤ v0 → ∀ (h g o : Hp), RRL L B g0 h g → Q1456 v0 h = some o → Ψ o (K1456 v0 g)) {v0 : Nat} {s0 : Nat} {s1 : Nat} (bv0 : B ≤ v0) (bs0 : B ≤ s0) (bs1 : B ≤ s1) {h g o : Hp} (Z : RRL L B g0 h g) (hf : f_X8_init_802 n Q1456 v0 s0 s1 h = some o) : Ψ o (f_X8_init_802 n K1456 v0 s0 s1 g) := by
  unfold f_X8_init_802 at hf ⊢
  obtain ⟨c1, hf⟩ := ite_some hf
  refine zif (z_okI Z c1) ?_
  exact z_X8_init_807 HK1456 bv0 bs0 bs1 (RR_si Z bs1 (ix 5) 32) hf
set_option maxRecDepth 100000 in
theorem z_X8_init_797 {L B : Nat} {g0 : Hp} {Ψ : Hp → Option Hp → Prop} {n : Nat} {K1456 Q1456 : Nat → Hp → Option Hp} (HK1456 : ∀ (v0 : Nat), B ≤ v0 → ∀ (h g o : Hp), RRL L B g0 h g → Q1456 v0 h = some o → Ψ o (K1456 v0 g)) {v0 : Nat} {s0 : Nat} {s1 : Nat} (bv0 : B ≤ v0) (bs0 : B ≤ s0) (bs1 : B ≤ s1) {h g o : Hp} (Z : RRL L B g0 h g) (hf : f_X8_init_797 n Q1456 v0 s0 s1 h = some o) : Ψ o (f_X8_init_797 n K1456 v0 s0 s1 g) := by
  unfold f_X8_init_797 at hf ⊢
  obtain ⟨c1, hf⟩ := ite_some hf
  refine zif (z_okI Z c1) ?_
  exact z_X8_init_802 HK1456 bv0 bs0 bs1 (RR_si Z bs1 (ix 4) 32) hf
set_option maxRecDepth 100000 in
theorem z_X8_init_792 {L B : Nat} {g0 : Hp} {Ψ : Hp → Option Hp → Prop} {n : Nat} {K1456 Q1456 : Nat → Hp → Option Hp} (HK1456 : ∀ (v0 : Nat), B ≤ v0 → ∀ (h g o : Hp), RRL L B g0 h g → Q1456 v0 h = some o → Ψ o (K1456 v0 g)) {v0 : Nat} {s0 : Nat} {s1 : Nat} (bv0 : B ≤ v0) (bs0 : B ≤ s0) (bs1 : B ≤ s1) {h g o : Hp} (Z : RRL L B g0 h g) (hf : f_X8_init_792 n Q1456 v0 s0 s1 h = some o) : Ψ o (f_X8_init_792 n K1456 v0 s0 s1 g) := by
  unfold f_X8_init_792 at hf ⊢
  obtain ⟨c1, hf⟩ := ite_some hf
  refine zif (z_okI Z c1) ?_
  exact z_X8_init_797 HK1456 bv0 bs0 bs1 (RR_si Z bs1 (ix 3) 119) hf
set_option maxRecDepth 100000 in
theorem z_X8_init_787 {L B : Nat} {g0 : Hp} {Ψ : Hp → Option Hp → Prop} {n : Nat} {K1456 Q1456 : Nat → Hp → Option Hp} (HK1456 : ∀ (v0 : Nat), B ≤ v0 → ∀ (h g o : Hp), RRL L B g0 h g → Q1456 v0 h = some o → Ψ o (K1456 v0 g)) {v0 : Nat} {s0 : Nat} {s1 : Nat} (bv0 : B ≤ v0) (bs0 : B ≤ s0) (bs1 : B ≤ s1) {h g o : Hp} (Z : RRL L B g0 h g) (hf : f_X8_init_787 n Q1456 v0 s0 s1 h = some o) : Ψ o (f_X8_init_787 n K1456 v0 s0 s1 g) := by
  unfold f_X8_init_787 at hf ⊢
  obtain ⟨c1, hf⟩ := ite_some hf
  refine zif (z_okI Z c1) ?_
  exact z_X8_init_792 HK1456 bv0 bs0 bs1 (RR_si Z bs1 (ix 2) 97) hf
set_option maxRecDepth 100000 in
theorem z_X8_init_782 {L B : Nat} {g0 : Hp} {Ψ : Hp → Option Hp → Prop} {n : Nat} {K1456 Q1456 : Nat → Hp → Option Hp} (HK1456 : ∀ (v0 : Nat), B ≤ v0 → ∀ (h g o : Hp), RRL L B g0 h g → Q1456 v0 h = some o → Ψ o (K1456 v0 g)) {v0 : Nat} {s0 : Nat} {s1 : Nat} (bv0 : B ≤ v0) (bs0 : B ≤ s0) (bs1 : B ≤ s1) {h g o : Hp} (Z : RRL L B g0 h g) (hf : f_X8_init_782 n Q1456 v0 s0 s1 h = some o) : Ψ o (f_X8_init_782 n K1456 v0 s0 s1 g) := by
  unfold f_X8_init_782 at hf ⊢
  obtain ⟨c1, hf⟩ := ite_some hf
  refine zif (z_okI Z c1) ?_
  exact z_X8_init_787 HK1456 bv0 bs0 bs1 (RR_si Z bs1 (ix 1) 114) hf
set_option maxRecDepth 100000 in
theorem z_X8_init_777 {L B : Nat} {g0 : Hp} {Ψ : Hp → Option Hp → Prop} {n : Nat} {K1456 Q1456 : Nat → Hp → Option Hp} (HK1456 : ∀ (v0 : Nat), B ≤ v0 → ∀ (h g o : Hp), RRL L B g0 h g → Q1456 v0 h = some o → Ψ o (K1456 v0 g)) {v0 : Nat} {s0 : Nat} {s1 : Nat} (bv0 : B ≤ v0) (bs0 : B ≤ s0) (bs1 : B ≤ s1) {h g o : Hp} (Z : RRL L B g0 h g) (hf : f_X8_init_777 n Q1456 v0 s0 s1 h = some o) : Ψ o (f_X8_init_777 n K1456 v0 s0 s1 g) := by
  unfold f_X8_init_777 at hf ⊢
  obtain ⟨c1, hf⟩ := ite_some hf
  refine zif (z_okI Z c1) ?_
  exact z_X8_init_782 HK1456 bv0 bs0 bs1 (RR_si Z bs1 (ix 0) 100) hf
set_option maxRecDepth 100000 in
theorem z_X8_init_772 {L B : Nat} {g0 : Hp} {Ψ : Hp → Option Hp → Prop} {n : Nat} {K1456 Q1456 : Nat → Hp → Option Hp} (HK1456 : ∀ (v0 : Nat), B ≤ v0 → ∀ (h g o : Hp), RRL L B g0 h g → Q1456 v0 h = some o → Ψ o (K1456 v0 g)) {v0 : Nat} (bv0 : B ≤ v0) {h g o : Hp} (Z : RRL L B g0 h g) (hf : f_X8_init_772 n Q1456 v0 h = some o) : Ψ o (f_X8_init_772 n K1456 v0 g) := by
  unfold f_X8_init_772 at hf ⊢
  rw [RR_len Z]
  exact z_X8_init_777 HK1456 bv0 bv0 Z.2.1 (RR_new Z (q := (9, ix 96)) (by decide) (by decide)) hf
set_option maxRecDepth 100000 in
theorem z_X8_init_769 {L B : Nat} {g0 : Hp} {Ψ : Hp → Option Hp → Prop} {n : Nat} {K1456 Q1456 : Nat → Hp → Option Hp} (HK1456 : ∀ (v0 : Nat), B ≤ v0 → ∀ (h g o : Hp), RRL L B g0 h g → Q1456 v0 h = some o → Ψ o (K1456 v0 g)) {v0 : Nat} {s0 : Nat} {s1 : Nat} (bv0 : B ≤ v0) (bs0 : B ≤ s0) (bs1 : B ≤ s1) {h g o : Hp} (Z : RRL L B g0 h g) (hf : f_X8_init_769 n Q1456 v0 s0 s1 h = some o) : Ψ o (f_X8_init_769 n K1456 v0 s0 s1 g) := by
  unfold f_X8_init_769 at hf ⊢
  obtain ⟨c1, hf⟩ := ite_some hf
  refine zif (z_okO Z (by decide) c1) ?_
  obtain ⟨c2, hf⟩ := ite_some hf
  refine zif c2 ?_
  exact z_X8_init_772 HK1456 bv0 (RR_sr Z bs0 (j := 25) (by decide) bs1) hf
set_option maxRecDepth 100000 in
theorem z_X8_init_763 {L B : Nat} {g0 : Hp} {Ψ : Hp → Option Hp → Prop} {n : Nat} {K1456 Q1456 : Nat → Hp → Option Hp} (HK1456 : ∀ (v0 : Nat), B ≤ v0 → ∀ (h g o : Hp), RRL L B g0 h g → Q1456 v0 h = some o → Ψ o (K1456 v0 g)) {v0 : Nat} {s0 : Nat} {s1 : Nat} (bv0 : B ≤ v0) (bs0 : B ≤ s0) (bs1 : B ≤ s1) {h g o : Hp} (Z : RRL L B g0 h g) (hf : f_X8_init_763 n Q1456 v0 s0 s1 h = some o) : Ψ o (f_X8_init_763 n K1456 v0 s0 s1 g) := by
  unfold f_X8_init_763 at hf ⊢
  obtain ⟨c1, hf⟩ := ite_some hf
  refine zif (z_okI Z c1) ?_
  exact z_X8_init_769 HK1456 bv0 bs0 bs1 (RR_si Z bs1 (ix 82) 59) hf
set_option maxRecDepth 100000 in
theorem z_X8_init_757 {L B : Nat} {g0 : Hp} {Ψ : Hp → Option Hp → Prop} {n : Nat} {K1456 Q1456 : Nat → Hp → Option Hp} (HK1456 : ∀ (v0 : Nat), B ≤ v0 → ∀ (h g o : Hp), RRL L B g0 h g → Q1456 v0 h = some o → Ψ o (K1456 v0 g)) {v0 : Nat} {s0 : Nat} {s1 : Nat} (bv0 : B ≤ v0) (bs0 : B ≤ s0) (bs1 : B ≤ s1) {h g o : Hp} (Z : RRL L B g0 h g) (hf : f_X8_init_757 n Q1456 v0 s0 s1 h = some o) : Ψ o (f_X8_init_757 n K1456 v0 s0 s1 g) := by
  unfold f_X8_init_757 at hf ⊢
  obtain ⟨c1, hf⟩ := ite_some hf
  refine zif (z_okI Z c1) ?_
  exact z_X8_init_763 HK1456 bv0 bs0 bs1 (RR_si Z bs1 (ix 81) 32) hf
set_option maxRecDepth 100000 in
theorem z_X8_init_751 {L B : Nat} {g0 : Hp} {Ψ : Hp → Option Hp → Prop} {n : Nat} {K1456 Q1456 : Nat → Hp → Option Hp} (HK1456 : ∀ (v0 : Nat), B ≤ v0 → ∀ (h g o : Hp), RRL L B g0 h g → Q1456 v0 h = some o → Ψ o (K1456 v0 g)) {v0 : Nat} {s0 : Nat} {s1 : Nat} (bv0 : B ≤ v0) (bs0 : B ≤ s0) (bs1 : B ≤ s1) {h g o : Hp} (Z : RRL L B g0 h g) (hf : f_X8_init_751 n Q1456 v0 s0 s1 h = some o) : Ψ o (f_X8_init_751 n K1456 v0 s0 s1 g) := by
  unfold f_X8_init_751 at hf ⊢
  obtain ⟨c1, hf⟩ := ite_some hf
  refine zif (z_okI Z c1) ?_
  exact z_X8_init_757 HK1456 bv0 bs0 bs1 (RR_si Z bs1 (ix 80) 116) hf
set_option maxRecDepth 100000 in
theorem z_X8_init_745 {L B : Nat} {g0 : Hp} {Ψ : Hp → Option Hp → Prop} {n : Nat} {K1456 Q1456 : Nat → Hp → Option Hp} (HK1456 : ∀ (v0 : Nat), B ≤ v0 → ∀ (h g o : Hp), RRL L B g0 h g → Q1456 v0 h = some o → Ψ o (K1456 v0 g)) {v0 : Nat} {s0 : Nat} {s1 : Nat} (bv0 : B ≤ v0) (bs0 : B ≤ s0) (bs1 : B ≤ s1) {h g o : Hp} (Z : RRL L B g0 h g) (hf : f_X8_init_745 n Q1456 v0 s0 s1 h = some o) : Ψ o (f_X8_init_745 n K1456 v0 s0 s1 g) := by
  unfold f_X8_init_745 at hf ⊢
  obtain ⟨c1, hf⟩ := ite_some hf
  refine zif (z_okI Z c1) ?_
  exact z_X8_init_751 HK1456 bv0 bs0 bs1 (RR_si Z bs1 (ix 79) 115) hf
set_option maxRecDepth 100000 in
theorem z_X8_init_739 {L B : Nat} {g0 : Hp} {Ψ : Hp → Option Hp → Prop} {n : Nat} {K1456 Q1456 : Nat → Hp → Option Hp} (HK1456 : ∀ (v0 : Nat), B ≤ v0 → ∀ (h g o : Hp), RRL L B g0 h g → Q1456 v0 h = some o → Ψ o (K1456 v0 g)) {v0 : Nat} {s0 : Nat} {s1 : Nat} (bv0 : B ≤ v0) (bs0 : B ≤ s0) (bs1 : B ≤ s1) {h g o : Hp} (Z : RRL L B g0 h g) (hf : f_X8_init_739 n Q1456 v0 s0 s1 h = some o) : Ψ o (f_X8_init_739 n K1456 v0 s0 s1 g) := by
  unfold f_X8_init_739 at hf ⊢
  obtain ⟨c1, hf⟩ := ite_some hf
  refine zif (z_okI Z c1) ?_
  exact z_X8_init_745 HK1456 bv0 bs0 bs1 (RR_si Z bs1 (ix 78) 117) hf
set_option maxRecDepth 100000 in
theorem z_X8_init_733 {L B : Nat} {g0 : Hp} {Ψ : Hp → Option Hp → Prop} {n : Nat} {K1456 Q1456 : Nat → Hp → Option Hp} (HK1456 : ∀ (v0 : Nat), B ≤ v0 → ∀ (h g o : Hp), RRL L B g0 h g → Q1456 v0 h = some o → Ψ o (K1456 v0 g)) {v0 : Nat} {s0 : Nat} {s1 : Nat} (bv0 : B ≤ v0) (bs0 : B ≤ s0) (bs1 : B ≤ s1) {h g o : Hp} (Z : RRL L B g0 h g) (hf : f_X8_init_733 n Q1456 v0 s0 s1 h = some o) : Ψ o (f_X8_init_733 n K1456 v0 s0 s1 g) := by
  unfold f_X8_init_733 at hf ⊢
  obtain ⟨c1, hf⟩ := ite_some hf
  refine zif (z_okI Z c1) ?_
  exact z_X8_init_739 HK1456 bv0 bs0 bs1 (RR_si Z bs1 (ix 77) 100) hf
set_option maxRecDepth 100000 in
theorem z_X8_init_727 {L B : Nat} {g0 : Hp} {Ψ : Hp → Option Hp → Prop} {n : Nat} {K1456 Q1456 : Nat → Hp → Option Hp} (HK1456 : ∀ (v0 : Nat), B ≤ v0 → ∀ (h g o : Hp), RRL L B g0 h g → Q1456 v0 h = some o → Ψ o (K1456 v0 g)) {v0 : Nat} {s0 : Nat} {s1 : Nat} (bv0 : B ≤ v0) (bs0 : B ≤ s0) (bs1 : B ≤ s1) {h g o : Hp} (Z : RRL L B g0 h g) (hf : f_X8_init_727 n Q1456 v0 s0 s1 h = some o) : Ψ o (f_X8_init_727 n K1456 v0 s0 s1 g) := by
  unfold f_X8_init_727 at hf ⊢
  obtain ⟨c1, hf⟩ := ite_some hf
  refine zif (z_okI Z c1) ?_
  exact z_X8_init_733 HK1456 bv0 bs0 bs1 (RR_si Z bs1 (ix 76) 32) hf
set_option maxRecDepth 100000 in
theorem z_X8_init_721 {L B : Nat} {g0 : Hp} {Ψ : Hp → Option Hp → Prop} {n : Nat} {K1456 Q1456 : Nat → Hp → Option Hp} (HK1456 : ∀ (v0 : Nat), B ≤ v0 → ∀ (h g o : Hp), RRL L B g0 h g → Q1456 v0 h = some o → Ψ o (K1456 v0 g)) {v0 : Nat} {s0 : Nat} {s1 : Nat} (bv0 : B ≤ v0) (bs0 : B ≤ s0) (bs1 : B ≤ s1) {h g o : Hp} (Z : RRL L B g0 h g) (hf : f_X8_init_721 n Q1456 v0 s0 s1 h = some o) : Ψ o (f_X8_init_721 n K1456 v0 s0 s1 g) := by
  unfold f_X8_init_721 at hf ⊢
  obtain ⟨c1, hf⟩ := ite_some hf
  refine zif (z_okI Z c1) ?_
  exact z_X8_init_727 HK1456 bv0 bs0 bs1 (RR_si Z bs1 (ix 75) 45) hf
set_option maxRecDepth 100000 in
theorem z_X8_init_715 {L B : Nat} {g0 : Hp} {Ψ : Hp → Option Hp → Prop} {n : Nat} {K1456 Q1456 : Nat → Hp → Option Hp} (HK1456 : ∀ (v0 : Nat), B ≤ v0 → ∀ (h g o : Hp), RRL L B g0 h g → Q1456 v0 h = some o → Ψ o (K1456 v0 g)) {v0 : Nat} {s0 : Nat} {s1 : Nat} (bv0 : B ≤ v0) (bs0 : B ≤ s0) (bs1 : B ≤ s1) {h g o : Hp} (Z : RRL L B g0 h g) (hf : f_X8_init_715 n Q1456 v0 s0 s1 h = some o) : Ψ o (f_X8_init_715 n K1456 v0 s0 s1 g) := by
  unfold f_X8_init_715 at hf ⊢
  obtain ⟨c1, hf⟩ := ite_some hf
  refine zif (z_okI Z c1) ?_
  exact z_X8_init_721 HK1456 bv0 bs0 bs1 (RR_si Z bs1 (ix 74) 32) hf
set_option maxRecDepth 100000 in
theorem z_X8_init_709 {L B : Nat} {g0 : Hp} {Ψ : Hp → Option Hp → Prop} {n : Nat} {K1456 Q1456 : Nat → Hp → Option Hp} (HK1456 : ∀ (v0 : Nat), B ≤ v0 → ∀ (h g o : Hp), RRL L B g0 h g → Q1456 v0 h = some o → Ψ o (K1456 v0 g)) {v0 : Nat} {s0 : Nat} {s1 : Nat} (bv0 : B ≤ v0) (bs0 : B ≤ s0) (bs1 : B ≤ s1) {h g o : Hp} (Z : RRL L B g0 h g) (hf : f_X8_init_709 n Q1456 v0 s0 s1 h = some o) : Ψ o (f_X8_init_709 n K1456 v0 s0 s1 g) := by
  unfold f_X8_init_709 at hf ⊢
  obtain ⟨c1, hf⟩ := ite_some hf
  refine zif (z_okI Z c1) ?_
  exact z_X8_init_715 HK1456 bv0 bs0 bs1 (RR_si Z bs1 (ix 73) 50) hf
set_option maxRecDepth 100000 in
theorem z_X8_init_703 {L B : Nat} {g0 : Hp} {Ψ : Hp → Option Hp → Prop} {n : Nat} {K1456 Q1456 : Nat → Hp → Option Hp} (HK1456 : ∀ (v0 : Nat), B ≤ v0 → ∀ (h g o : Hp), RRL L B g0 h g → Q1456 v0 h = some o → Ψ o (K1456 v0 g)) {v0 : Nat} {s0 : Nat} {s1 : Nat} (bv0 : B ≤ v0) (bs0 : B ≤ s0) (bs1 : B ≤ s1) {h g o : Hp} (Z : RRL L B g0 h g) (hf : f_X8_init_703 n Q1456 v0 s0 s1 h = some o) : Ψ o (f_X8_init_703 n K1456 v0 s0 s1 g) := by
  unfold f_X8_init_703 at hf ⊢
  obtain ⟨c1, hf⟩ := ite_some hf
  refine zif (z_okI Z c1) ?_
  exact z_X8_init_709 HK1456 bv0 bs0 bs1 (RR_si Z bs1 (ix 72) 32) hf
set_option maxRecDepth 100000 in
theorem z_X8_init_697 {L B : Nat} {g0 : Hp} {Ψ : Hp → Option Hp → Prop} {n : Nat} {K1456 Q1456 : Nat → Hp → Option Hp} (HK1456 : ∀ (v0 : Nat), B ≤ v0 → ∀ (h g o : Hp), RRL L B g0 h g → Q1456 v0 h = some o → Ψ o (K1456 v0 g)) {v0 : Nat} {s0 : Nat} {s1 : Nat} (bv0 : B ≤ v0) (bs0 : B ≤ s0) (bs1 : B ≤ s1) {h g o : Hp} (Z : RRL L B g0 h g) (hf : f_X8_init_697 n Q1456 v0 s0 s1 h = some o) : Ψ o (f_X8_init_697 n K1456 v0 s0 s1 g) := by
  unfold f_X8_init_697 at hf ⊢
  obtain ⟨c1, hf⟩ := ite_some hf
  refine zif (z_okI Z c1) ?_
  exact z_X8_init_703 HK1456 bv0 bs0 bs1 (RR_si Z bs1 (ix 71) 42) hf
set_option maxRecDepth 100000 in
theorem z_X8_init_691 {L B : Nat} {g0 : Hp} {Ψ : Hp → Option Hp → Prop} {n : Nat} {K1456 Q1456 : Nat → Hp → Option Hp} (HK1456 : ∀ (v0 : Nat), B ≤ v0 → ∀ (h g o : Hp), RRL L B g0 h g → Q1456 v0 h = some o → Ψ o (K1456 v0 g)) {v0 : Nat} {s0 : Nat} {s1 : Nat} (bv0 : B ≤ v0) (bs0 : B ≤ s0) (bs1 : B ≤ s1) {h g o : Hp} (Z : RRL L B g0 h g) (hf : f_X8_init_691 n Q1456 v0 s0 s1 h = some o) : Ψ o (f_X8_init_691 n K1456 v0 s0 s1 g) := by
  unfold f_X8_init_691 at hf ⊢
  obtain ⟨c1, hf⟩ := ite_some hf
  refine zif (z_okI Z c1) ?_
  exact z_X8_init_697 HK1456 bv0 bs0 bs1 (RR_si Z bs1 (ix 70) 32) hf
set_option maxRecDepth 100000 in
theorem z_X8_init_685 {L B : Nat} {g0 : Hp} {Ψ : Hp → Option Hp → Prop} {n : Nat} {K1456 Q1456 : Nat → Hp → Option Hp} (HK1456 : ∀ (v0 : Nat), B ≤ v0 → ∀ (h g o : Hp), RRL L B g0 h g → Q1456 v0 h = some o → Ψ o (K1456 v0 g)) {v0 : Nat} {s0 : Nat} {s1 : Nat} (bv0 : B ≤ v0) (bs0 : B ≤ s0) (bs1 : B ≤ s1) {h g o : Hp} (Z : RRL L B g0 h g) (hf : f_X8_init_685 n Q1456 v0 s0 s1 h = some o) : Ψ o (f_X8_init_685 n K1456 v0 s0 s1 g) := by
  unfold f_X8_init_685 at hf ⊢
  obtain ⟨c1, hf⟩ := ite_some hf
  refine zif (z_okI Z c1) ?_
  exact z_X8_init_691 HK1456 bv0 bs0 bs1 (RR_si Z bs1 (ix 69) 115) hf
set_option maxRecDepth 100000 in
theorem z_X8_init_679 {L B : Nat} {g0 : Hp} {Ψ : Hp → Option Hp → Prop} {n : Nat} {K1456 Q1456 : Nat → Hp → Option Hp} (HK1456 : ∀ (v0 : Nat), B ≤ v0 → ∀ (h g o : Hp), RRL L B g0 h g → Q1456 v0 h = some o → Ψ o (K1456 v0 g)) {v0 : Nat} {s0 : Nat} {s1 : Nat} (bv0 : B ≤ v0) (bs0 : B ≤ s0) (bs1 : B ≤ s1) {h g o : Hp} (Z : RRL L B g0 h g) (hf : f_X8_init_679 n Q1456 v0 s0 s1 h = some o) : Ψ o (f_X8_init_679 n K1456 v0 s0 s1 g) := by
  unfold f_X8_init_679 at hf ⊢
  obtain ⟨c1, hf⟩ := ite_some hf
  refine zif (z_okI Z c1) ?_
  exact z_X8_init_685 HK1456 bv0 bs0 bs1 (RR_si Z bs1 (ix 68) 100) hf
set_option maxRecDepth 100000 in
theorem z_X8_init_673 {L B : Nat} {g0 : Hp} {Ψ : Hp → Option Hp → Prop} {n : Nat} {K1456 Q1456 : Nat → Hp → Option Hp} (HK1456 : ∀ (v0 : Nat), B ≤ v0 → ∀ (h g o : Hp), RRL L B g0 h g → Q1456 v0 h = some o → Ψ o (K1456 v0 g)) {v0 : Nat} {s0 : Nat} {s1 : Nat} (bv0 : B ≤ v0) (bs0 : B ≤ s0) (bs1 : B ≤ s1) {h g o : Hp} (Z : RRL L B g0 h g) (hf : f_X8_init_673 n Q1456 v0 s0 s1 h = some o) : Ψ o (f_X8_init_673 n K1456 v0 s0 s1 g) := by
  unfold f_X8_init_673 at hf ⊢
  obtain ⟨c1, hf⟩ := ite_some hf
  refine zif (z_okI Z c1) ?_
  exact z_X8_init_679 HK1456 bv0 bs0 bs1 (RR_si Z bs1 (ix 67) 108) hf
set_option maxRecDepth 100000 in
theorem z_X8_init_667 {L B : Nat} {g0 : Hp} {Ψ : Hp → Option Hp → Prop} {n : Nat} {K1456 Q1456 : Nat → Hp → Option Hp} (HK1456 : ∀ (v0 : Nat), B ≤ v0 → ∀ (h g o : Hp), RRL L B g0 h g → Q1456 v0 h = some o → Ψ o (K1456 v0 g)) {v0 : Nat} {s0 : Nat} {s1 : Nat} (bv0 : B ≤ v0) (bs0 : B ≤ s0) (bs1 : B ≤ s1) {h g o : Hp} (Z : RRL L B g0 h g) (hf : f_X8_init_667 n Q1456 v0 s0 s1 h = some o) : Ψ o (f_X8_init_667 n K1456 v0 s0 s1 g) := by
  unfold f_X8_init_667 at hf ⊢
  obtain ⟨c1, hf⟩ := ite_some hf
  refine zif (z_okI Z c1) ?_
  exact z_X8_init_673 HK1456 bv0 bs0 bs1 (RR_si Z bs1 (ix 66) 111) hf
set_option maxRecDepth 100000 in
theorem z_X8_init_661 {L B : Nat} {g0 : Hp} {Ψ : Hp → Option Hp → Prop} {n : Nat} {K1456 Q1456 : Nat → Hp → Option Hp} (HK1456 : ∀ (v0 : Nat), B ≤ v0 → ∀ (h g o : Hp), RRL L B g0 h g → Q1456 v0 h = some o → Ψ o (K1456 v0 g)) {v0 : Nat} {s0 : Nat} {s1 : Nat} (bv0 : B ≤ v0) (bs0 : B ≤ s0) (bs1 : B ≤ s1) {h g o : Hp} (Z : RRL L B g0 h g) (hf : f_X8_init_661 n Q1456 v0 s0 s1 h = some o) : Ψ o (f_X8_init_661 n K1456 v0 s0 s1 g) := by
  unfold f_X8_init_661 at hf ⊢
  obtain ⟨c1, hf⟩ := ite_some hf
  refine zif (z_okI Z c1) ?_
  exact z_X8_init_667 HK1456 bv0 bs0 bs1 (RR_si Z bs1 (ix 65) 102) hf
set_option maxRecDepth 100000 in
theorem z_X8_init_655 {L B : Nat} {g0 : Hp} {Ψ : Hp → Option Hp → Prop} {n : Nat} {K1456 Q1456 : Nat → Hp → Option Hp} (HK1456 : ∀ (v0 : Nat), B ≤ v0 → ∀ (h g o : Hp), RRL L B g0 h g → Q1456 v0 h = some o → Ψ o (K1456 v0 g)) {v0 : Nat} {s0 : Nat} {s1 : Nat} (bv0 : B ≤ v0) (bs0 : B ≤ s0) (bs1 : B ≤ s1) {h g o : Hp} (Z : RRL L B g0 h g) (hf : f_X8_init_655 n Q1456 v0 s0 s1 h = some o) : Ψ o (f_X8_init_655 n K1456 v0 s0 s1 g) := by
  unfold f_X8_init_655 at hf ⊢
  obtain ⟨c1, hf⟩ := ite_some hf
  refine zif (z_okI Z c1) ?_
  exact z_X8_init_661 HK1456 bv0 bs0 bs1 (RR_si Z bs1 (ix 64) 32) hf
set_option maxRecDepth 100000 in
theorem z_X8_init_649 {L B : Nat} {g0 : Hp} {Ψ : Hp → Option Hp → Prop} {n : Nat} {K1456 Q1456 : Nat → Hp → Option Hp} (HK1456 : ∀ (v0 : Nat), B ≤ v0 → ∀ (h g o : Hp), RRL L B g0 h g → Q1456 v0 h = some o → Ψ o (K1456 v0 g)) {v0 : Nat} {s0 : Nat} {s1 : Nat} (bv0 : B ≤ v0) (bs0 : B ≤ s0) (bs1 : B ≤ s1) {h g o : Hp} (Z : RRL L B g0 h g) (hf : f_X8_init_649 n Q1456 v0 s0 s1 h = some o) : Ψ o (f_X8_init_649 n K1456 v0 s0 s1 g) := by
  unfold f_X8_init_649 at hf ⊢
  obtain ⟨c1, hf⟩ := ite_some hf
  refine zif (z_okI Z c1) ?_
  exact z_X8_init_655 HK1456 bv0 bs0 bs1 (RR_si Z bs1 (ix 63) 115) hf
set_option maxRecDepth 100000 in
theorem z_X8_init_643 {L B : Nat} {g0 : Hp} {Ψ : Hp → Option Hp → Prop} {n : Nat} {K1456 Q1456 : Nat → Hp → Option Hp} (HK1456 : ∀ (v0 : Nat), B ≤ v0 → ∀ (h g o : Hp), RRL L B g0 h g → Q1456 v0 h = some o → Ψ o (K1456 v0 g)) {v0 : Nat} {s0 : Nat} {s1 : Nat} (bv0 : B ≤ v0) (bs0 : B ≤ s0) (bs1 : B ≤ s1) {h g o : Hp} (Z : RRL L B g0 h g) (hf : f_X8_init_643 n Q1456 v0 s0 s1 h = some o) : Ψ o (f_X8_init_643 n K1456 v0 s0 s1 g) := by
  unfold f_X8_init_643 at hf ⊢
  obtain ⟨c1, hf⟩ := ite_some hf
  refine zif (z_okI Z c1) ?_
  exact z_X8_init_649 HK1456 bv0 bs0 bs1 (RR_si Z bs1 (ix 62) 107) hf
set_option maxRecDepth 100000 in
theorem z_X8_init_637 {L B : Nat} {g0 : Hp} {Ψ : Hp → Option Hp → Prop} {n : Nat} {K1456 Q1456 : Nat → Hp → Option Hp} (HK1456 : ∀ (v0 : Nat), B ≤ v0 → ∀ (h g o : Hp), RRL L B g0 h g → Q1456 v0 h = some o → Ψ o (K1456 v0 g)) {v0 : Nat} {s0 : Nat} {s1 : Nat} (bv0 : B ≤ v0) (bs0 : B ≤ s0) (bs1 : B ≤ s1) {h g o : Hp} (Z : RRL L B g0 h g) (hf : f_X8_init_637 n Q1456 v0 s0 s1 h = some o) : Ψ o (f_X8_init_637 n K1456 v0 s0 s1 g) := by
  unfold f_X8_init_637 at hf ⊢
  obtain ⟨c1, hf⟩ := ite_some hf
  refine zif (z_okI Z c1) ?_
  exact z_X8_init_643 HK1456 bv0 bs0 bs1 (RR_si Z bs1 (ix 61) 99) hf
set_option maxRecDepth 100000 in
theorem z_X8_init_631 {L B : Nat} {g0 : Hp} {Ψ : Hp → Option Hp → Prop} {n : Nat} {K1456 Q1456 : Nat → Hp → Option Hp} (HK1456 : ∀ (v0 : Nat), B ≤ v0 → ∀ (h g o : Hp), RRL L B g0 h g → Q1456 v0 h = some o → Ψ o (K1456 v0 g)) {v0 : Nat} {s0 : Nat} {s1 : Nat} (bv0 : B ≤ v0) (bs0 : B ≤ s0) (bs1 : B ≤ s1) {h g o : Hp} (Z : RRL L B g0 h g) (hf : f_X8_init_631 n Q1456 v0 s0 s1 h = some o) : Ψ o (f_X8_init_631 n K1456 v0 s0 s1 g) := by
  unfold f_X8_init_631 at hf ⊢
  obtain ⟨c1, hf⟩ := ite_some hf
  refine zif (z_okI Z c1) ?_
  exact z_X8_init_637 HK1456 bv0 bs0 bs1 (RR_si Z bs1 (ix 60) 105) hf
set_option maxRecDepth 100000 in
theorem z_X8_init_625 {L B : Nat} {g0 : Hp} {Ψ : Hp → Option Hp → Prop} {n : Nat} {K1456 Q1456 : Nat → Hp → Option Hp} (HK1456 : ∀ (v0 : Nat), B ≤ v0 → ∀ (h g o : Hp), RRL L B g0 h g → Q1456 v0 h = some o → Ψ o (K1456 v0 g)) {v0 : Nat} {s0 : Nat} {s1 : Nat} (bv0 : B ≤ v0) (bs0 : B ≤ s0) (bs1 : B ≤ s1) {h g o : Hp} (Z : RRL L B g0 h g) (hf : f_X8_init_625 n Q1456 v0 s0 s1 h = some o) : Ψ o (f_X8_init_625 n K1456 v0 s0 s1 g) := by
  unfold f_X8_init_625 at hf ⊢
  obtain ⟨c1, hf⟩ := ite_some hf
  refine zif (z_okI Z c1) ?_
  exact z_X8_init_631 HK1456 bv0 bs0 bs1 (RR_si Z bs1 (ix 59) 116) hf
set_option maxRecDepth 100000 in
theorem z_X8_init_619 {L B : Nat} {g0 : Hp} {Ψ : Hp → Option Hp → Prop} {n : Nat} {K1456 Q1456 : Nat → Hp → Option Hp} (HK1456 : ∀ (v0 : Nat), B ≤ v0 → ∀ (h g o : Hp), RRL L B g0 h g → Q1456 v0 h = some o → Ψ o (K1456 v0 g)) {v0 : Nat} {s0 : Nat} {s1 : Nat} (bv0 : B ≤ v0) (bs0 : B ≤ s0) (bs1 : B ≤ s1) {h g o : Hp} (Z : RRL L B g0 h g) (hf : f_X8_init_619 n Q1456 v0 s0 s1 h = some o) : Ψ o (f_X8_init_619 n K1456 v0 s0 s1 g) := by
  unfold f_X8_init_619 at hf ⊢
  obtain ⟨c1, hf⟩ := ite_some hf
  refine zif (z_okI Z c1) ?_
  exact z_X8_init_625 HK1456 bv0 bs0 bs1 (RR_si Z bs1 (ix 58) 115) hf
set_option maxRecDepth 100000 in
theorem z_X8_init_613 {L B : Nat} {g0 : Hp} {Ψ : Hp → Option Hp → Prop} {n : Nat} {K1456 Q1456 : Nat → Hp → Option Hp} (HK1456 : ∀ (v0 : Nat), B ≤ v0 → ∀ (h g o : Hp), RRL L B g0 h g → Q1456 v0 h = some o → Ψ o (K1456 v0 g)) {v0 : Nat} {s0 : Nat} {s1 : Nat} (bv0 : B ≤ v0) (bs0 : B ≤ s0) (bs1 : B ≤ s1) {h g o : Hp} (Z : RRL L B g0 h g) (hf : f_X8_init_613 n Q1456 v0 s0 s1 h = some o) : Ψ o (f_X8_init_613 n K1456 v0 s0 s1 g) := by
  unfold f_X8_init_613 at hf ⊢
  obtain ⟨c1, hf⟩ := ite_some hf
  refine zif (z_okI Z c1) ?_
  exact z_X8_init_619 HK1456 bv0 bs0 bs1 (RR_si Z bs1 (ix 57) 32) hf
set_option maxRecDepth 100000 in
theorem z_X8_init_607 {L B : Nat} {g0 : Hp} {Ψ : Hp → Option Hp → Prop} {n : Nat} {K1456 Q1456 : Nat → Hp → Option Hp} (HK1456 : ∀ (v0 : Nat), B ≤ v0 → ∀ (h g o : Hp), RRL L B g0 h g → Q1456 v0 h = some o → Ψ o (K1456 v0 g)) {v0 : Nat} {s0 : Nat} {s1 : Nat} (bv0 : B ≤ v0) (bs0 : B ≤ s0) (bs1 : B ≤ s1) {h g o : Hp} (Z : RRL L B g0 h g) (hf : f_X8_init_607 n Q1456 v0 s0 s1 h = some o) : Ψ o (f_X8_init_607 n K1456 v0 s0 s1 g) := by
  unfold f_X8_init_607 at hf ⊢
  obtain ⟨c1, hf⟩ := ite_some hf
  refine zif (z_okI Z c1) ?_
  exact z_X8_init_613 HK1456 bv0 bs0 bs1 (RR_si Z bs1 (ix 56) 59) hf
set_option maxRecDepth 100000 in
theorem z_X8_init_601 {L B : Nat} {g0 : Hp} {Ψ : Hp → Option Hp → Prop} {n : Nat} {K1456 Q1456 : Nat → Hp → Option Hp} (HK1456 : ∀ (v0 : Nat), B ≤ v0 → ∀ (h g o : Hp), RRL L B g0 h g → Q1456 v0 h = some o → Ψ o (K1456 v0 g)) {v0 : Nat} {s0 : Nat} {s1 : Nat} (bv0 : B ≤ v0) (bs0 : B ≤ s0) (bs1 : B ≤ s1) {h g o : Hp} (Z : RRL L B g0 h g) (hf : f_X8_init_601 n Q1456 v0 s0 s1 h = some o) : Ψ o (f_X8_init_601 n K1456 v0 s0 s1 g) := by
  unfold f_X8_init_601 at hf ⊢
  obtain ⟨c1, hf⟩ := ite_some hf
  refine zif (z_okI Z c1) ?_
  exact z_X8_init_607 HK1456 bv0 bs0 bs1 (RR_si Z bs1 (ix 55) 32) hf
set_option maxRecDepth 100000 in
theorem z_X8_init_595 {L B : Nat} {g0 : Hp} {Ψ : Hp → Option Hp → Prop} {n : Nat} {K1456 Q1456 : Nat → Hp → Option Hp} (HK1456 : ∀ (v0 : Nat), B ≤ v0 → ∀ (h g o : Hp), RRL L B g0 h g → Q1456 v0 h = some o → Ψ o (K1456 v0 g)) {v0 : Nat} {s0 : Nat} {s1 : Nat} (bv0 : B ≤ v0) (bs0 : B ≤ s0) (bs1 : B ≤ s1) {h g o : Hp} (Z : RRL L B g0 h g) (hf : f_X8_init_595 n Q1456 v0 s0 s1 h = some o) : Ψ o (f_X8_init_595 n K1456 v0 s0 s1 g) := by
  unfold f_X8_init_595 at hf ⊢
  obtain ⟨c1, hf⟩ := ite_some hf
  refine zif (z_okI Z c1) ?_
  exact z_X8_init_601 HK1456 bv0 bs0 bs1 (RR_si Z bs1 (ix 54) 107) hf
set_option maxRecDepth 100000 in
theorem z_X8_init_589 {L B : Nat} {g0 : Hp} {Ψ : Hp → Option Hp → Prop} {n : Nat} {K1456 Q1456 : Nat → Hp → Option Hp} (HK1456 : ∀ (v0 : Nat), B ≤ v0 → ∀ (h g o : Hp), RRL L B g0 h g → Q1456 v0 h = some o → Ψ o (K1456 v0 g)) {v0 : Nat} {s0 : Nat} {s1 : Nat} (bv0 : B ≤ v0) (bs0 : B ≤ s0) (bs1 : B ≤ s1) {h g o : Hp} (Z : RRL L B g0 h g) (hf : f_X8_init_589 n Q1456 v0 s0 s1 h = some o) : Ψ o (f_X8_init_589 n K1456 v0 s0 s1 g) := by
  unfold f_X8_init_589 at hf ⊢
  obtain ⟨c1, hf⟩ := ite_some hf
  refine zif (z_okI Z c1) ?_
  exact z_X8_init_595 HK1456 bv0 bs0 bs1 (RR_si Z bs1 (ix 53) 99) hf
set_option maxRecDepth 100000 in
theorem z_X8_init_583 {L B : Nat} {g0 : Hp} {Ψ : Hp → Option Hp → Prop} {n : Nat} {K1456 Q1456 : Nat → Hp → Option Hp} (HK1456 : ∀ (v0 : Nat), B ≤ v0 → ∀ (h g o : Hp), RRL L B g0 h g → Q1456 v0 h = some o → Ψ o (K1456 v0 g)) {v0 : Nat} {s0 : Nat} {s1 : Nat} (bv0 : B ≤ v0) (bs0 : B ≤ s0) (bs1 : B ≤ s1) {h g o : Hp} (Z : RRL L B g0 h g) (hf : f_X8_init_583 n Q1456 v0 s0 s1 h = some o) : Ψ o (f_X8_init_583 n K1456 v0 s0 s1 g) := by
  unfold f_X8_init_583 at hf ⊢
  obtain ⟨c1, hf⟩ := ite_some hf
  refine zif (z_okI Z c1) ?_
  exact z_X8_init_589 HK1456 bv0 bs0 bs1 (RR_si Z bs1 (ix 52) 105) hf
set_option maxRecDepth 100000 in
theorem z_X8_init_577 {L B : Nat} {g0 : Hp} {Ψ : Hp → Option Hp → Prop} {n : Nat} {K1456 Q1456 : Nat → Hp → Option Hp} (HK1456 : ∀ (v0 : Nat), B ≤ v0 → ∀ (h g o : Hp), RRL L B g0 h g → Q1456 v0 h = some o → Ψ o (K1456 v0 g)) {v0 : Nat} {s0 : Nat} {s1 : Nat} (bv0 : B ≤ v0) (bs0 : B ≤ s0) (bs1 : B ≤ s1) {h g o : Hp} (Z : RRL L B g0 h g) (hf : f_X8_init_577 n Q1456 v0 s0 s1 h = some o) : Ψ o (f_X8_init_577 n K1456 v0 s0 s1 g) := by
  unfold f_X8_init_577 at hf ⊢
  obtain ⟨c1, hf⟩ := ite_some hf
  refine zif (z_okI Z c1) ?_
  exact z_X8_init_583 HK1456 bv0 bs0 bs1 (RR_si Z bs1 (ix 51) 104) hf
set_option maxRecDepth 100000 in
theorem z_X8_init_571 {L B : Nat} {g0 : Hp} {Ψ : Hp → Option Hp → Prop} {n : Nat} {K1456 Q1456 : Nat → Hp → Option Hp} (HK1456 : ∀ (v0 : Nat), B ≤ v0 → ∀ (h g o : Hp), RRL L B g0 h g → Q1456 v0 h = some o → Ψ o (K1456 v0 g)) {v0 : Nat} {s0 : Nat} {s1 : Nat} (bv0 : B ≤ v0) (bs0 : B ≤ s0) (bs1 : B ≤ s1) {h g o : Hp} (Z : RRL L B g0 h g) (hf : f_X8_init_571 n Q1456 v0 s0 s1 h = some o) : Ψ o (f_X8_init_571 n K1456 v0 s0 s1 g) := by
  unfold f_X8_init_571 at hf ⊢
  obtain ⟨c1, hf⟩ := ite_some hf
  refine zif (z_okI Z c1) ?_
  exact z_X8_init_577 HK1456 bv0 bs0 bs1 (RR_si Z bs1 (ix 50) 116) hf
set_option maxRecDepth 100000 in
theorem z_X8_init_565 {L B : Nat} {g0 : Hp} {Ψ : Hp → Option Hp → Prop} {n : Nat} {K1456 Q1456 : Nat → Hp → Option Hp} (HK1456 : ∀ (v0 : Nat), B ≤ v0 → ∀ (h g o : Hp), RRL L B g0 h g → Q1456 v0 h = some o → Ψ o (K1456 v0 g)) {v0 : Nat} {s0 : Nat} {s1 : Nat} (bv0 : B ≤ v0) (bs0 : B ≤ s0) (bs1 : B ≤ s1) {h g o : Hp} (Z : RRL L B g0 h g) (hf : f_X8_init_565 n Q1456 v0 s0 s1 h = some o) : Ψ o (f_X8_init_565 n K1456 v0 s0 s1 g) := by
  unfold f_X8_init_565 at hf ⊢
  obtain ⟨c1, hf⟩ := ite_some hf
  refine zif (z_okI Z c1) ?_
  exact z_X8_init_571 HK1456 bv0 bs0 bs1 (RR_si Z bs1 (ix 49) 32) hf
set_option maxRecDepth 100000 in
theorem z_X8_init_559 {L B : Nat} {g0 : Hp} {Ψ : Hp → Option Hp → Prop} {n : Nat} {K1456 Q1456 : Nat → Hp → Option Hp} (HK1456 : ∀ (v0 : Nat), B ≤ v0 → ∀ (h g o : Hp), RRL L B g0 h g → Q1456 v0 h = some o → Ψ o (K1456 v0 g)) {v0 : Nat} {s0 : Nat} {s1 : Nat} (bv0 : B ≤ v0) (bs0 : B ≤ s0) (bs1 : B ≤ s1) {h g o : Hp} (Z : RRL L B g0 h g) (hf : f_X8_init_559 n Q1456 v0 s0 s1 h = some o) : Ψ o (f_X8_init_559 n K1456 v0 s0 s1 g) := by
  unfold f_X8_init_559 at hf ⊢
  obtain ⟨c1, hf⟩ := ite_some hf
  refine zif (z_okI Z c1) ?_
  exact z_X8_init_565 HK1456 bv0 bs0 bs1 (RR_si Z bs1 (ix 48) 45) hf
set_option maxRecDepth 100000 in
theorem z_X8_init_553 {L B : Nat} {g0 : Hp} {Ψ : Hp → Option Hp → Prop} {n : Nat} {K1456 Q1456 : Nat → Hp → Option Hp} (HK1456 : ∀ (v0 : Nat), B ≤ v0 → ∀ (h g o : Hp), RRL L B g0 h g → Q1456 v0 h = some o → Ψ o (K1456 v0 g)) {v0 : Nat} {s0 : Nat} {s1 : Nat} (bv0 : B ≤ v0) (bs0 : B ≤ s0) (bs1 : B ≤ s1) {h g o : Hp} (Z : RRL L B g0 h g) (hf : f_X8_init_553 n Q1456 v0 s0 s1 h = some o) : Ψ o (f_X8_init_553 n K1456 v0 s0 s1 g) := by
  unfold f_X8_init_553 at hf ⊢
  obtain ⟨c1, hf⟩ := ite_some hf
  refine zif (z_okI Z c1) ?_
  exact z_X8_init_559 HK1456 bv0 bs0 bs1 (RR_si Z bs1 (ix 47) 32) hf
set_option maxRecDepth 100000 in
theorem z_X8_init_547 {L B : Nat} {g0 : Hp} {Ψ : Hp → Option Hp → Prop} {n : Nat} {K1456 Q1456 : Nat → Hp → Option Hp} (HK1456 : ∀ (v0 : Nat), B ≤ v0 → ∀ (h g o : Hp), RRL L B g0 h g → Q1456 v0 h = some o → Ψ o (K1456 v0 g)) {v0 : Nat} {s0 : Nat} {s1 : Nat} (bv0 : B ≤ v0) (bs0 : B ≤ s0) (bs1 : B ≤ s1) {h g o : Hp} (Z : RRL L B g0 h g) (hf : f_X8_init_547 n Q1456 v0 s0 s1 h = some o) : Ψ o (f_X8_init_547 n K1456 v0 s0 s1 g) := by
  unfold f_X8_init_547 at hf ⊢
  obtain ⟨c1, hf⟩ := ite_some hf
  refine zif (z_okI Z c1) ?_
  exact z_X8_init_553 HK1456 bv0 bs0 bs1 (RR_si Z bs1 (ix 46) 57) hf
set_option maxRecDepth 100000 in
theorem z_X8_init_541 {L B : Nat} {g0 : Hp} {Ψ : Hp → Option Hp → Prop} {n : Nat} {K1456 Q1456 : Nat → Hp → Option Hp} (HK1456 : ∀ (v0 : Nat), B ≤ v0 → ∀ (h g o : Hp), RRL L B g0 h g → Q1456 v0 h = some o → Ψ o (K1456 v0 g)) {v0 : Nat} {s0 : Nat} {s1 : Nat} (bv0 : B ≤ v0) (bs0 : B ≤ s0) (bs1 : B ≤ s1) {h g o : Hp} (Z : RRL L B g0 h g) (hf : f_X8_init_541 n Q1456 v0 s0 s1 h = some o) : Ψ o (f_X8_init_541 n K1456 v0 s0 s1 g) := by
  unfold f_X8_init_541 at hf ⊢
  obtain ⟨c1, hf⟩ := ite_some hf
  refine zif (z_okI Z c1) ?_
  exact z_X8_init_547 HK1456 bv0 bs0 bs1 (RR_si Z bs1 (ix 45) 32) hf
set_option maxRecDepth 100000 in
theorem z_X8_init_535 {L B : Nat} {g0 : Hp} {Ψ : Hp → Option Hp → Prop} {n : Nat} {K1456 Q1456 : Nat → Hp → Option Hp} (HK1456 : ∀ (v0 : Nat), B ≤ v0 → ∀ (h g o : Hp), RRL L B g0 h g → Q1456 v0 h = some o → Ψ o (K1456 v0 g)) {v0 : Nat} {s0 : Nat} {s1 : Nat} (bv0 : B ≤ v0) (bs0 : B ≤ s0) (bs1 : B ≤ s1) {h g o : Hp} (Z : RRL L B g0 h g) (hf : f_X8_init_535 n Q1456 v0 s0 s1 h = some o) : Ψ o (f_X8_init_535 n K1456 v0 s0 s1 g) := by
  unfold f_X8_init_535 at hf ⊢
  obtain ⟨c1, hf⟩ := ite_some hf
  refine zif (z_okI Z c1) ?_
  exact z_X8_init_541 HK1456 bv0 bs0 bs1 (RR_si Z bs1 (ix 44) 42) hf
set_option maxRecDepth 100000 in
theorem z_X8_init_529 {L B : Nat} {g0 : Hp} {Ψ : Hp → Option Hp → Prop} {n : Nat} {K1456 Q1456 : Nat → Hp → Option Hp} (HK1456 : ∀ (v0 : Nat), B ≤ v0 → ∀ (h g o : Hp), RRL L B g0 h g → Q1456 v0 h = some o → Ψ o (K1456 v0 g)) {v0 : Nat} {s0 : Nat} {s1 : Nat} (bv0 : B ≤ v0) (bs0 : B ≤ s0) (bs1 : B ≤ s1) {h g o : Hp} (Z : RRL L B g0 h g) (hf : f_X8_init_529 n Q1456 v0 s0 s1 h = some o) : Ψ o (f_X8_init_529 n K1456 v0 s0 s1 g) := by
  unfold f_X8_init_529 at hf ⊢
  obtain ⟨c1, hf⟩ := ite_some hf
  refine zif (z_okI Z c1) ?_
  exact z_X8_init_535 HK1456 bv0 bs0 bs1 (RR_si Z bs1 (ix 43) 32) hf
set_option maxRecDepth 100000 in
theorem z_X8_init_523 {L B : Nat} {g0 : Hp} {Ψ : Hp → Option Hp → Prop} {n : Nat} {K1456 Q1456 : Nat → Hp → Option Hp} (HK1456 : ∀ (v0 : Nat), B ≤ v0 → ∀ (h g o : Hp), RRL L B g0 h g → Q1456 v0 h = some o → Ψ o (K1456 v0 g)) {v0 : Nat} {s0 : Nat} {s1 : Nat} (bv0 : B ≤ v0) (bs0 : B ≤ s0) (bs1 : B ≤ s1) {h g o : Hp} (Z : RRL L B g0 h g) (hf : f_X8_init_523 n Q1456 v0 s0 s1 h = some o) : Ψ o (f_X8_init_523 n K1456 v0 s0 s1 g) := by
  unfold f_X8_init_523 at hf ⊢
  obtain ⟨c1, hf⟩ := ite_some hf
  refine zif (z_okI Z c1) ?_
  exact z_X8_init_529 HK1456 bv0 bs0 bs1 (RR_si Z bs1 (ix 42) 101) hf
set_option maxRecDepth 100000 in
theorem z_X8_init_517 {L B : Nat} {g0 : Hp} {Ψ : Hp → Option Hp → Prop} {n : Nat} {K1456 Q1456 : Nat → Hp → Option Hp} (HK1456 : ∀ (v0 : Nat), B ≤ v0 → ∀ (h g o : Hp), RRL L B g0 h g → Q1456 v0 h = some o → Ψ o (K1456 v0 g)) {v0 : Nat} {s0 : Nat} {s1 : Nat} (bv0 : B ≤ v0) (bs0 : B ≤ s0) (bs1 : B ≤ s1) {h g o : Hp} (Z : RRL L B g0 h g) (hf : f_X8_init_517 n Q1456 v0 s0 s1 h = some o) : Ψ o (f_X8_init_517 n K1456 v0 s0 s1 g) := by
  unfold f_X8_init_517 at hf ⊢
  obtain ⟨c1, hf⟩ := ite_some hf
  refine zif (z_okI Z c1) ?_
  exact z_X8_init_523 HK1456 bv0 bs0 bs1 (RR_si Z bs1 (ix 41) 99) hf
set_option maxRecDepth 100000 in
theorem z_X8_init_511 {L B : Nat} {g0 : Hp} {Ψ : Hp → Option Hp → Prop} {n : Nat} {K1456 Q1456 : Nat → Hp → Option Hp} (HK1456 : ∀ (v0 : Nat), B ≤ v0 → ∀ (h g o : Hp), RRL L B g0 h g → Q1456 v0 h = some o → Ψ o (K1456 v0 g)) {v0 : Nat} {s0 : Nat} {s1 : Nat} (bv0 : B ≤ v0) (bs0 : B ≤ s0) (bs1 : B ≤ s1) {h g o : Hp} (Z : RRL L B g0 h g) (hf : f_X8_init_511 n Q1456 v0 s0 s1 h = some o) : Ψ o (f_X8_init_511 n K1456 v0 s0 s1 g) := by
  unfold f_X8_init_511 at hf ⊢
  obtain ⟨c1, hf⟩ := ite_some hf
  refine zif (z_okI Z c1) ?_
  exact z_X8_init_517 HK1456 bv0 bs0 bs1 (RR_si Z bs1 (ix 40) 97) hf
set_option maxRecDepth 100000 in
theorem z_X8_init_505 {L B : Nat} {g0 : Hp} {Ψ : Hp → Option Hp → Prop} {n : Nat} {K1456 Q1456 : Nat → Hp → Option Hp} (HK1456 : ∀ (v0 : Nat), B ≤ v0 → ∀ (h g o : Hp), RRL L B g0 h g → Q1456 v0 h = some o → Ψ o (K1456 v0 g)) {v0 : Nat} {s0 : Nat} {s1 : Nat} (bv0 : B ≤ v0) (bs0 : B ≤ s0) (bs1 : B ≤ s1) {h g o : Hp} (Z : RRL L B g0 h g) (hf : f_X8_init_505 n Q1456 v0 s0 s1 h = some o) : Ψ o (f_X8_init_505 n K1456 v0 s0 s1 g) := by
  unfold f_X8_init_505 at hf ⊢
  obtain ⟨c1, hf⟩ := ite_some hf
  refine zif (z_okI Z c1) ?_
  exact z_X8_init_511 HK1456 bv0 bs0 bs1 (RR_si Z bs1 (ix 39) 112) hf
set_option maxRecDepth 100000 in
theorem z_X8_init_499 {L B : Nat} {g0 : Hp} {Ψ : Hp → Option Hp → Prop} {n : Nat} {K1456 Q1456 : Nat → Hp → Option Hp} (HK1456 : ∀ (v0 : Nat), B ≤ v0 → ∀ (h g o : Hp), RRL L B g0 h g → Q1456 v0 h = some o → Ψ o (K1456 v0 g)) {v0 : Nat} {s0 : Nat} {s1 : Nat} (bv0 : B ≤ v0) (bs0 : B ≤ s0) (bs1 : B ≤ s1) {h g o : Hp} (Z : RRL L B g0 h g) (hf : f_X8_init_499 n Q1456 v0 s0 s1 h = some o) : Ψ o (f_X8_init_499 n K1456 v0 s0 s1 g) := by
  unfold f_X8_init_499 at hf ⊢
  obtain ⟨c1, hf⟩ := ite_some hf
  refine zif (z_okI Z c1) ?_
  exact z_X8_init_505 HK1456 bv0 bs0 bs1 (RR_si Z bs1 (ix 38) 32) hf
set_option maxRecDepth 100000 in
theorem z_X8_init_493 {L B : Nat} {g0 : Hp} {Ψ : Hp → Option Hp → Prop} {n : Nat} {K1456 Q1456 : Nat → Hp → Option Hp} (HK1456 : ∀ (v0 : Nat), B ≤ v0 → ∀ (h g o : Hp), RRL L B g0 h g → Q1456 v0 h = some o → Ψ o (K1456 v0 g)) {v0 : Nat} {s0 : Nat} {s1 : Nat} (bv0 : B ≤ v0) (bs0 : B ≤ s0) (bs1 : B ≤ s1) {h g o : Hp} (Z : RRL L B g0 h g) (hf : f_X8_init_493 n Q1456 v0 s0 s1 h = some o) : Ψ o (f_X8_init_493 n K1456 v0 s0 s1 g) := by
  unfold f_X8_init_493 at hf ⊢
  obtain ⟨c1, hf⟩ := ite_some hf
  refine zif (z_okI Z c1) ?_
  exact z_X8_init_499 HK1456 bv0 bs0 bs1 (RR_si Z bs1 (ix 37) 60) hf
set_option maxRecDepth 100000 in
theorem z_X8_init_487 {L B : Nat} {g0 : Hp} {Ψ : Hp → Option Hp → Prop} {n : Nat} {K1456 Q1456 : Nat → Hp → Option Hp} (HK1456 : ∀ (v0 : Nat), B ≤ v0 → ∀ (h g o : Hp), RRL L B g0 h g → Q1456 v0 h = some o → Ψ o (K1456 v0 g)) {v0 : Nat} {s0 : Nat} {s1 : Nat} (bv0 : B ≤ v0) (bs0 : B ≤ s0) (bs1 : B ≤ s1) {h g o : Hp} (Z : RRL L B g0 h g) (hf : f_X8_init_487 n Q1456 v0 s0 s1 h = some o) : Ψ o (f_X8_init_487 n K1456 v0 s0 s1 g) := by
  unfold f_X8_init_487 at hf ⊢
  obtain ⟨c1, hf⟩ := ite_some hf
  refine zif (z_okI Z c1) ?_
  exact z_X8_init_493 HK1456 bv0 bs0 bs1 (RR_si Z bs1 (ix 36) 32) hf
set_option maxRecDepth 100000 in
theorem z_X8_init_481 {L B : Nat} {g0 : Hp} {Ψ : Hp → Option Hp → Prop} {n : Nat} {K1456 Q1456 : Nat → Hp → Option Hp} (HK1456 : ∀ (v0 : Nat), B ≤ v0 → ∀ (h g o : Hp), RRL L B g0 h g → Q1456 v0 h = some o → Ψ o (K1456 v0 g)) {v0 : Nat} {s0 : Nat} {s1 : Nat} (bv0 : B ≤ v0) (bs0 : B ≤ s0) (bs1 : B ≤ s1) {h g o : Hp} (Z : RRL L B g0 h g) (hf : f_X8_init_481 n Q1456 v0 s0 s1 h = some o) : Ψ o (f_X8_init_481 n K1456 v0 s0 s1 g) := by
  unfold f_X8_init_481 at hf ⊢
  obtain ⟨c1, hf⟩ := ite_some hf
  refine zif (z_okI Z c1) ?_
  exact z_X8_init_487 HK1456 bv0 bs0 bs1 (RR_si Z bs1 (ix 35) 48) hf
set_option maxRecDepth 100000 in
theorem z_X8_init_475 {L B : Nat} {g0 : Hp} {Ψ : Hp → Option Hp → Prop} {n : Nat} {K1456 Q1456 : Nat → Hp → Option Hp} (HK1456 : ∀ (v0 : Nat), B ≤ v0 → ∀ (h g o : Hp), RRL L B g0 h g → Q1456 v0 h = some o → Ψ o (K1456 v0 g)) {v0 : Nat} {s0 : Nat} {s1 : Nat} (bv0 : B ≤ v0) (bs0 : B ≤ s0) (bs1 : B ≤ s1) {h g o : Hp} (Z : RRL L B g0 h g) (hf : f_X8_init_475 n Q1456 v0 s0 s1 h = some o) : Ψ o (f_X8_init_475 n K1456 v0 s0 s1 g) := by
  unfold f_X8_init_475 at hf ⊢
  obtain ⟨c1, hf⟩ := ite_some hf
  refine zif (z_okI Z c1) ?_
  exact z_X8_init_481 HK1456 bv0 bs0 bs1 (RR_si Z bs1 (ix 34) 52) hf
set_option maxRecDepth 100000 in
theorem z_X8_init_469 {L B : Nat} {g0 : Hp} {Ψ : Hp → Option Hp → Prop} {n : Nat} {K1456 Q1456 : Nat → Hp → Option Hp} (HK1456 : ∀ (v0 : Nat), B ≤ v0 → ∀ (h g o : Hp), RRL L B g0 h g → Q1456 v0 h = some o → Ψ o (K1456 v0 g)) {v0 : Nat} {s0 : Nat} {s1 : Nat} (bv0 : B ≤ v0) (bs0 : B ≤ s0) (bs1 : B ≤ s1) {h g o : Hp} (Z : RRL L B g0 h g) (hf : f_X8_init_469 n Q1456 v0 s0 s1 h = some o) : Ψ o (f_X8_init_469 n K1456 v0 s0 s1 g) := by
  unfold f_X8_init_469 at hf ⊢
  obtain ⟨c1, hf⟩ := ite_some hf
  refine zif (z_okI Z c1) ?_
  exact z_X8_init_475 HK1456 bv0 bs0 bs1 (RR_si Z bs1 (ix 33) 32) hf
set_option maxRecDepth 100000 in
theorem z_X8_init_463 {L B : Nat} {g0 : Hp} {Ψ : Hp → Option Hp → Prop} {n : Nat} {K1456 Q1456 : Nat → Hp → Option Hp} (HK1456 : ∀ (v0 : Nat), B ≤ v0 → ∀ (h g o : Hp), RRL L B g0 h g → Q1456 v0 h = some o → Ψ o (K1456 v0 g)) {v0 : Nat} {s0 : Nat} {s1 : Nat} (bv0 : B ≤ v0) (bs0 : B ≤ s0) (bs1 : B ≤ s1) {h g o : Hp} (Z : RRL L B g0 h g) (hf : f_X8_init_463 n Q1456 v0 s0 s1 h = some o) : Ψ o (f_X8_init_463 n K1456 v0 s0 s1 g) := by
  unfold f_X8_init_463 at hf ⊢
  obtain ⟨c1, hf⟩ := ite_some hf
  refine zif (z_okI Z c1) ?_
  exact z_X8_init_469 HK1456 bv0 bs0 bs1 (RR_si Z bs1 (ix 32) 115) hf
set_option maxRecDepth 100000 in
theorem z_X8_init_457 {L B : Nat} {g0 : Hp} {Ψ : Hp → Option Hp → Prop} {n : Nat} {K1456 Q1456 : Nat → Hp → Option Hp} (HK1456 : ∀ (v0 : Nat), B ≤ v0 → ∀ (h g o : Hp), RRL L B g0 h g → Q1456 v0 h = some o → Ψ o (K1456 v0 g)) {v0 : Nat} {s0 : Nat} {s1 : Nat} (bv0 : B ≤ v0) (bs0 : B ≤ s0) (bs1 : B ≤ s1) {h g o : Hp} (Z : RRL L B g0 h g) (hf : f_X8_init_457 n Q1456 v0 s0 s1 h = some o) : Ψ o (f_X8_init_457 n K1456 v0 s0 s1 g) := by
  unfold f_X8_init_457 at hf ⊢
  obtain ⟨c1, hf⟩ := ite_some hf
  refine zif (z_okI Z c1) ?_
  exact z_X8_init_463 HK1456 bv0 bs0 bs1 (RR_si Z bs1 (ix 31) 114) hf
set_option maxRecDepth 100000 in
theorem z_X8_init_451 {L B : Nat} {g0 : Hp} {Ψ : Hp → Option Hp → Prop} {n : Nat} {K1456 Q1456 : Nat → Hp → Option Hp} (HK1456 : ∀ (v0 : Nat), B ≤ v0 → ∀ (h g o : Hp), RRL L B g0 h g → Q1456 v0 h = some o → Ψ o (K1456 v0 g)) {v0 : Nat} {s0 : Nat} {s1 : Nat} (bv0 : B ≤ v0) (bs0 : B ≤ s0) (bs1 : B ≤ s1) {h g o : Hp} (Z : RRL L B g0 h g) (hf : f_X8_init_451 n Q1456 v0 s0 s1 h = some o) : Ψ o (f_X8_init_451 n K1456 v0 s0 s1 g) := by
  unfold f_X8_init_451 at hf ⊢
  obtain ⟨c1, hf⟩ := ite_some hf
  refine zif (z_okI Z c1) ?_
  exact z_X8_init_457 HK1456 bv0 bs0 bs1 (RR_si Z bs1 (ix 30) 97) hf
set_option maxRecDepth 100000 in
theorem z_X8_init_445 {L B : Nat} {g0 : Hp} {Ψ : Hp → Option Hp → Prop} {n : Nat} {K1456 Q1456 : Nat → Hp → Option Hp} (HK1456 : ∀ (v0 : Nat), B ≤ v0 → ∀ (h g o : Hp), RRL L B g0 h g → Q1456 v0 h = some o → Ψ o (K1456 v0 g)) {v0 : Nat} {s0 : Nat} {s1 : Nat} (bv0 : B ≤ v0) (bs0 : B ≤ s0) (bs1 : B ≤ s1) {h g o : Hp} (Z : RRL L B g0 h g) (hf : f_X8_init_445 n Q1456 v0 s0 s1 h = some o) : Ψ o (f_X8_init_445 n K1456 v0 s0 s1 g) := by
  unfold f_X8_init_445 at hf ⊢
  obtain ⟨c1, hf⟩ := ite_some hf
  refine zif (z_okI Z c1) ?_
  exact z_X8_init_451 HK1456 bv0 bs0 bs1 (RR_si Z bs1 (ix 29) 101) hf
set_option maxRecDepth 100000 in
theorem z_X8_init_439 {L B : Nat} {g0 : Hp} {Ψ : Hp → Option Hp → Prop} {n : Nat} {K1456 Q1456 : Nat → Hp → Option Hp} (HK1456 : ∀ (v0 : Nat), B ≤ v0 → ∀ (h g o : Hp), RRL L B g0 h g → Q1456 v0 h = some o → Ψ o (K1456 v0 g)) {v0 : Nat} {s0 : Nat} {s1 : Nat} (bv0 : B ≤ v0) (bs0 : B ≤ s0) (bs1 : B ≤ s1) {h g o : Hp} (Z : RRL L B g0 h g) (hf : f_X8_init_439 n Q1456 v0 s0 s1 h = some o) : Ψ o (f_X8_init_439 n K1456 v0 s0 s1 g) := by
  unfold f_X8_init_439 at hf ⊢
  obtain ⟨c1, hf⟩ := ite_some hf
  refine zif (z_okI Z c1) ?_
  exact z_X8_init_445 HK1456 bv0 bs0 bs1 (RR_si Z bs1 (ix 28) 116) hf
set_option maxRecDepth 100000 in
theorem z_X8_init_433 {L B : Nat} {g0 : Hp} {Ψ : Hp → Option Hp → Prop} {n : Nat} {K1456 Q1456 : Nat → Hp → Option Hp} (HK1456 : ∀ (v0 : Nat), B ≤ v0 → ∀ (h g o : Hp), RRL L B g0 h g → Q1456 v0 h = some o → Ψ o (K1456 v0 g)) {v0 : Nat} {s0 : Nat} {s1 : Nat} (bv0 : B ≤ v0) (bs0 : B ≤ s0) (bs1 : B ≤ s1) {h g o : Hp} (Z : RRL L B g0 h g) (hf : f_X8_init_433 n Q1456 v0 s0 s1 h = some o) : Ψ o (f_X8_init_433 n K1456 v0 s0 s1 g) := by
  unfold f_X8_init_433 at hf ⊢
  obtain ⟨c1, hf⟩ := ite_some hf
  refine zif (z_okI Z c1) ?_
  exact z_X8_init_439 HK1456 bv0 bs0 bs1 (RR_si Z bs1 (ix 27) 32) hf
set_option maxRecDepth 100000 in
theorem z_X8_init_427 {L B : Nat} {g0 : Hp} {Ψ : Hp → Option Hp → Prop} {n : Nat} {K1456 Q1456 : Nat → Hp → Option Hp} (HK1456 : ∀ (v0 : Nat), B ≤ v0 → ∀ (h g o : Hp), RRL L B g0 h g → Q1456 v0 h = some o → Ψ o (K1456 v0 g)) {v0 : Nat} {s0 : Nat} {s1 : Nat} (bv0 : B ≤ v0) (bs0 : B ≤ s0) (bs1 : B ≤ s1) {h g o : Hp} (Z : RRL L B g0 h g) (hf : f_X8_init_427 n Q1456 v0 s0 s1 h = some o) : Ψ o (f_X8_init_427 n K1456 v0 s0 s1 g) := by
  unfold f_X8_init_427 at hf ⊢
  obtain ⟨c1, hf⟩ := ite_some hf
  refine zif (z_okI Z c1) ?_
  exact z_X8_init_433 HK1456 bv0 bs0 bs1 (RR_si Z bs1 (ix 26) 59) hf
set_option maxRecDepth 100000 in
theorem z_X8_init_421 {L B : Nat} {g0 : Hp} {Ψ : Hp → Option Hp → Prop} {n : Nat} {K1456 Q1456 : Nat → Hp → Option Hp} (HK1456 : ∀ (v0 : Nat), B ≤ v0 → ∀ (h g o : Hp), RRL L B g0 h g → Q1456 v0 h = some o → Ψ o (K1456 v0 g)) {v0 : Nat} {s0 : Nat} {s1 : Nat} (bv0 : B ≤ v0) (bs0 : B ≤ s0) (bs1 : B ≤ s1) {h g o : Hp} (Z : RRL L B g0 h g) (hf : f_X8_init_421 n Q1456 v0 s0 s1 h = some o) : Ψ o (f_X8_init_421 n K1456 v0 s0 s1 g) := by
  unfold f_X8_init_421 at hf ⊢
  obtain ⟨c1, hf⟩ := ite_some hf
  refine zif (z_okI Z c1) ?_
  exact z_X8_init_427 HK1456 bv0 bs0 bs1 (RR_si Z bs1 (ix 25) 32) hf
set_option maxRecDepth 100000 in
theorem z_X8_init_415 {L B : Nat} {g0 : Hp} {Ψ : Hp → Option Hp → Prop} {n : Nat} {K1456 Q1456 : Nat → Hp → Option Hp} (HK1456 : ∀ (v0 : Nat), B ≤ v0 → ∀ (h g o : Hp), RRL L B g0 h g → Q1456 v0 h = some o → Ψ o (K1456 v0 g)) {v0 : Nat} {s0 : Nat} {s1 : Nat} (bv0 : B ≤ v0) (bs0 : B ≤ s0) (bs1 : B ≤ s1) {h g o : Hp} (Z : RRL L B g0 h g) (hf : f_X8_init_415 n Q1456 v0 s0 s1 h = some o) : Ψ o (f_X8_init_415 n K1456 v0 s0 s1 g) := by
  unfold f_X8_init_415 at hf ⊢
  obtain ⟨c1, hf⟩ := ite_some hf
  refine zif (z_okI Z c1) ?_
  exact z_X8_init_421 HK1456 bv0 bs0 bs1 (RR_si Z bs1 (ix 24) 102) hf
set_option maxRecDepth 100000 in
theorem z_X8_init_409 {L B : Nat} {g0 : Hp} {Ψ : Hp → Option Hp → Prop} {n : Nat} {K1456 Q1456 : Nat → Hp → Option Hp} (HK1456 : ∀ (v0 : Nat), B ≤ v0 → ∀ (h g o : Hp), RRL L B g0 h g → Q1456 v0 h = some o → Ψ o (K1456 v0 g)) {v0 : Nat} {s0 : Nat} {s1 : Nat} (bv0 : B ≤ v0) (bs0 : B ≤ s0) (bs1 : B ≤ s1) {h g o : Hp} (Z : RRL L B g0 h g) (hf : f_X8_init_409 n Q1456 v0 s0 s1 h = some o) : Ψ o (f_X8_init_409 n K1456 v0 s0 s1 g) := by
  unfold f_X8_init_409 at hf ⊢
  obtain ⟨c1, hf⟩ := ite_some hf
  refine zif (z_okI Z c1) ?_
  exact z_X8_init_415 HK1456 bv0 bs0 bs1 (RR_si Z bs1 (ix 23) 102) hf
set_option maxRecDepth 100000 in
theorem z_X8_init_403 {L B : Nat} {g0 : Hp} {Ψ : Hp → Option Hp → Prop} {n : Nat} {K1456 Q1456 : Nat → Hp → Option Hp} (HK1456 : ∀ (v0 : Nat), B ≤ v0 → ∀ (h g o : Hp), RRL L B g0 h g → Q1456 v0 h = some o → Ψ o (K1456 v0 g)) {v0 : Nat} {s0 : Nat} {s1 : Nat} (bv0 : B ≤ v0) (bs0 : B ≤ s0) (bs1 : B ≤ s1) {h g o : Hp} (Z : RRL L B g0 h g) (hf : f_X8_init_403 n Q1456 v0 s0 s1 h = some o) : Ψ o (f_X8_init_403 n K1456 v0 s0 s1 g) := by
  unfold f_X8_init_403 at hf ⊢
  obtain ⟨c1, hf⟩ := ite_some hf
  refine zif (z_okI Z c1) ?_
  exact z_X8_init_409 HK1456 bv0 bs0 bs1 (RR_si Z bs1 (ix 22) 105) hf
set_option maxRecDepth 100000 in
theorem z_X8_init_397 {L B : Nat} {g0 : Hp} {Ψ : Hp → Option Hp → Prop} {n : Nat} {K1456 Q1456 : Nat → Hp → Option Hp} (HK1456 : ∀ (v0 : Nat), B ≤ v0 → ∀ (h g o : Hp), RRL L B g0 h g → Q1456 v0 h = some o → Ψ o (K1456 v0 g)) {v0 : Nat} {s0 : Nat} {s1 : Nat} (bv0 : B ≤ v0) (bs0 : B ≤ s0) (bs1 : B ≤ s1) {h g o : Hp} (Z : RRL L B g0 h g) (hf : f_X8_init_397 n Q1456 v0 s0 s1 h = some o) : Ψ o (f_X8_init_397 n K1456 v0 s0 s1 g) := by
  unfold f_X8_init_397 at hf ⊢
  obtain ⟨c1, hf⟩ := ite_some hf
  refine zif (z_okI Z c1) ?_
  exact z_X8_init_403 HK1456 bv0 bs0 bs1 (RR_si Z bs1 (ix 21) 116) hf
set_option maxRecDepth 100000 in
theorem z_X8_init_391 {L B : Nat} {g0 : Hp} {Ψ : Hp → Option Hp → Prop} {n : Nat} {K1456 Q1456 : Nat → Hp → Option Hp} (HK1456 : ∀ (v0 : Nat), B ≤ v0 → ∀ (h g o : Hp), RRL L B g0 h g → Q1456 v0 h = some o → Ψ o (K1456 v0 g)) {v0 : Nat} {s0 : Nat} {s1 : Nat} (bv0 : B ≤ v0) (bs0 : B ≤ s0) (bs1 : B ≤ s1) {h g o : Hp} (Z : RRL L B g0 h g) (hf : f_X8_init_391 n Q1456 v0 s0 s1 h = some o) : Ψ o (f_X8_init_391 n K1456 v0 s0 s1 g) := by
  unfold f_X8_init_391 at hf ⊢
  obtain ⟨c1, hf⟩ := ite_some hf
  refine zif (z_okI Z c1) ?_
  exact z_X8_init_397 HK1456 bv0 bs0 bs1 (RR_si Z bs1 (ix 20) 115) hf
set_option maxRecDepth 100000 in
theorem z_X8_init_385 {L B : Nat} {g0 : Hp} {Ψ : Hp → Option Hp → Prop} {n : Nat} {K1456 Q1456 : Nat → Hp → Option Hp} (HK1456 : ∀ (v0 : Nat), B ≤ v0 → ∀ (h g o : Hp), RRL L B g0 h g → Q1456 v0 h = some o → Ψ o (K1456 v0 g)) {v0 : Nat} {s0 : Nat} {s1 : Nat} (bv0 : B ≤ v0) (bs0 : B ≤ s0) (bs1 : B ≤ s1) {h g o : Hp} (Z : RRL L B g0 h g) (hf : f_X8_init_385 n Q1456 v0 s0 s1 h = some o) : Ψ o (f_X8_init_385 n K1456 v0 s0 s1 g) := by
  unfold f_X8_init_385 at hf ⊢
  obtain ⟨c1, hf⟩ := ite_some hf
  refine zif (z_okI Z c1) ?_
  exact z_X8_init_391 HK1456 bv0 bs0 bs1 (RR_si Z bs1 (ix 19) 32) hf
set_option maxRecDepth 100000 in
theorem z_X8_init_379 {L B : Nat} {g0 : Hp} {Ψ : Hp → Option Hp → Prop} {n : Nat} {K1456 Q1456 : Nat → Hp → Option Hp} (HK1456 : ∀ (v0 : Nat), B ≤ v0 → ∀ (h g o : Hp), RRL L B g0 h g → Q1456 v0 h = some o → Ψ o (K1456 v0 g)) {v0 : Nat} {s0 : Nat} {s1 : Nat} (bv0 : B ≤ v0) (bs0 : B ≤ s0) (bs1 : B ≤ s1) {h g o : Hp} (Z : RRL L B g0 h g) (hf : f_X8_init_379 n Q1456 v0 s0 s1 h = some o) : Ψ o (f_X8_init_379 n K1456 v0 s0 s1 g) := by
  unfold f_X8_init_379 at hf ⊢
  obtain ⟨c1, hf⟩ := ite_some hf
  refine zif (z_okI Z c1) ?_
  exact z_X8_init_385 HK1456 bv0 bs0 bs1 (RR_si Z bs1 (ix 18) 45) hf
set_option maxRecDepth 100000 in
theorem z_X8_init_373 {L B : Nat} {g0 : Hp} {Ψ : Hp → Option Hp → Prop} {n : Nat} {K1456 Q1456 : Nat → Hp → Option Hp} (HK1456 : ∀ (v0 : Nat), B ≤ v0 → ∀ (h g o : Hp), RRL L B g0 h g → Q1456 v0 h = some o → Ψ o (K1456 v0 g)) {v0 : Nat} {s0 : Nat} {s1 : Nat} (bv0 : B ≤ v0) (bs0 : B ≤ s0) (bs1 : B ≤ s1) {h g o : Hp} (Z : RRL L B g0 h g) (hf : f_X8_init_373 n Q1456 v0 s0 s1 h = some o) : Ψ o (f_X8_init_373 n K1456 v0 s0 s1 g) := by
  unfold f_X8_init_373 at hf ⊢
  obtain ⟨c1, hf⟩ := ite_some hf
  refine zif (z_okI Z c1) ?_
  exact z_X8_init_379 HK1456 bv0 bs0 bs1 (RR_si Z bs1 (ix 17) 32) hf
set_option maxRecDepth 100000 in
theorem z_X8_init_367 {L B : Nat} {g0 : Hp} {Ψ : Hp → Option Hp → Prop} {n : Nat} {K1456 Q1456 : Nat → Hp → Option Hp} (HK1456 : ∀ (v0 : Nat), B ≤ v0 → ∀ (h g o : Hp), RRL L B g0 h g → Q1456 v0 h = some o → Ψ o (K1456 v0 g)) {v0 : Nat} {s0 : Nat} {s1 : Nat} (bv0 : B ≤ v0) (bs0 : B ≤ s0) (bs1 : B ≤ s1) {h g o : Hp} (Z : RRL L B g0 h g) (hf : f_X8_init_367 n Q1456 v0 s0 s1 h = some o) : Ψ o (f_X8_init_367 n K1456 v0 s0 s1 g) := by
  unfold f_X8_init_367 at hf ⊢
  obtain ⟨c1, hf⟩ := ite_some hf
  refine zif (z_okI Z c1) ?_
  exact z_X8_init_373 HK1456 bv0 bs0 bs1 (RR_si Z bs1 (ix 16) 50) hf
set_option maxRecDepth 100000 in
theorem z_X8_init_361 {L B : Nat} {g0 : Hp} {Ψ : Hp → Option Hp → Prop} {n : Nat} {K1456 Q1456 : Nat → Hp → Option Hp} (HK1456 : ∀ (v0 : Nat), B ≤ v0 → ∀ (h g o : Hp), RRL L B g0 h g → Q1456 v0 h = some o → Ψ o (K1456 v0 g)) {v0 : Nat} {s0 : Nat} {s1 : Nat} (bv0 : B ≤ v0) (bs0 : B ≤ s0) (bs1 : B ≤ s1) {h g o : Hp} (Z : RRL L B g0 h g) (hf : f_X8_init_361 n Q1456 v0 s0 s1 h = some o) : Ψ o (f_X8_init_361 n K1456 v0 s0 s1 g) := by
  unfold f_X8_init_361 at hf ⊢
  obtain ⟨c1, hf⟩ := ite_some hf
  refine zif (z_okI Z c1) ?_
  exact z_X8_init_367 HK1456 bv0 bs0 bs1 (RR_si Z bs1 (ix 15) 32) hf
set_option maxRecDepth 100000 in
theorem z_X8_init_355 {L B : Nat} {g0 : Hp} {Ψ : Hp → Option Hp → Prop} {n : Nat} {K1456 Q1456 : Nat → Hp → Option Hp} (HK1456 : ∀ (v0 : Nat), B ≤ v0 → ∀ (h g o : Hp), RRL L B g0 h g → Q1456 v0 h = some o → Ψ o (K1456 v0 g)) {v0 : Nat} {s0 : Nat} {s1 : Nat} (bv0 : B ≤ v0) (bs0 : B ≤ s0) (bs1 : B ≤ s1) {h g o : Hp} (Z : RRL L B g0 h g) (hf : f_X8_init_355 n Q1456 v0 s0 s1 h = some o) : Ψ o (f_X8_init_355 n K1456 v0 s0 s1 g) := by
  unfold f_X8_init_355 at hf ⊢
  obtain ⟨c1, hf⟩ := ite_some hf
  refine zif (z_okI Z c1) ?_
  exact z_X8_init_361 HK1456 bv0 bs0 bs1 (RR_si Z bs1 (ix 14) 42) hf
set_option maxRecDepth 100000 in
theorem z_X8_init_349 {L B : Nat} {g0 : Hp} {Ψ : Hp → Option Hp → Prop} {n : Nat} {K1456 Q1456 : Nat → Hp → Option Hp} (HK1456 : ∀ (v0 : Nat), B ≤ v0 → ∀ (h g o : Hp), RRL L B g0 h g → Q1456 v0 h = some o → Ψ o (K1456 v0 g)) {v0 : Nat} {s0 : Nat} {s1 : Nat} (bv0 : B ≤ v0) (bs0 : B ≤ s0) (bs1 : B ≤ s1) {h g o : Hp} (Z : RRL L B g0 h g) (hf : f_X8_init_349 n Q1456 v0 s0 s1 h = some o) : Ψ o (f_X8_init_349 n K1456 v0 s0 s1 g) := by
  unfold f_X8_init_349 at hf ⊢
  obtain ⟨c1, hf⟩ := ite_some hf
  refine zif (z_okI Z c1) ?_
  exact z_X8_init_355 HK1456 bv0 bs0 bs1 (RR_si Z bs1 (ix 13) 32) hf
set_option maxRecDepth 100000 in
theorem z_X8_init_343 {L B : Nat} {g0 : Hp} {Ψ : Hp → Option Hp → Prop} {n : Nat} {K1456 Q1456 : Nat → Hp → Option Hp} (HK1456 : ∀ (v0 : Nat), B ≤ v0 → ∀ (h g o : Hp), RRL L B g0 h g → Q1456 v0 h = some o → Ψ o (K1456 v0 g)) {v0 : Nat} {s0 : Nat} {s1 : Nat} (bv0 : B ≤ v0) (bs0 : B ≤ s0) (bs1 : B ≤ s1) {h g o : Hp} (Z : RRL L B g0 h g) (hf : f_X8_init_343 n Q1456 v0 s0 s1 h = some o) : Ψ o (f_X8_init_343 n K1456 v0 s0 s1 g) := by
  unfold f_X8_init_343 at hf ⊢
  obtain ⟨c1, hf⟩ := ite_some hf
  refine zif (z_okI Z c1) ?_
  exact z_X8_init_349 HK1456 bv0 bs0 bs1 (RR_si Z bs1 (ix 12) 116) hf
set_option maxRecDepth 100000 in
theorem z_X8_init_337 {L B : Nat} {g0 : Hp} {Ψ : Hp → Option Hp → Prop} {n : Nat} {K1456 Q1456 : Nat → Hp → Option Hp} (HK1456 : ∀ (v0 : Nat), B ≤ v0 → ∀ (h g o : Hp), RRL L B g0 h g → Q1456 v0 h = some o → Ψ o (K1456 v0 g)) {v0 : Nat} {s0 : Nat} {s1 : Nat} (bv0 : B ≤ v0) (bs0 : B ≤ s0) (bs1 : B ≤ s1) {h g o : Hp} (Z : RRL L B g0 h g) (hf : f_X8_init_337 n Q1456 v0 s0 s1 h = some o) : Ψ o (f_X8_init_337 n K1456 v0 s0 s1 g) := by
  unfold f_X8_init_337 at hf ⊢
  obtain ⟨c1, hf⟩ := ite_some hf
  refine zif (z_okI Z c1) ?_
  exact z_X8_init_343 HK1456 bv0 bs0 bs1 (RR_si Z bs1 (ix 11) 101) hf
set_option maxRecDepth 100000 in
theorem z_X8_init_331 {L B : Nat} {g0 : Hp} {Ψ : Hp → Option Hp → Prop} {n : Nat} {K1456 Q1456 : Nat → Hp → Option Hp} (HK1456 : ∀ (v0 : Nat), B ≤ v0 → ∀ (h g o : Hp), RRL L B g0 h g → Q1456 v0 h = some o → Ψ o (K1456 v0 g)) {v0 : Nat} {s0 : Nat} {s1 : Nat} (bv0 : B ≤ v0) (bs0 : B ≤ s0) (bs1 : B ≤ s1) {h g o : Hp} (Z : RRL L B g0 h g) (hf : f_X8_init_331 n Q1456 v0 s0 s1 h = some o) : Ψ o (f_X8_init_331 n K1456 v0 s0 s1 g) := by
  unfold f_X8_init_331 at hf ⊢
  obtain ⟨c1, hf⟩ := ite_some hf
  refine zif (z_okI Z c1) ?_
  exact z_X8_init_337 HK1456 bv0 bs0 bs1 (RR_si Z bs1 (ix 10) 119) hf
set_option maxRecDepth 100000 in
theorem z_X8_init_325 {L B : Nat} {g0 : Hp} {Ψ : Hp → Option Hp → Prop} {n : Nat} {K1456 Q1456 : Nat → Hp → Option Hp} (HK1456 : ∀ (v0 : Nat), B ≤ v0 → ∀ (h g o : Hp), RRL L B g0 h g → Q1456 v0 h = some o → Ψ o (K1456 v0 g)) {v0 : Nat} {s0 : Nat} {s1 : Nat} (bv0 : B ≤ v0) (bs0 : B ≤ s0) (bs1 : B ≤ s1) {h g o : Hp} (Z : RRL L B g0 h g) (hf : f_X8_init_325 n Q1456 v0 s0 s1 h = some o) : Ψ o (f_X8_init_325 n K1456 v0 s0 s1 g) := by
  unfold f_X8_init_325 at hf ⊢
  obtain ⟨c1, hf⟩ := ite_some hf
  refine zif (z_okI Z c1) ?_
  exact z_X8_init_331 HK1456 bv0 bs0 bs1 (RR_si Z bs1 (ix 9) 32) hf
set_option maxRecDepth 100000 in
theorem z_X8_init_319 {L B : Nat} {g0 : Hp} {Ψ : Hp → Option Hp → Prop} {n : Nat} {K1456 Q1456 : Nat → Hp → Option Hp} (HK1456 : ∀ (v0 : Nat), B ≤ v0 → ∀ (h g o : Hp), RRL L B g0 h g → Q1456 v0 h = some o → Ψ o (K1456 v0 g)) {v0 : Nat} {s0 : Nat} {s1 : Nat} (bv0 : B ≤ v0) (bs0 : B ≤ s0) (bs1 : B ≤ s1) {h g o : Hp} (Z : RRL L B g0 h g) (hf : f_X8_init_319 n Q1456 v0 s0 s1 h = some o) : Ψ o (f_X8_init_319 n K1456 v0 s0 s1 g) := by
  unfold f_X8_init_319 at hf ⊢
  obtain ⟨c1, hf⟩ := ite_some hf
  refine zif (z_okI Z c1) ?_
  exact z_X8_init_325 HK1456 bv0 bs0 bs1 (RR_si Z bs1 (ix 8) 43) hf
set_option maxRecDepth 100000 in
theorem z_X8_init_313 {L B : Nat} {g0 : Hp} {Ψ : Hp → Option Hp → Prop} {n : Nat} {K1456 Q1456 : Nat → Hp → Option Hp} (HK1456 : ∀ (v0 : Nat), B ≤ v0 → ∀ (h g o : Hp), RRL L B g0 h g → Q1456 v0 h = some o → Ψ o (K1456 v0 g)) {v0 : Nat} {s0 : Nat} {s1 : Nat} (bv0 : B ≤ v0) (bs0 : B ≤ s0) (bs1 : B ≤ s1) {h g o : Hp} (Z : RRL L B g0 h g) (hf : f_X8_init_313 n Q1456 v0 s0 s1 h = some o) : Ψ o (f_X8_init_313 n K1456 v0 s0 s1 g) := by
  unfold f_X8_init_313 at hf ⊢
  obtain ⟨c1, hf⟩ := ite_some hf
  refine zif (z_okI Z c1) ?_
  exact z_X8_init_319 HK1456 bv0 bs0 bs1 (RR_si Z bs1 (ix 7) 32) hf
set_option maxRecDepth 100000 in
theorem z_X8_init_307 {L B : Nat} {g0 : Hp} {Ψ : Hp → Option Hp → Prop} {n : Nat} {K1456 Q1456 : Nat → Hp → Option Hp} (HK1456 : ∀ (v0 : Nat), B ≤ v0 → ∀ (h g o : Hp), RRL L B g0 h g → Q1456 v0 h = some o → Ψ o (K1456 v0 g)) {v0 : Nat} {s0 : Nat} {s1 : Nat} (bv0 : B ≤ v0) (bs0 : B ≤ s0) (bs1 : B ≤ s1) {h g o : Hp} (Z : RRL L B g0 h g) (hf : f_X8_init_307 n Q1456 v0 s0 s1 h = some o) : Ψ o (f_X8_init_307 n K1456 v0 s0 s1 g) := by
  unfold f_X8_init_307 at hf ⊢
  obtain ⟨c1, hf⟩ := ite_some hf
  refine zif (z_okI Z c1) ?_
  exact z_X8_init_313 HK1456 bv0 bs0 bs1 (RR_si Z bs1 (ix 6) 48) hf
set_option maxRecDepth 100000 in
theorem z_X8_init_302 {L B : Nat} {g0 : Hp} {Ψ : Hp → Option Hp → Prop} {n : Nat} {K1456 Q1456 : Nat → Hp → Option Hp} (HK1456 : ∀ (v0 : Nat), B ≤ v0 → ∀ (h g o : Hp), RRL L B g0 h g → Q1456 v0 h = some o → Ψ o (K1456 v0 g)) {v0 : Nat} {s0 : Nat} {s1 : Nat} (bv0 : B ≤ v0) (bs0 : B ≤ s0) (bs1 : B ≤ s1) {h g o : Hp} (Z : RRL L B g0 h g) (hf : f_X8_init_302 n Q1456 v0 s0 s1 h = some o) : Ψ o (f_X8_init_302 n K1456 v0 s0 s1 g) := by
  unfold f_X8_init_302 at hf ⊢
  obtain ⟨c1, hf⟩ := ite_some hf
  refine zif (z_okI Z c1) ?_
  exact z_X8_init_307 HK1456 bv0 bs0 bs1 (RR_si Z bs1 (ix 5) 50) hf
set_option maxRecDepth 100000 in
theorem z_X8_init_297 {L B : Nat} {g0 : Hp} {Ψ : Hp → Option Hp → Prop} {n : Nat} {K1456 Q1456 : Nat → Hp → Option Hp} (HK1456 : ∀ (v0 : Nat), B ≤ v0 → ∀ (h g o : Hp), RRL L B g0 h g → Q1456 v0 h = some o → Ψ o (K1456 v0 g)) {v0 : Nat} {s0 : Nat} {s1 : Nat} (bv0 : B ≤ v0) (bs0 : B ≤ s0) (bs1 : B ≤ s1) {h g o : Hp} (Z : RRL L B g0 h g) (hf : f_X8_init_297 n Q1456 v0 s0 s1 h = some o) : Ψ o (f_X8_init_297 n K1456 v0 s0 s1 g) := by
  unfold f_X8_init_297 at hf ⊢
  obtain ⟨c1, hf⟩ := ite_some hf
  refine zif (z_okI Z c1) ?_
  exact z_X8_init_302 HK1456 bv0 bs0 bs1 (RR_si Z bs1 (ix 4) 32) hf
set_option maxRecDepth 100000 in
theorem z_X8_init_292 {L B : Nat} {g0 : Hp} {Ψ : Hp → Option Hp → Prop} {n : Nat} {K1456 Q1456 : Nat → Hp → Option Hp} (HK1456 : ∀ (v0 : Nat), B ≤ v0 → ∀ (h g o : Hp), RRL L B g0 h g → Q1456 v0 h = some o → Ψ o (K1456 v0 g)) {v0 : Nat} {s0 : Nat} {s1 : Nat} (bv0 : B ≤ v0) (bs0 : B ≤ s0) (bs1 : B ≤ s1) {h g o : Hp} (Z : RRL L B g0 h g) (hf : f_X8_init_292 n Q1456 v0 s0 s1 h = some o) : Ψ o (f_X8_init_292 n K1456 v0 s0 s1 g) := by
  unfold f_X8_init_292 at hf ⊢
  obtain ⟨c1, hf⟩ := ite_some hf
  refine zif (z_okI Z c1) ?_
  exact z_X8_init_297 HK1456 bv0 bs0 bs1 (RR_si Z bs1 (ix 3) 119) hf
set_option maxRecDepth 100000 in
theorem z_X8_init_287 {L B : Nat} {g0 : Hp} {Ψ : Hp → Option Hp → Prop} {n : Nat} {K1456 Q1456 : Nat → Hp → Option Hp} (HK1456 : ∀ (v0 : Nat), B ≤ v0 → ∀ (h g o : Hp), RRL L B g0 h g → Q1456 v0 h = some o → Ψ o (K1456 v0 g)) {v0 : Nat} {s0 : Nat} {s1 : Nat} (bv0 : B ≤ v0) (bs0 : B ≤ s0) (bs1 : B ≤ s1) {h g o : Hp} (Z : RRL L B g0 h g) (hf : f_X8_init_287 n Q1456 v0 s0 s1 h = some o) : Ψ o (f_X8_init_287 n K1456 v0 s0 s1 g) := by
  unfold f_X8_init_287 at hf ⊢
  obtain ⟨c1, hf⟩ := ite_some hf
  refine zif (z_okI Z c1) ?_
  exact z_X8_init_292 HK1456 bv0 bs0 bs1 (RR_si Z bs1 (ix 2) 97) hf
set_option maxRecDepth 100000 in
theorem z_X8_init_282 {L B : Nat} {g0 : Hp} {Ψ : Hp → Option Hp → Prop} {n : Nat} {K1456 Q1456 : Nat → Hp → Option Hp} (HK1456 : ∀ (v0 : Nat), B ≤ v0 → ∀ (h g o : Hp), RRL L B g0 h g → Q1456 v0 h = some o → Ψ o (K1456 v0 g)) {v0 : Nat} {s0 : Nat} {s1 : Nat} (bv0 : B ≤ v0) (bs0 : B ≤ s0) (bs1 : B ≤ s1) {h g o : Hp} (Z : RRL L B g0 h g) (hf : f_X8_init_282 n Q1456 v0 s0 s1 h = some o) : Ψ o (f_X8_init_282 n K1456 v0 s0 s1 g) := by
  unfold f_X8_init_282 at hf ⊢
  obtain ⟨c1, hf⟩ := ite_some hf
  refine zif (z_okI Z c1) ?_
  exact z_X8_init_287 HK1456 bv0 bs0 bs1 (RR_si Z bs1 (ix 1) 114) hf
set_option maxRecDepth 100000 in
theorem z_X8_init_277 {L B : Nat} {g0 : Hp} {Ψ : Hp → Option Hp → Prop} {n : Nat} {K1456 Q1456 : Nat → Hp → Option Hp} (HK1456 : ∀ (v0 : Nat), B ≤ v0 → ∀ (h g o : Hp), RRL L B g0 h g → Q1456 v0 h = some o → Ψ o (K1456 v0 g)) {v0 : Nat} {s0 : Nat} {s1 : Nat} (bv0 : B ≤ v0) (bs0 : B ≤ s0) (bs1 : B ≤ s1) {h g o : Hp} (Z : RRL L B g0 h g) (hf : f_X8_init_277 n Q1456 v0 s0 s1 h = some o) : Ψ o (f_X8_init_277 n K1456 v0 s0 s1 g) := by
  unfold f_X8_init_277 at hf ⊢
  obtain ⟨c1, hf⟩ := ite_some hf
  refine zif (z_okI Z c1) ?_
  exact z_X8_init_282 HK1456 bv0 bs0 bs1 (RR_si Z bs1 (ix 0) 100) hf
set_option maxRecDepth 100000 in
theorem z_X8_init_272 {L B : Nat} {g0 : Hp} {Ψ : Hp → Option Hp → Prop} {n : Nat} {K1456 Q1456 : Nat → Hp → Option Hp} (HK1456 : ∀ (v0 : Nat), B ≤ v0 → ∀ (h g o : Hp), RRL L B g0 h g → Q1456 v0 h = some o → Ψ o (K1456 v0 g)) {v0 : Nat} (bv0 : B ≤ v0) {h g o : Hp} (Z : RRL L B g0 h g) (hf : f_X8_init_272 n Q1456 v0 h = some o) : Ψ o (f_X8_init_272 n K1456 v0 g) := by
  unfold f_X8_init_272 at hf ⊢
  rw [RR_len Z]
  exact z_X8_init_277 HK1456 bv0 bv0 Z.2.1 (RR_new Z (q := (9, ix 83)) (by decide) (by decide)) hf
set_option maxRecDepth 100000 in
theorem z_X8_init_269 {L B : Nat} {g0 : Hp} {Ψ : Hp → Option Hp → Prop} {n : Nat} {K1456 Q1456 : Nat → Hp → Option Hp} (HK1456 : ∀ (v0 : Nat), B ≤ v0 → ∀ (h g o : Hp), RRL L B g0 h g → Q1456 v0 h = some o → Ψ o (K1456 v0 g)) {v0 : Nat} {s0 : Nat} {s1 : Nat} (bv0 : B ≤ v0) (bs0 : B ≤ s0) (bs1 : B ≤ s1) {h g o : Hp} (Z : RRL L B g0 h g) (hf : f_X8_init_269 n Q1456 v0 s0 s1 h = some o) : Ψ o (f_X8_init_269 n K1456 v0 s0 s1 g) := by
  unfold f_X8_init_269 at hf ⊢
  obtain ⟨c1, hf⟩ := ite_some hf
  refine zif (z_okO Z (by decide) c1) ?_
  obtain ⟨c2, hf⟩ := ite_some hf
  refine zif c2 ?_
  exact z_X8_init_272 HK1456 bv0 (RR_sr Z bs0 (j := 24) (by decide) bs1) hf
set_option maxRecDepth 100000 in
theorem z_X8_init_263 {L B : Nat} {g0 : Hp} {Ψ : Hp → Option Hp → Prop} {n : Nat} {K1456 Q1456 : Nat → Hp → Option Hp} (HK1456 : ∀ (v0 : Nat), B ≤ v0 → ∀ (h g o : Hp), RRL L B g0 h g → Q1456 v0 h = some o → Ψ o (K1456 v0 g)) {v0 : Nat} (bv0 : B ≤ v0) {h g o : Hp} (Z : RRL L B g0 h g) (hf : f_X8_init_263 n Q1456 v0 h = some o) : Ψ o (f_X8_init_263 n K1456 v0 g) := by
  unfold f_X8_init_263 at hf ⊢
  rw [RR_len Z]
  exact z_X8_init_269 HK1456 bv0 bv0 Z.2.1 (RR_new Z (q := (9, ix 160)) (by decide) (by decide)) hf
set_option maxRecDepth 100000 in
theorem z_X8_init_260 {L B : Nat} {g0 : Hp} {Ψ : Hp → Option Hp → Prop} {n : Nat} {K1456 Q1456 : Nat → Hp → Option Hp} (HK1456 : ∀ (v0 : Nat), B ≤ v0 → ∀ (h g o : Hp), RRL L B g0 h g → Q1456 v0 h = some o → Ψ o (K1456 v0 g)) {v0 : Nat} {s0 : Nat} {s1 : Nat} (bv0 : B ≤ v0) (bs0 : B ≤ s0) (bs1 : B ≤ s1) {h g o : Hp} (Z : RRL L B g0 h g) (hf : f_X8_init_260 n Q1456 v0 s0 s1 h = some o) : Ψ o (f_X8_init_260 n K1456 v0 s0 s1 g) := by
  unfold f_X8_init_260 at hf ⊢
  obtain ⟨c1, hf⟩ := ite_some hf
  refine zif (z_okO Z (by decide) c1) ?_
  obtain ⟨c2, hf⟩ := ite_some hf
  refine zif c2 ?_
  exact z_X8_init_263 HK1456 bv0 (RR_sr Z bs0 (j := 23) (by decide) bs1) hf
set_option maxRecDepth 100000 in
theorem z_X8_init_256 {L B : Nat} {g0 : Hp} {Ψ : Hp → Option Hp → Prop} {n : Nat} {K1456 Q1456 : Nat → Hp → Option Hp} (HK1456 : ∀ (v0 : Nat), B ≤ v0 → ∀ (h g o : Hp), RRL L B g0 h g → Q1456 v0 h = some o → Ψ o (K1456 v0 g)) {v0 : Nat} (bv0 : B ≤ v0) {h g o : Hp} (Z : RRL L B g0 h g) (hf : f_X8_init_256 n Q1456 v0 h = some o) : Ψ o (f_X8_init_256 n K1456 v0 g) := by
  unfold f_X8_init_256 at hf ⊢
  rw [RR_len Z]
  exact z_X8_init_260 HK1456 bv0 bv0 Z.2.1 (RR_new Z (q := (9, ix 4)) (by decide) (by decide)) hf
set_option maxRecDepth 100000 in
theorem z_X8_init_253 {L B : Nat} {g0 : Hp} {Ψ : Hp → Option Hp → Prop} {n : Nat} {K1456 Q1456 : Nat → Hp → Option Hp} (HK1456 : ∀ (v0 : Nat), B ≤ v0 → ∀ (h g o : Hp), RRL L B g0 h g → Q1456 v0 h = some o → Ψ o (K1456 v0 g)) {v0 : Nat} {s0 : Nat} {s1 : Nat} (bv0 : B ≤ v0) (bs0 : B ≤ s0) (bs1 : B ≤ s1) {h g o : Hp} (Z : RRL L B g0 h g) (hf : f_X8_init_253 n Q1456 v0 s0 s1 h = some o) : Ψ o (f_X8_init_253 n K1456 v0 s0 s1 g) := by
  unfold f_X8_init_253 at hf ⊢
  obtain ⟨c1, hf⟩ := ite_some hf
  refine zif (z_okO Z (by decide) c1) ?_
  obtain ⟨c2, hf⟩ := ite_some hf
  refine zif c2 ?_
  exact z_X8_init_256 HK1456 bv0 (RR_sr Z bs0 (j := 22) (by decide) bs1) hf
set_option maxRecDepth 100000 in
theorem z_X8_init_249 {L B : Nat} {g0 : Hp} {Ψ : Hp → Option Hp → Prop} {n : Nat} {K1456 Q1456 : Nat → Hp → Option Hp} (HK1456 : ∀ (v0 : Nat), B ≤ v0 → ∀ (h g o : Hp), RRL L B g0 h g → Q1456 v0 h = some o → Ψ o (K1456 v0 g)) {v0 : Nat} {s0 : Nat} {s1 : Nat} (bv0 : B ≤ v0) (bs0 : B ≤ s0) (bs1 : B ≤ s1) {h g o : Hp} (Z : RRL L B g0 h g) (hf : f_X8_init_249 n Q1456 v0 s0 s1 h = some o) : Ψ o (f_X8_init_249 n K1456 v0 s0 s1 g) := by
  unfold f_X8_init_249 at hf ⊢
  obtain ⟨c1, hf⟩ := ite_some hf
  refine zif (z_okI Z c1) ?_
  exact z_X8_init_253 HK1456 bv0 bs0 bs1 (RR_si Z bs1 (ix 3) (-1)) hf
set_option maxRecDepth 100000 in
theorem z_X8_init_245 {L B : Nat} {g0 : Hp} {Ψ : Hp → Option Hp → Prop} {n : Nat} {K1456 Q1456 : Nat → Hp → Option Hp} (HK1456 : ∀ (v0 : Nat), B ≤ v0 → ∀ (h g o : Hp), RRL L B g0 h g → Q1456 v0 h = some o → Ψ o (K1456 v0 g)) {v0 : Nat} {s0 : Nat} {s1 : Nat} (bv0 : B ≤ v0) (bs0 : B ≤ s0) (bs1 : B ≤ s1) {h g o : Hp} (Z : RRL L B g0 h g) (hf : f_X8_init_245 n Q1456 v0 s0 s1 h = some o) : Ψ o (f_X8_init_245 n K1456 v0 s0 s1 g) := by
  unfold f_X8_init_245 at hf ⊢
  obtain ⟨c1, hf⟩ := ite_some hf
  refine zif (z_okI Z c1) ?_
  exact z_X8_init_249 HK1456 bv0 bs0 bs1 (RR_si Z bs1 (ix 2) (-1)) hf
set_option maxRecDepth 100000 in
theorem z_X8_init_241 {L B : Nat} {g0 : Hp} {Ψ : Hp → Option Hp → Prop} {n : Nat} {K1456 Q1456 : Nat → Hp → Option Hp} (HK1456 : ∀ (v0 : Nat), B ≤ v0 → ∀ (h g o : Hp), RRL L B g0 h g → Q1456 v0 h = some o → Ψ o (K1456 v0 g)) {v0 : Nat} {s0 : Nat} {s1 : Nat} (bv0 : B ≤ v0) (bs0 : B ≤ s0) (bs1 : B ≤ s1) {h g o : Hp} (Z : RRL L B g0 h g) (hf : f_X8_init_241 n Q1456 v0 s0 s1 h = some o) : Ψ o (f_X8_init_241 n K1456 v0 s0 s1 g) := by
  unfold f_X8_init_241 at hf ⊢
  obtain ⟨c1, hf⟩ := ite_some hf
  refine zif (z_okI Z c1) ?_
  exact z_X8_init_245 HK1456 bv0 bs0 bs1 (RR_si Z bs1 (ix 1) (-1)) hf
set_option maxRecDepth 100000 in
theorem z_X8_init_237 {L B : Nat} {g0 : Hp} {Ψ : Hp → Option Hp → Prop} {n : Nat} {K1456 Q1456 : Nat → Hp → Option Hp} (HK1456 : ∀ (v0 : Nat), B ≤ v0 → ∀ (h g o : Hp), RRL L B g0 h g → Q1456 v0 h = some o → Ψ o (K1456 v0 g)) {v0 : Nat} {s0 : Nat} {s1 : Nat} (bv0 : B ≤ v0) (bs0 : B ≤ s0) (bs1 : B ≤ s1) {h g o : Hp} (Z : RRL L B g0 h g) (hf : f_X8_init_237 n Q1456 v0 s0 s1 h = some o) : Ψ o (f_X8_init_237 n K1456 v0 s0 s1 g) := by
  unfold f_X8_init_237 at hf ⊢
  obtain ⟨c1, hf⟩ := ite_some hf
  refine zif (z_okI Z c1) ?_
  exact z_X8_init_241 HK1456 bv0 bs0 bs1 (RR_si Z bs1 (ix 0) (-1)) hf
set_option maxRecDepth 100000 in
theorem z_X8_init_233 {L B : Nat} {g0 : Hp} {Ψ : Hp → Option Hp → Prop} {n : Nat} {K1456 Q1456 : Nat → Hp → Option Hp} (HK1456 : ∀ (v0 : Nat), B ≤ v0 → ∀ (h g o : Hp), RRL L B g0 h g → Q1456 v0 h = some o → Ψ o (K1456 v0 g)) {v0 : Nat} (bv0 : B ≤ v0) {h g o : Hp} (Z : RRL L B g0 h g) (hf : f_X8_init_233 n Q1456 v0 h = some o) : Ψ o (f_X8_init_233 n K1456 v0 g) := by
  unfold f_X8_init_233 at hf ⊢
  rw [RR_len Z]
  exact z_X8_init_237 HK1456 bv0 bv0 Z.2.1 (RR_new Z (q := (9, ix 4)) (by decide) (by decide)) hf
set_option maxRecDepth 100000 in
theorem z_X8_init_230 {L B : Nat} {g0 : Hp} {Ψ : Hp → Option Hp → Prop} {n : Nat} {K1456 Q1456 : Nat → Hp → Option Hp} (HK1456 : ∀ (v0 : Nat), B ≤ v0 → ∀ (h g o : Hp), RRL L B g0 h g → Q1456 v0 h = some o → Ψ o (K1456 v0 g)) {v0 : Nat} {s0 : Nat} {s1 : Nat} (bv0 : B ≤ v0) (bs0 : B ≤ s0) (bs1 : B ≤ s1) {h g o : Hp} (Z : RRL L B g0 h g) (hf : f_X8_init_230 n Q1456 v0 s0 s1 h = some o) : Ψ o (f_X8_init_230 n K1456 v0 s0 s1 g) := by
  unfold f_X8_init_230 at hf ⊢
  obtain ⟨c1, hf⟩ := ite_some hf
  refine zif (z_okO Z (by decide) c1) ?_
  obtain ⟨c2, hf⟩ := ite_some hf
  refine zif c2 ?_
  exact z_X8_init_233 HK1456 bv0 (RR_sr Z bs0 (j := 21) (by decide) bs1) hf
set_option maxRecDepth 100000 in
theorem z_X8_init_225 {L B : Nat} {g0 : Hp} {Ψ : Hp → Option Hp → Prop} {n : Nat} {K1456 Q1456 : Nat → Hp → Option Hp} (HK1456 : ∀ (v0 : Nat), B ≤ v0 → ∀ (h g o : Hp), RRL L B g0 h g → Q1456 v0 h = some o → Ψ o (K1456 v0 g)) {v0 : Nat} (bv0 : B ≤ v0) {h g o : Hp} (Z : RRL L B g0 h g) (hf : f_X8_init_225 n Q1456 v0 h = some o) : Ψ o (f_X8_init_225 n K1456 v0 g) := by
  unfold f_X8_init_225 at hf ⊢
  rw [RR_len Z]
  exact z_X8_init_230 HK1456 bv0 bv0 Z.2.1 (RR_new Z (q := (9, ix 12)) (by decide) (by decide)) hf
set_option maxRecDepth 100000 in
theorem z_X8_init_222 {L B : Nat} {g0 : Hp} {Ψ : Hp → Option Hp → Prop} {n : Nat} {K1456 Q1456 : Nat → Hp → Option Hp} (HK1456 : ∀ (v0 : Nat), B ≤ v0 → ∀ (h g o : Hp), RRL L B g0 h g → Q1456 v0 h = some o → Ψ o (K1456 v0 g)) {v0 : Nat} {s0 : Nat} {s1 : Nat} (bv0 : B ≤ v0) (bs0 : B ≤ s0) (bs1 : B ≤ s1) {h g o : Hp} (Z : RRL L B g0 h g) (hf : f_X8_init_222 n Q1456 v0 s0 s1 h = some o) : Ψ o (f_X8_init_222 n K1456 v0 s0 s1 g) := by
  unfold f_X8_init_222 at hf ⊢
  obtain ⟨c1, hf⟩ := ite_some hf
  refine zif (z_okO Z (by decide) c1) ?_
  obtain ⟨c2, hf⟩ := ite_some hf
  refine zif c2 ?_
  exact z_X8_init_225 HK1456 bv0 (RR_sr Z bs0 (j := 20) (by decide) bs1) hf
set_option maxRecDepth 100000 in
theorem z_X8_init_217 {L B : Nat} {g0 : Hp} {Ψ : Hp → Option Hp → Prop} {n : Nat} {K1456 Q1456 : Nat → Hp → Option Hp} (HK1456 : ∀ (v0 : Nat), B ≤ v0 → ∀ (h g o : Hp), RRL L B g0 h g → Q1456 v0 h = some o → Ψ o (K1456 v0 g)) {v0 : Nat} (bv0 : B ≤ v0) {h g o : Hp} (Z : RRL L B g0 h g) (hf : f_X8_init_217 n Q1456 v0 h = some o) : Ψ o (f_X8_init_217 n K1456 v0 g) := by
  unfold f_X8_init_217 at hf ⊢
  rw [RR_len Z]
  exact z_X8_init_222 HK1456 bv0 bv0 Z.2.1 (RR_new Z (q := (9, ix 12)) (by decide) (by decide)) hf
set_option maxRecDepth 100000 in
theorem z_X8_init_214 {L B : Nat} {g0 : Hp} {Ψ : Hp → Option Hp → Prop} {n : Nat} {K1456 Q1456 : Nat → Hp → Option Hp} (HK1456 : ∀ (v0 : Nat), B ≤ v0 → ∀ (h g o : Hp), RRL L B g0 h g → Q1456 v0 h = some o → Ψ o (K1456 v0 g)) {v0 : Nat} {s0 : Nat} {s1 : Nat} (bv0 : B ≤ v0) (bs0 : B ≤ s0) (bs1 : B ≤ s1) {h g o : Hp} (Z : RRL L B g0 h g) (hf : f_X8_init_214 n Q1456 v0 s0 s1 h = some o) : Ψ o (f_X8_init_214 n K1456 v0 s0 s1 g) := by
  unfold f_X8_init_214 at hf ⊢
  obtain ⟨c1, hf⟩ := ite_some hf
  refine zif (z_okO Z (by decide) c1) ?_
  obtain ⟨c2, hf⟩ := ite_some hf
  refine zif c2 ?_
  exact z_X8_init_217 HK1456 bv0 (RR_sr Z bs0 (j := 12) (by decide) bs1) hf
set_option maxRecDepth 100000 in
theorem z_X8_init_209 {L B : Nat} {g0 : Hp} {Ψ : Hp → Option Hp → Prop} {n : Nat} {K1456 Q1456 : Nat → Hp → Option Hp} (HK1456 : ∀ (v0 : Nat), B ≤ v0 → ∀ (h g o : Hp), RRL L B g0 h g → Q1456 v0 h = some o → Ψ o (K1456 v0 g)) {v0 : Nat} (bv0 : B ≤ v0) {h g o : Hp} (Z : RRL L B g0 h g) (hf : f_X8_init_209 n Q1456 v0 h = some o) : Ψ o (f_X8_init_209 n K1456 v0 g) := by
  unfold f_X8_init_209 at hf ⊢
  rw [RR_len Z]
  exact z_X8_init_214 HK1456 bv0 bv0 Z.2.1 (RR_new Z (q := (9, ix 24)) (by decide) (by decide)) hf
set_option maxRecDepth 100000 in
theorem z_X8_init_206 {L B : Nat} {g0 : Hp} {Ψ : Hp → Option Hp → Prop} {n : Nat} {K1456 Q1456 : Nat → Hp → Option Hp} (HK1456 : ∀ (v0 : Nat), B ≤ v0 → ∀ (h g o : Hp), RRL L B g0 h g → Q1456 v0 h = some o → Ψ o (K1456 v0 g)) {v0 : Nat} {s0 : Nat} {s1 : Nat} (bv0 : B ≤ v0) (bs0 : B ≤ s0) (bs1 : B ≤ s1) {h g o : Hp} (Z : RRL L B g0 h g) (hf : f_X8_init_206 n Q1456 v0 s0 s1 h = some o) : Ψ o (f_X8_init_206 n K1456 v0 s0 s1 g) := by
  unfold f_X8_init_206 at hf ⊢
  obtain ⟨c1, hf⟩ := ite_some hf
  refine zif (z_okO Z (by decide) c1) ?_
  obtain ⟨c2, hf⟩ := ite_some hf
  refine zif c2 ?_
  exact z_X8_init_209 HK1456 bv0 (RR_sr Z bs0 (j := 11) (by decide) bs1) hf
set_option maxRecDepth 100000 in
theorem z_X8_init_200 {L B : Nat} {g0 : Hp} {Ψ : Hp → Option Hp → Prop} {n : Nat} {K1456 Q1456 : Nat → Hp → Option Hp} (HK1456 : ∀ (v0 : Nat), B ≤ v0 → ∀ (h g o : Hp), RRL L B g0 h g → Q1456 v0 h = some o → Ψ o (K1456 v0 g)) {v0 : Nat} (bv0 : B ≤ v0) {h g o : Hp} (Z : RRL L B g0 h g) (hf : f_X8_init_200 n Q1456 v0 h = some o) : Ψ o (f_X8_init_200 n K1456 v0 g) := by
  unfold f_X8_init_200 at hf ⊢
  rw [RR_len Z]
  exact z_X8_init_206 HK1456 bv0 bv0 Z.2.1 (RR_new Z (q := (9, ix 1200)) (by decide) (by decide)) hf
set_option maxRecDepth 100000 in
theorem z_X8_init_197 {L B : Nat} {g0 : Hp} {Ψ : Hp → Option Hp → Prop} {n : Nat} {K1456 Q1456 : Nat → Hp → Option Hp} (HK1456 : ∀ (v0 : Nat), B ≤ v0 → ∀ (h g o : Hp), RRL L B g0 h g → Q1456 v0 h = some o → Ψ o (K1456 v0 g)) {v0 : Nat} {s0 : Nat} {s1 : Nat} (bv0 : B ≤ v0) (bs0 : B ≤ s0) (bs1 : B ≤ s1) {h g o : Hp} (Z : RRL L B g0 h g) (hf : f_X8_init_197 n Q1456 v0 s0 s1 h = some o) : Ψ o (f_X8_init_197 n K1456 v0 s0 s1 g) := by
  unfold f_X8_init_197 at hf ⊢
  obtain ⟨c1, hf⟩ := ite_some hf
  refine zif (z_okO Z (by decide) c1) ?_
  obtain ⟨c2, hf⟩ := ite_some hf
  refine zif c2 ?_
  exact z_X8_init_200 HK1456 bv0 (RR_sr Z bs0 (j := 9) (by decide) bs1) hf
set_option maxRecDepth 100000 in
theorem z_X8_init_191 {L B : Nat} {g0 : Hp} {Ψ : Hp → Option Hp → Prop} {n : Nat} {K1456 Q1456 : Nat → Hp → Option Hp} (HK1456 : ∀ (v0 : Nat), B ≤ v0 → ∀ (h g o : Hp), RRL L B g0 h g → Q1456 v0 h = some o → Ψ o (K1456 v0 g)) {v0 : Nat} (bv0 : B ≤ v0) {h g o : Hp} (Z : RRL L B g0 h g) (hf : f_X8_init_191 n Q1456 v0 h = some o) : Ψ o (f_X8_init_191 n K1456 v0 g) := by
  unfold f_X8_init_191 at hf ⊢
  rw [RR_len Z]
  exact z_X8_init_197 HK1456 bv0 bv0 Z.2.1 (RR_new Z (q := (9, ix 160)) (by decide) (by decide)) hf
set_option maxRecDepth 100000 in
theorem z_X8_init_188 {L B : Nat} {g0 : Hp} {Ψ : Hp → Option Hp → Prop} {n : Nat} {K1456 Q1456 : Nat → Hp → Option Hp} (HK1456 : ∀ (v0 : Nat), B ≤ v0 → ∀ (h g o : Hp), RRL L B g0 h g → Q1456 v0 h = some o → Ψ o (K1456 v0 g)) {v0 : Nat} {s0 : Nat} {s1 : Nat} (bv0 : B ≤ v0) (bs0 : B ≤ s0) (bs1 : B ≤ s1) {h g o : Hp} (Z : RRL L B g0 h g) (hf : f_X8_init_188 n Q1456 v0 s0 s1 h = some o) : Ψ o (f_X8_init_188 n K1456 v0 s0 s1 g) := by
  unfold f_X8_init_188 at hf ⊢
  obtain ⟨c1, hf⟩ := ite_some hf
  refine zif (z_okO Z (by decide) c1) ?_
  obtain ⟨c2, hf⟩ := ite_some hf
  refine zif c2 ?_
  exact z_X8_init_191 HK1456 bv0 (RR_sr Z bs0 (j := 8) (by decide) bs1) hf
set_option maxRecDepth 100000 in
theorem z_X8_init_183 {L B : Nat} {g0 : Hp} {Ψ : Hp → Option Hp → Prop} {n : Nat} {K1456 Q1456 : Nat → Hp → Option Hp} (HK1456 : ∀ (v0 : Nat), B ≤ v0 → ∀ (h g o : Hp), RRL L B g0 h g → Q1456 v0 h = some o → Ψ o (K1456 v0 g)) {v0 : Nat} (bv0 : B ≤ v0) {h g o : Hp} (Z : RRL L B g0 h g) (hf : f_X8_init_183 n Q1456 v0 h = some o) : Ψ o (f_X8_init_183 n K1456 v0 g) := by
  unfold f_X8_init_183 at hf ⊢
  rw [RR_len Z]
  exact z_X8_init_188 HK1456 bv0 bv0 Z.2.1 (RR_new Z (q := (9, ix 12)) (by decide) (by decide)) hf
set_option maxRecDepth 100000 in
theorem z_X8_init_180 {L B : Nat} {g0 : Hp} {Ψ : Hp → Option Hp → Prop} {n : Nat} {K1456 Q1456 : Nat → Hp → Option Hp} (HK1456 : ∀ (v0 : Nat), B ≤ v0 → ∀ (h g o : Hp), RRL L B g0 h g → Q1456 v0 h = some o → Ψ o (K1456 v0 g)) {v0 : Nat} {s0 : Nat} {s1 : Nat} (bv0 : B ≤ v0) (bs0 : B ≤ s0) (bs1 : B ≤ s1) {h g o : Hp} (Z : RRL L B g0 h g) (hf : f_X8_init_180 n Q1456 v0 s0 s1 h = some o) : Ψ o (f_X8_init_180 n K1456 v0 s0 s1 g) := by
  unfold f_X8_init_180 at hf ⊢
  obtain ⟨c1, hf⟩ := ite_some hf
  refine zif (z_okO Z (by decide) c1) ?_
  obtain ⟨c2, hf⟩ := ite_some hf
  refine zif c2 ?_
  exact z_X8_init_183 HK1456 bv0 (RR_sr Z bs0 (j := 7) (by decide) bs1) hf
set_option maxRecDepth 100000 in
theorem z_X8_init_175 {L B : Nat} {g0 : Hp} {Ψ : Hp → Option Hp → Prop} {n : Nat} {K1456 Q1456 : Nat → Hp → Option Hp} (HK1456 : ∀ (v0 : Nat), B ≤ v0 → ∀ (h g o : Hp), RRL L B g0 h g → Q1456 v0 h = some o → Ψ o (K1456 v0 g)) {v0 : Nat} (bv0 : B ≤ v0) {h g o : Hp} (Z : RRL L B g0 h g) (hf : f_X8_init_175 n Q1456 v0 h = some o) : Ψ o (f_X8_init_175 n K1456 v0 g) := by
  unfold f_X8_init_175 at hf ⊢
  rw [RR_len Z]
  exact z_X8_init_180 HK1456 bv0 bv0 Z.2.1 (RR_new Z (q := (9, ix 12)) (by decide) (by decide)) hf
set_option maxRecDepth 100000 in
theorem z_X8_init_172 {L B : Nat} {g0 : Hp} {Ψ : Hp → Option Hp → Prop} {n : Nat} {K1456 Q1456 : Nat → Hp → Option Hp} (HK1456 : ∀ (v0 : Nat), B ≤ v0 → ∀ (h g o : Hp), RRL L B g0 h g → Q1456 v0 h = some o → Ψ o (K1456 v0 g)) {v0 : Nat} {s0 : Nat} {s1 : Nat} (bv0 : B ≤ v0) (bs0 : B ≤ s0) (bs1 : B ≤ s1) {h g o : Hp} (Z : RRL L B g0 h g) (hf : f_X8_init_172 n Q1456 v0 s0 s1 h = some o) : Ψ o (f_X8_init_172 n K1456 v0 s0 s1 g) := by
  unfold f_X8_init_172 at hf ⊢
  obtain ⟨c1, hf⟩ := ite_some hf
  refine zif (z_okO Z (by decide) c1) ?_
  obtain ⟨c2, hf⟩ := ite_some hf
  refine zif c2 ?_
  exact z_X8_init_175 HK1456 bv0 (RR_sr Z bs0 (j := 6) (by decide) bs1) hf
set_option maxRecDepth 100000 in
theorem z_X8_init_167 {L B : Nat} {g0 : Hp} {Ψ : Hp → Option Hp → Prop} {n : Nat} {K1456 Q1456 : Nat → Hp → Option Hp} (HK1456 : ∀ (v0 : Nat), B ≤ v0 → ∀ (h g o : Hp), RRL L B g0 h g → Q1456 v0 h = some o → Ψ o (K1456 v0 g)) {v0 : Nat} (bv0 : B ≤ v0) {h g o : Hp} (Z : RRL L B g0 h g) (hf : f_X8_init_167 n Q1456 v0 h = some o) : Ψ o (f_X8_init_167 n K1456 v0 g) := by
  unfold f_X8_init_167 at hf ⊢
  rw [RR_len Z]
  exact z_X8_init_172 HK1456 bv0 bv0 Z.2.1 (RR_new Z (q := (9, ix 12)) (by decide) (by decide)) hf
set_option maxRecDepth 100000 in
theorem z_X8_init_162 {L B : Nat} {g0 : Hp} {Ψ : Hp → Option Hp → Prop} {n : Nat} {K1456 Q1456 : Nat → Hp → Option Hp} (HK1456 : ∀ (v0 : Nat), B ≤ v0 → ∀ (h g o : Hp), RRL L B g0 h g → Q1456 v0 h = some o → Ψ o (K1456 v0 g)) {v0 : Nat} (bv0 : B ≤ v0) {h g o : Hp} (Z : RRL L B g0 h g) (hf : f_X8_init_162 n Q1456 v0 h = some o) : Ψ o (f_X8_init_162 n K1456 v0 g) := by
  unfold f_X8_init_162 at hf ⊢
  obtain ⟨c1, hf⟩ := ite_some hf
  refine zif (z_okO Z (by decide) c1) ?_
  exact z_X8_init_167 HK1456 bv0 (RR_si Z bv0 4 5) hf
set_option maxRecDepth 100000 in
theorem z_X8_init_157 {L B : Nat} {g0 : Hp} {Ψ : Hp → Option Hp → Prop} {n : Nat} {K1456 Q1456 : Nat → Hp → Option Hp} (HK1456 : ∀ (v0 : Nat), B ≤ v0 → ∀ (h g o : Hp), RRL L B g0 h g → Q1456 v0 h = some o → Ψ o (K1456 v0 g)) {v0 : Nat} (bv0 : B ≤ v0) {h g o : Hp} (Z : RRL L B g0 h g) (hf : f_X8_init_157 n Q1456 v0 h = some o) : Ψ o (f_X8_init_157 n K1456 v0 g) := by
  unfold f_X8_init_157 at hf ⊢
  obtain ⟨c1, hf⟩ := ite_some hf
  refine zif (z_okO Z (by decide) c1) ?_
  exact z_X8_init_162 HK1456 bv0 (RR_si Z bv0 3 2) hf
set_option maxRecDepth 100000 in
theorem z_X8_init_152 {L B : Nat} {g0 : Hp} {Ψ : Hp → Option Hp → Prop} {n : Nat} {K1456 Q1456 : Nat → Hp → Option Hp} (HK1456 : ∀ (v0 : Nat), B ≤ v0 → ∀ (h g o : Hp), RRL L B g0 h g → Q1456 v0 h = some o → Ψ o (K1456 v0 g)) {v0 : Nat} (bv0 : B ≤ v0) {h g o : Hp} (Z : RRL L B g0 h g) (hf : f_X8_init_152 n Q1456 v0 h = some o) : Ψ o (f_X8_init_152 n K1456 v0 g) := by
  unfold f_X8_init_152 at hf ⊢
  obtain ⟨c1, hf⟩ := ite_some hf
  refine zif (z_okO Z (by decide) c1) ?_
  exact z_X8_init_157 HK1456 bv0 (RR_si Z bv0 2 5) hf
set_option maxRecDepth 100000 in
theorem z_X8_init_149 {L B : Nat} {g0 : Hp} {Ψ : Hp → Option Hp → Prop} {n : Nat} {K1456 Q1456 : Nat → Hp → Option Hp} (HK1456 : ∀ (v0 : Nat), B ≤ v0 → ∀ (h g o : Hp), RRL L B g0 h g → Q1456 v0 h = some o → Ψ o (K1456 v0 g)) {v0 : Nat} {s0 : Nat} {s1 : Nat} (bv0 : B ≤ v0) (bs0 : B ≤ s0) (bs1 : B ≤ s1) {h g o : Hp} (Z : RRL L B g0 h g) (hf : f_X8_init_149 n Q1456 v0 s0 s1 h = some o) : Ψ o (f_X8_init_149 n K1456 v0 s0 s1 g) := by
  unfold f_X8_init_149 at hf ⊢
  obtain ⟨c1, hf⟩ := ite_some hf
  refine zif (z_okO Z (by decide) c1) ?_
  obtain ⟨c2, hf⟩ := ite_some hf
  refine zif c2 ?_
  exact z_X8_init_152 HK1456 bv0 (RR_sr Z bs0 (j := 1) (by decide) bs1) hf
set_option maxRecDepth 100000 in
theorem z_X8_init_143 {L B : Nat} {g0 : Hp} {Ψ : Hp → Option Hp → Prop} {n : Nat} {K1456 Q1456 : Nat → Hp → Option Hp} (HK1456 : ∀ (v0 : Nat), B ≤ v0 → ∀ (h g o : Hp), RRL L B g0 h g → Q1456 v0 h = some o → Ψ o (K1456 v0 g)) {v0 : Nat} {s0 : Nat} {s1 : Nat} (bv0 : B ≤ v0) (bs0 : B ≤ s0) (bs1 : B ≤ s1) {h g o : Hp} (Z : RRL L B g0 h g) (hf : f_X8_init_143 n Q1456 v0 s0 s1 h = some o) : Ψ o (f_X8_init_143 n K1456 v0 s0 s1 g) := by
  unfold f_X8_init_143 at hf ⊢
  obtain ⟨c1, hf⟩ := ite_some hf
  refine zif (z_okI Z c1) ?_
  exact z_X8_init_149 HK1456 bv0 bs0 bs1 (RR_si Z bs1 (ix 11) 100) hf
set_option maxRecDepth 100000 in
theorem z_X8_init_137 {L B : Nat} {g0 : Hp} {Ψ : Hp → Option Hp → Prop} {n : Nat} {K1456 Q1456 : Nat → Hp → Option Hp} (HK1456 : ∀ (v0 : Nat), B ≤ v0 → ∀ (h g o : Hp), RRL L B g0 h g → Q1456 v0 h = some o → Ψ o (K1456 v0 g)) {v0 : Nat} {s0 : Nat} {s1 : Nat} (bv0 : B ≤ v0) (bs0 : B ≤ s0) (bs1 : B ≤ s1) {h g o : Hp} (Z : RRL L B g0 h g) (hf : f_X8_init_137 n Q1456 v0 s0 s1 h = some o) : Ψ o (f_X8_init_137 n K1456 v0 s0 s1 g) := by
  unfold f_X8_init_137 at hf ⊢
  obtain ⟨c1, hf⟩ := ite_some hf
  refine zif (z_okI Z c1) ?_
  exact z_X8_init_143 HK1456 bv0 bs0 bs1 (RR_si Z bs1 (ix 10) 100) hf
set_option maxRecDepth 100000 in
theorem z_X8_init_131 {L B : Nat} {g0 : Hp} {Ψ : Hp → Option Hp → Prop} {n : Nat} {K1456 Q1456 : Nat → Hp → Option Hp} (HK1456 : ∀ (v0 : Nat), B ≤ v0 → ∀ (h g o : Hp), RRL L B g0 h g → Q1456 v0 h = some o → Ψ o (K1456 v0 g)) {v0 : Nat} {s0 : Nat} {s1 : Nat} (bv0 : B ≤ v0) (bs0 : B ≤ s0) (bs1 : B ≤ s1) {h g o : Hp} (Z : RRL L B g0 h g) (hf : f_X8_init_131 n Q1456 v0 s0 s1 h = some o) : Ψ o (f_X8_init_131 n K1456 v0 s0 s1 g) := by
  unfold f_X8_init_131 at hf ⊢
  obtain ⟨c1, hf⟩ := ite_some hf
  refine zif (z_okI Z c1) ?_
  exact z_X8_init_137 HK1456 bv0 bs0 bs1 (RR_si Z bs1 (ix 9) 100) hf
set_option maxRecDepth 100000 in
theorem z_X8_init_125 {L B : Nat} {g0 : Hp} {Ψ : Hp → Option Hp → Prop} {n : Nat} {K1456 Q1456 : Nat → Hp → Option Hp} (HK1456 : ∀ (v0 : Nat), B ≤ v0 → ∀ (h g o : Hp), RRL L B g0 h g → Q1456 v0 h = some o → Ψ o (K1456 v0 g)) {v0 : Nat} {s0 : Nat} {s1 : Nat} (bv0 : B ≤ v0) (bs0 : B ≤ s0) (bs1 : B ≤ s1) {h g o : Hp} (Z : RRL L B g0 h g) (hf : f_X8_init_125 n Q1456 v0 s0 s1 h = some o) : Ψ o (f_X8_init_125 n K1456 v0 s0 s1 g) := by
  unfold f_X8_init_125 at hf ⊢
  obtain ⟨c1, hf⟩ := ite_some hf
  refine zif (z_okI Z c1) ?_
  exact z_X8_init_131 HK1456 bv0 bs0 bs1 (RR_si Z bs1 (ix 8) 100) hf
set_option maxRecDepth 100000 in
theorem z_X8_init_119 {L B : Nat} {g0 : Hp} {Ψ : Hp → Option Hp → Prop} {n : Nat} {K1456 Q1456 : Nat → Hp → Option Hp} (HK1456 : ∀ (v0 : Nat), B ≤ v0 → ∀ (h g o : Hp), RRL L B g0 h g → Q1456 v0 h = some o → Ψ o (K1456 v0 g)) {v0 : Nat} {s0 : Nat} {s1 : Nat} (bv0 : B ≤ v0) (bs0 : B ≤ s0) (bs1 : B ≤ s1) {h g o : Hp} (Z : RRL L B g0 h g) (hf : f_X8_init_119 n Q1456 v0 s0 s1 h = some o) : Ψ o (f_X8_init_119 n K1456 v0 s0 s1 g) := by
  unfold f_X8_init_119 at hf ⊢
  obtain ⟨c1, hf⟩ := ite_some hf
  refine zif (z_okI Z c1) ?_
  exact z_X8_init_125 HK1456 bv0 bs0 bs1 (RR_si Z bs1 (ix 7) 100) hf
set_option maxRecDepth 100000 in
theorem z_X8_init_113 {L B : Nat} {g0 : Hp} {Ψ : Hp → Option Hp → Prop} {n : Nat} {K1456 Q1456 : Nat → Hp → Option Hp} (HK1456 : ∀ (v0 : Nat), B ≤ v0 → ∀ (h g o : Hp), RRL L B g0 h g → Q1456 v0 h = some o → Ψ o (K1456 v0 g)) {v0 : Nat} {s0 : Nat} {s1 : Nat} (bv0 : B ≤ v0) (bs0 : B ≤ s0) (bs1 : B ≤ s1) {h g o : Hp} (Z : RRL L B g0 h g) (hf : f_X8_init_113 n Q1456 v0 s0 s1 h = some o) : Ψ o (f_X8_init_113 n K1456 v0 s0 s1 g) := by
  unfold f_X8_init_113 at hf ⊢
  obtain ⟨c1, hf⟩ := ite_some hf
  refine zif (z_okI Z c1) ?_
  exact z_X8_init_119 HK1456 bv0 bs0 bs1 (RR_si Z bs1 (ix 6) 100) hf
set_option maxRecDepth 100000 in
theorem z_X8_init_108 {L B : Nat} {g0 : Hp} {Ψ : Hp → Option Hp → Prop} {n : Nat} {K1456 Q1456 : Nat → Hp → Option Hp} (HK1456 : ∀ (v0 : Nat), B ≤ v0 → ∀ (h g o : Hp), RRL L B g0 h g → Q1456 v0 h = some o → Ψ o (K1456 v0 g)) {v0 : Nat} {s0 : Nat} {s1 : Nat} (bv0 : B ≤ v0) (bs0 : B ≤ s0) (bs1 : B ≤ s1) {h g o : Hp} (Z : RRL L B g0 h g) (hf : f_X8_init_108 n Q1456 v0 s0 s1 h = some o) : Ψ o (f_X8_init_108 n K1456 v0 s0 s1 g) := by
  unfold f_X8_init_108 at hf ⊢
  obtain ⟨c1, hf⟩ := ite_some hf
  refine zif (z_okI Z c1) ?_
  exact z_X8_init_113 HK1456 bv0 bs0 bs1 (RR_si Z bs1 (ix 5) 100) hf
set_option maxRecDepth 100000 in
theorem z_X8_init_103 {L B : Nat} {g0 : Hp} {Ψ : Hp → Option Hp → Prop} {n : Nat} {K1456 Q1456 : Nat → Hp → Option Hp} (HK1456 : ∀ (v0 : Nat), B ≤ v0 → ∀ (h g o : Hp), RRL L B g0 h g → Q1456 v0 h = some o → Ψ o (K1456 v0 g)) {v0 : Nat} {s0 : Nat} {s1 : Nat} (bv0 : B ≤ v0) (bs0 : B ≤ s0) (bs1 : B ≤ s1) {h g o : Hp} (Z : RRL L B g0 h g) (hf : f_X8_init_103 n Q1456 v0 s0 s1 h = some o) : Ψ o (f_X8_init_103 n K1456 v0 s0 s1 g) := by
  unfold f_X8_init_103 at hf ⊢
  obtain ⟨c1, hf⟩ := ite_some hf
  refine zif (z_okI Z c1) ?_
  exact z_X8_init_108 HK1456 bv0 bs0 bs1 (RR_si Z bs1 (ix 4) 100) hf
set_option maxRecDepth 100000 in
theorem z_X8_init_98 {L B : Nat} {g0 : Hp} {Ψ : Hp → Option Hp → Prop} {n : Nat} {K1456 Q1456 : Nat → Hp → Option Hp} (HK1456 : ∀ (v0 : Nat), B ≤ v0 → ∀ (h g o : Hp), RRL L B g0 h g → Q1456 v0 h = some o → Ψ o (K1456 v0 g)) {v0 : Nat} {s0 : Nat} {s1 : Nat} (bv0 : B ≤ v0) (bs0 : B ≤ s0) (bs1 : B ≤ s1) {h g o : Hp} (Z : RRL L B g0 h g) (hf : f_X8_init_98 n Q1456 v0 s0 s1 h = some o) : Ψ o (f_X8_init_98 n K1456 v0 s0 s1 g) := by
  unfold f_X8_init_98 at hf ⊢
  obtain ⟨c1, hf⟩ := ite_some hf
  refine zif (z_okI Z c1) ?_
  exact z_X8_init_103 HK1456 bv0 bs0 bs1 (RR_si Z bs1 (ix 3) 100) hf
set_option maxRecDepth 100000 in
theorem z_X8_init_93 {L B : Nat} {g0 : Hp} {Ψ : Hp → Option Hp → Prop} {n : Nat} {K1456 Q1456 : Nat → Hp → Option Hp} (HK1456 : ∀ (v0 : Nat), B ≤ v0 → ∀ (h g o : Hp), RRL L B g0 h g → Q1456 v0 h = some o → Ψ o (K1456 v0 g)) {v0 : Nat} {s0 : Nat} {s1 : Nat} (bv0 : B ≤ v0) (bs0 : B ≤ s0) (bs1 : B ≤ s1) {h g o : Hp} (Z : RRL L B g0 h g) (hf : f_X8_init_93 n Q1456 v0 s0 s1 h = some o) : Ψ o (f_X8_init_93 n K1456 v0 s0 s1 g) := by
  unfold f_X8_init_93 at hf ⊢
  obtain ⟨c1, hf⟩ := ite_some hf
  refine zif (z_okI Z c1) ?_
  exact z_X8_init_98 HK1456 bv0 bs0 bs1 (RR_si Z bs1 (ix 2) 100) hf
set_option maxRecDepth 100000 in
theorem z_X8_init_88 {L B : Nat} {g0 : Hp} {Ψ : Hp → Option Hp → Prop} {n : Nat} {K1456 Q1456 : Nat → Hp → Option Hp} (HK1456 : ∀ (v0 : Nat), B ≤ v0 → ∀ (h g o : Hp), RRL L B g0 h g → Q1456 v0 h = some o → Ψ o (K1456 v0 g)) {v0 : Nat} {s0 : Nat} {s1 : Nat} (bv0 : B ≤ v0) (bs0 : B ≤ s0) (bs1 : B ≤ s1) {h g o : Hp} (Z : RRL L B g0 h g) (hf : f_X8_init_88 n Q1456 v0 s0 s1 h = some o) : Ψ o (f_X8_init_88 n K1456 v0 s0 s1 g) := by
  unfold f_X8_init_88 at hf ⊢
  obtain ⟨c1, hf⟩ := ite_some hf
  refine zif (z_okI Z c1) ?_
  exact z_X8_init_93 HK1456 bv0 bs0 bs1 (RR_si Z bs1 (ix 1) 100) hf
set_option maxRecDepth 100000 in
theorem z_X8_init_83 {L B : Nat} {g0 : Hp} {Ψ : Hp → Option Hp → Prop} {n : Nat} {K1456 Q1456 : Nat → Hp → Option Hp} (HK1456 : ∀ (v0 : Nat), B ≤ v0 → ∀ (h g o : Hp), RRL L B g0 h g → Q1456 v0 h = some o → Ψ o (K1456 v0 g)) {v0 : Nat} {s0 : Nat} {s1 : Nat} (bv0 : B ≤ v0) (bs0 : B ≤ s0) (bs1 : B ≤ s1) {h g o : Hp} (Z : RRL L B g0 h g) (hf : f_X8_init_83 n Q1456 v0 s0 s1 h = some o) : Ψ o (f_X8_init_83 n K1456 v0 s0 s1 g) := by
  unfold f_X8_init_83 at hf ⊢
  obtain ⟨c1, hf⟩ := ite_some hf
  refine zif (z_okI Z c1) ?_
  exact z_X8_init_88 HK1456 bv0 bs0 bs1 (RR_si Z bs1 (ix 0) 100) hf
set_option maxRecDepth 100000 in
theorem z_X8_init_78 {L B : Nat} {g0 : Hp} {Ψ : Hp → Option Hp → Prop} {n : Nat} {K1456 Q1456 : Nat → Hp → Option Hp} (HK1456 : ∀ (v0 : Nat), B ≤ v0 → ∀ (h g o : Hp), RRL L B g0 h g → Q1456 v0 h = some o → Ψ o (K1456 v0 g)) {v0 : Nat} (bv0 : B ≤ v0) {h g o : Hp} (Z : RRL L B g0 h g) (hf : f_X8_init_78 n Q1456 v0 h = some o) : Ψ o (f_X8_init_78 n K1456 v0 g) := by
  unfold f_X8_init_78 at hf ⊢
  rw [RR_len Z]
  exact z_X8_init_83 HK1456 bv0 bv0 Z.2.1 (RR_new Z (q := (9, ix 12)) (by decide) (by decide)) hf
set_option maxRecDepth 100000 in
theorem z_X8_init_75 {L B : Nat} {g0 : Hp} {Ψ : Hp → Option Hp → Prop} {n : Nat} {K1456 Q1456 : Nat → Hp → Option Hp} (HK1456 : ∀ (v0 : Nat), B ≤ v0 → ∀ (h g o : Hp), RRL L B g0 h g → Q1456 v0 h = some o → Ψ o (K1456 v0 g)) {v0 : Nat} {s0 : Nat} {s1 : Nat} (bv0 : B ≤ v0) (bs0 : B ≤ s0) (bs1 : B ≤ s1) {h g o : Hp} (Z : RRL L B g0 h g) (hf : f_X8_init_75 n Q1456 v0 s0 s1 h = some o) : Ψ o (f_X8_init_75 n K1456 v0 s0 s1 g) := by
  unfold f_X8_init_75 at hf ⊢
  obtain ⟨c1, hf⟩ := ite_some hf
  refine zif (z_okO Z (by decide) c1) ?_
  obtain ⟨c2, hf⟩ := ite_some hf
  refine zif c2 ?_
  exact z_X8_init_78 HK1456 bv0 (RR_sr Z bs0 (j := 0) (by decide) bs1) hf
set_option maxRecDepth 100000 in
theorem z_X8_init_69 {L B : Nat} {g0 : Hp} {Ψ : Hp → Option Hp → Prop} {n : Nat} {K1456 Q1456 : Nat → Hp → Option Hp} (HK1456 : ∀ (v0 : Nat), B ≤ v0 → ∀ (h g o : Hp), RRL L B g0 h g → Q1456 v0 h = some o → Ψ o (K1456 v0 g)) {v0 : Nat} {s0 : Nat} {s1 : Nat} (bv0 : B ≤ v0) (bs0 : B ≤ s0) (bs1 : B ≤ s1) {h g o : Hp} (Z : RRL L B g0 h g) (hf : f_X8_init_69 n Q1456 v0 s0 s1 h = some o) : Ψ o (f_X8_init_69 n K1456 v0 s0 s1 g) := by
  unfold f_X8_init_69 at hf ⊢
  obtain ⟨c1, hf⟩ := ite_some hf
  refine zif (z_okI Z c1) ?_
  exact z_X8_init_75 HK1456 bv0 bs0 bs1 (RR_si Z bs1 (ix 11) 60000) hf
set_option maxRecDepth 100000 in
theorem z_X8_init_63 {L B : Nat} {g0 : Hp} {Ψ : Hp → Option Hp → Prop} {n : Nat} {K1456 Q1456 : Nat → Hp → Option Hp} (HK1456 : ∀ (v0 : Nat), B ≤ v0 → ∀ (h g o : Hp), RRL L B g0 h g → Q1456 v0 h = some o → Ψ o (K1456 v0 g)) {v0 : Nat} {s0 : Nat} {s1 : Nat} (bv0 : B ≤ v0) (bs0 : B ≤ s0) (bs1 : B ≤ s1) {h g o : Hp} (Z : RRL L B g0 h g) (hf : f_X8_init_63 n Q1456 v0 s0 s1 h = some o) : Ψ o (f_X8_init_63 n K1456 v0 s0 s1 g) := by
  unfold f_X8_init_63 at hf ⊢
  obtain ⟨c1, hf⟩ := ite_some hf
  refine zif (z_okI Z c1) ?_
  exact z_X8_init_69 HK1456 bv0 bs0 bs1 (RR_si Z bs1 (ix 10) 60000) hf
set_option maxRecDepth 100000 in
theorem z_X8_init_57 {L B : Nat} {g0 : Hp} {Ψ : Hp → Option Hp → Prop} {n : Nat} {K1456 Q1456 : Nat → Hp → Option Hp} (HK1456 : ∀ (v0 : Nat), B ≤ v0 → ∀ (h g o : Hp), RRL L B g0 h g → Q1456 v0 h = some o → Ψ o (K1456 v0 g)) {v0 : Nat} {s0 : Nat} {s1 : Nat} (bv0 : B ≤ v0) (bs0 : B ≤ s0) (bs1 : B ≤ s1) {h g o : Hp} (Z : RRL L B g0 h g) (hf : f_X8_init_57 n Q1456 v0 s0 s1 h = some o) : Ψ o (f_X8_init_57 n K1456 v0 s0 s1 g) := by
  unfold f_X8_init_57 at hf ⊢
  obtain ⟨c1, hf⟩ := ite_some hf
  refine zif (z_okI Z c1) ?_
  exact z_X8_init_63 HK1456 bv0 bs0 bs1 (RR_si Z bs1 (ix 9) 60000) hf
set_option maxRecDepth 100000 in
theorem z_X8_init_51 {L B : Nat} {g0 : Hp} {Ψ : Hp → Option Hp → Prop} {n : Nat} {K1456 Q1456 : Nat → Hp → Option Hp} (HK1456 : ∀ (v0 : Nat), B ≤ v0 → ∀ (h g o : Hp), RRL L B g0 h g → Q1456 v0 h = some o → Ψ o (K1456 v0 g)) {v0 : Nat} {s0 : Nat} {s1 : Nat} (bv0 : B ≤ v0) (bs0 : B ≤ s0) (bs1 : B ≤ s1) {h g o : Hp} (Z : RRL L B g0 h g) (hf : f_X8_init_51 n Q1456 v0 s0 s1 h = some o) : Ψ o (f_X8_init_51 n K1456 v0 s0 s1 g) := by
  unfold f_X8_init_51 at hf ⊢
  obtain ⟨c1, hf⟩ := ite_some hf
  refine zif (z_okI Z c1) ?_
  exact z_X8_init_57 HK1456 bv0 bs0 bs1 (RR_si Z bs1 (ix 8) 60000) hf
set_option maxRecDepth 100000 in
theorem z_X8_init_45 {L B : Nat} {g0 : Hp} {Ψ : Hp → Option Hp → Prop} {n : Nat} {K1456 Q1456 : Nat → Hp → Option Hp} (HK1456 : ∀ (v0 : Nat), B ≤ v0 → ∀ (h g o : Hp), RRL L B g0 h g → Q1456 v0 h = some o → Ψ o (K1456 v0 g)) {v0 : Nat} {s0 : Nat} {s1 : Nat} (bv0 : B ≤ v0) (bs0 : B ≤ s0) (bs1 : B ≤ s1) {h g o : Hp} (Z : RRL L B g0 h g) (hf : f_X8_init_45 n Q1456 v0 s0 s1 h = some o) : Ψ o (f_X8_init_45 n K1456 v0 s0 s1 g) := by
  unfold f_X8_init_45 at hf ⊢
  obtain ⟨c1, hf⟩ := ite_some hf
  refine zif (z_okI Z c1) ?_
  exact z_X8_init_51 HK1456 bv0 bs0 bs1 (RR_si Z bs1 (ix 7) 60000) hf
set_option maxRecDepth 100000 in
theorem z_X8_init_39 {L B : Nat} {g0 : Hp} {Ψ : Hp → Option Hp → Prop} {n : Nat} {K1456 Q1456 : Nat → Hp → Option Hp} (HK1456 : ∀ (v0 : Nat), B ≤ v0 → ∀ (h g o : Hp), RRL L B g0 h g → Q1456 v0 h = some o → Ψ o (K1456 v0 g)) {v0 : Nat} {s0 : Nat} {s1 : Nat} (bv0 : B ≤ v0) (bs0 : B ≤ s0) (bs1 : B ≤ s1) {h g o : Hp} (Z : RRL L B g0 h g) (hf : f_X8_init_39 n Q1456 v0 s0 s1 h = some o) : Ψ o (f_X8_init_39 n K1456 v0 s0 s1 g) := by
  unfold f_X8_init_39 at hf ⊢
  obtain ⟨c1, hf⟩ := ite_some hf
  refine zif (z_okI Z c1) ?_
  exact z_X8_init_45 HK1456 bv0 bs0 bs1 (RR_si Z bs1 (ix 6) 60000) hf
set_option maxRecDepth 100000 in
theorem z_X8_init_34 {L B : Nat} {g0 : Hp} {Ψ : Hp → Option Hp → Prop} {n : Nat} {K1456 Q1456 : Nat → Hp → Option Hp} (HK1456 : ∀ (v0 : Nat), B ≤ v0 → ∀ (h g o : Hp), RRL L B g0 h g → Q1456 v0 h = some o → Ψ o (K1456 v0 g)) {v0 : Nat} {s0 : Nat} {s1 : Nat} (bv0 : B ≤ v0) (bs0 : B ≤ s0) (bs1 : B ≤ s1) {h g o : Hp} (Z : RRL L B g0 h g) (hf : f_X8_init_34 n Q1456 v0 s0 s1 h = some o) : Ψ o (f_X8_init_34 n K1456 v0 s0 s1 g) := by
  unfold f_X8_init_34 at hf ⊢
  obtain ⟨c1, hf⟩ := ite_some hf
  refine zif (z_okI Z c1) ?_
  exact z_X8_init_39 HK1456 bv0 bs0 bs1 (RR_si Z bs1 (ix 5) 60000) hf
set_option maxRecDepth 100000 in
theorem z_X8_init_29 {L B : Nat} {g0 : Hp} {Ψ : Hp → Option Hp → Prop} {n : Nat} {K1456 Q1456 : Nat → Hp → Option Hp} (HK1456 : ∀ (v0 : Nat), B ≤ v0 → ∀ (h g o : Hp), RRL L B g0 h g → Q1456 v0 h = some o → Ψ o (K1456 v0 g)) {v0 : Nat} {s0 : Nat} {s1 : Nat} (bv0 : B ≤ v0) (bs0 : B ≤ s0) (bs1 : B ≤ s1) {h g o : Hp} (Z : RRL L B g0 h g) (hf : f_X8_init_29 n Q1456 v0 s0 s1 h = some o) : Ψ o (f_X8_init_29 n K1456 v0 s0 s1 g) := by
  unfold f_X8_init_29 at hf ⊢
  obtain ⟨c1, hf⟩ := ite_some hf
  refine zif (z_okI Z c1) ?_
  exact z_X8_init_34 HK1456 bv0 bs0 bs1 (RR_si Z bs1 (ix 4) 60000) hf
set_option maxRecDepth 100000 in
theorem z_X8_init_24 {L B : Nat} {g0 : Hp} {Ψ : Hp → Option Hp → Prop} {n : Nat} {K1456 Q1456 : Nat → Hp → Option Hp} (HK1456 : ∀ (v0 : Nat), B ≤ v0 → ∀ (h g o : Hp), RRL L B g0 h g → Q1456 v0 h = some o → Ψ o (K1456 v0 g)) {v0 : Nat} {s0 : Nat} {s1 : Nat} (bv0 : B ≤ v0) (bs0 : B ≤ s0) (bs1 : B ≤ s1) {h g o : Hp} (Z : RRL L B g0 h g) (hf : f_X8_init_24 n Q1456 v0 s0 s1 h = some o) : Ψ o (f_X8_init_24 n K1456 v0 s0 s1 g) := by
  unfold f_X8_init_24 at hf ⊢
  obtain ⟨c1, hf⟩ := ite_some hf
  refine zif (z_okI Z c1) ?_
  exact z_X8_init_29 HK1456 bv0 bs0 bs1 (RR_si Z bs1 (ix 3) 60000) hf
set_option maxRecDepth 100000 in
theorem z_X8_init_19 {L B : Nat} {g0 : Hp} {Ψ : Hp → Option Hp → Prop} {n : Nat} {K1456 Q1456 : Nat → Hp → Option Hp} (HK1456 : ∀ (v0 : Nat), B ≤ v0 → ∀ (h g o : Hp), RRL L B g0 h g → Q1456 v0 h = some o → Ψ o (K1456 v0 g)) {v0 : Nat} {s0 : Nat} {s1 : Nat} (bv0 : B ≤ v0) (bs0 : B ≤ s0) (bs1 : B ≤ s1) {h g o : Hp} (Z : RRL L B g0 h g) (hf : f_X8_init_19 n Q1456 v0 s0 s1 h = some o) : Ψ o (f_X8_init_19 n K1456 v0 s0 s1 g) := by
  unfold f_X8_init_19 at hf ⊢
  obtain ⟨c1, hf⟩ := ite_some hf
  refine zif (z_okI Z c1) ?_
  exact z_X8_init_24 HK1456 bv0 bs0 bs1 (RR_si Z bs1 (ix 2) 60000) hf
set_option maxRecDepth 100000 in
theorem z_X8_init_14 {L B : Nat} {g0 : Hp} {Ψ : Hp → Option Hp → Prop} {n : Nat} {K1456 Q1456 : Nat → Hp → Option Hp} (HK1456 : ∀ (v0 : Nat), B ≤ v0 → ∀ (h g o : Hp), RRL L B g0 h g → Q1456 v0 h = some o → Ψ o (K1456 v0 g)) {v0 : Nat} {s0 : Nat} {s1 : Nat} (bv0 : B ≤ v0) (bs0 : B ≤ s0) (bs1 : B ≤ s1) {h g o : Hp} (Z : RRL L B g0 h g) (hf : f_X8_init_14 n Q1456 v0 s0 s1 h = some o) : Ψ o (f_X8_init_14 n K1456 v0 s0 s1 g) := by
  unfold f_X8_init_14 at hf ⊢
  obtain ⟨c1, hf⟩ := ite_some hf
  refine zif (z_okI Z c1) ?_
  exact z_X8_init_19 HK1456 bv0 bs0 bs1 (RR_si Z bs1 (ix 1) 60000) hf
set_option maxRecDepth 100000 in
theorem z_X8_init_9 {L B : Nat} {g0 : Hp} {Ψ : Hp → Option Hp → Prop} {n : Nat} {K1456 Q1456 : Nat → Hp → Option Hp} (HK1456 : ∀ (v0 : Nat), B ≤ v0 → ∀ (h g o : Hp), RRL L B g0 h g → Q1456 v0 h = some o → Ψ o (K1456 v0 g)) {v0 : Nat} {s0 : Nat} {s1 : Nat} (bv0 : B ≤ v0) (bs0 : B ≤ s0) (bs1 : B ≤ s1) {h g o : Hp} (Z : RRL L B g0 h g) (hf : f_X8_init_9 n Q1456 v0 s0 s1 h = some o) : Ψ o (f_X8_init_9 n K1456 v0 s0 s1 g) := by
  unfold f_X8_init_9 at hf ⊢
  obtain ⟨c1, hf⟩ := ite_some hf
  refine zif (z_okI Z c1) ?_
  exact z_X8_init_14 HK1456 bv0 bs0 bs1 (RR_si Z bs1 (ix 0) 60000) hf
set_option maxRecDepth 100000 in
theorem z_X8_init_0 {L B : Nat} {g0 : Hp} {Ψ : Hp → Option Hp → Prop} {n : Nat} {K1456 Q1456 : Nat → Hp → Option Hp} (HK1456 : ∀ (v0 : Nat), B ≤ v0 → ∀ (h g o : Hp), RRL L B g0 h g → Q1456 v0 h = some o → Ψ o (K1456 v0 g)) {v0 : Nat} (bv0 : B ≤ v0) {h g o : Hp} (Z : RRL L B g0 h g) (hf : f_X8_init_0 n Q1456 v0 h = some o) : Ψ o (f_X8_init_0 n K1456 v0 g) := by
  unfold f_X8_init_0 at hf ⊢
  rw [RR_len Z]
  exact z_X8_init_9 HK1456 bv0 bv0 Z.2.1 (RR_new Z (q := (9, ix 12)) (by decide) (by decide)) hf
