/-! SOUNDNESS of the abstract machine: what it does, the machine does -/
noncomputable abbrev GT : Type := (Nat → Int32) × Nat × va_G × (Nat → ClassId) × (Nat → Nat) × Option Nat × Nat
/-- the script, its length, classes and slots, array classes, addresses of what was there, the unknown reference, where the law's own cells begin -/
noncomputable abbrev gX (G : GT) := G.1
noncomputable abbrev gL (G : GT) := G.2.1
noncomputable abbrev gD (G : GT) := G.2.2.1
noncomputable abbrev gc (G : GT) := G.2.2.2.1
noncomputable abbrev gr (G : GT) := G.2.2.2.2.1
noncomputable abbrev gf (G : GT) := G.2.2.2.2.2.1
noncomputable abbrev gz (G : GT) := G.2.2.2.2.2.2
section SND
variable (G : GT)
noncomputable def adr (c : Nat) : Nat := if c < 16 then gr G c else gz G + (c - 16)
noncomputable def cv : Value → Value
  | .ref c => .ref (adr G c)
  | .retAddr _ => va_rf (gf G)
  | v => v
theorem cv_ref {r : Nat} : cv G (.ref r) = .ref (adr G r) := rfl
theorem cv_cat (v : Value) : (cv G v).category = v.category := by
  cases v <;> simp only [cv]
  · rfl
  · cases gf G <;> rfl
theorem cv_sum (l : List Value) : ((l.map (cv G)).map (fun v => v.category)).sum = (l.map (fun v => v.category)).sum := by
  rw [List.map_map]
  congr 1
  exact List.map_congr_left fun v _ => cv_cat G v
noncomputable def wfld (h : Hp) (a ci j : Nat) : Value := match fk (tyf ci j) with
  | 1 => .long (h.2.2.1 a j)
  | 2 => va_rf ((h.2.2.2 a j).map (adr G))
  | _ => .int (h.2.1 a j)
noncomputable def wcell (h : Hp) (a : Nat) : va_E :=
  if (hk h a).1 < 9 then .inr ((hk h a).1, (List.range (hk h a).2).map (fun j => wfld G h a (hk h a).1 j))
  else if (hk h a).1 = 9 then .inl (gc G 9, ((hk h a).2, .inl (h.2.1 a)))
  else if (hk h a).1 = 10 then .inl (gc G 10, ((hk h a).2, .inr (.inl (h.2.2.1 a))))
  else .inl (gc G (hk h a).1, ((hk h a).2, .inr (.inr (.inr (.inr (fun j => (h.2.2.2 a j).map (adr G)))))))
noncomputable def tysG : List (ClassId × FieldType) := [(gc G 9, .int), (gc G 10, .long), (gc G 11, .object RX4), (gc G 12, .object RX5), (gc G 13, .object RX6)]
noncomputable def wld (h : Hp) : va_W := (List.range (h.1.length - 16)).map (fun k => (gz G + k, wcell G h (16 + k)))
noncomputable def AG : Nat → Prop := fun q => gz G ≤ q
noncomputable def Rl (h : Hp) (H : Heap) : Prop := va_P (gD G) vwCl (wld G h) H ∧ h.1.take 16 = roK (gL G) ∧ ∀ a j r : Nat, h.2.2.2 a j = some r → 16 ≤ r
theorem take_len {l : List (Nat × Nat)} {L : Nat} (h : l.take 16 = roK L) : 16 ≤ l.length := by
  have h1 := congrArg List.length h
  simp only [List.length_take] at h1
  have h2 : (roK L).length = 16 := rfl
  omega
theorem hk_ro {h : Hp} {L a : Nat} (ht : h.1.take 16 = roK L) (ha : a < 16) : hk h a = (roK L).getD a (99, 0) := by
  unfold hk
  rw [← ht, List.getD_eq_getElem?_getD, List.getD_eq_getElem?_getD, List.getElem?_take_of_lt ha]
theorem roK_ge (L a : Nat) (ha : a < 16) : 20 ≤ ((roK L).getD a (99, 0)).1 := by
  have : a = 0 ∨ a = 1 ∨ a = 2 ∨ a = 3 ∨ a = 4 ∨ a = 5 ∨ a = 6 ∨ a = 7 ∨ a = 8 ∨ a = 9 ∨ a = 10 ∨ a = 11 ∨ a = 12 ∨ a = 13 ∨ a = 14 ∨ a = 15 := by omega
  rcases this with rfl | rfl | rfl | rfl | rfl | rfl | rfl | rfl | rfl | rfl | rfl | rfl | rfl | rfl | rfl | rfl <;> simp [roK]
theorem hk_own {h : Hp} {L a : Nat} (ht : h.1.take 16 = roK L) (hq : (hk h a).1 < 20) : 16 ≤ a ∧ a < h.1.length := by
  constructor
  · rcases Nat.lt_or_ge a 16 with h1 | h1
    · rw [hk_ro ht h1] at hq
      have := roK_ge L a h1
      omega
    · exact h1
  · rcases Nat.lt_or_ge a h.1.length with h1 | h1
    · exact h1
    · unfold hk at hq
      rw [List.getD_eq_getElem?_getD, List.getElem?_eq_none h1] at hq
      simp at hq
theorem adr_own {a : Nat} (h : 16 ≤ a) : adr G a = gz G + (a - 16) := by
  unfold adr
  rw [if_neg (by omega)]
theorem wld_get {h : Hp} {a : Nat} (h1 : 16 ≤ a) (h2 : a < h.1.length) : (wld G h)[a - 16]? = some (adr G a, wcell G h a) := by
  unfold wld
  rw [List.getElem?_map, List.getElem?_range (by omega)]
  simp only [Option.map_some]
  rw [adr_own G h1, show 16 + (a - 16) = a by omega]
theorem wld_D (h : Hp) : va_D (AG G) (wld G h) := by
  have key : ∀ (k : Nat) (q : Nat × va_E), (wld G h)[k]? = some q → q.1 = gz G + k := by
    intro k q hq
    unfold wld at hq
    rw [List.getElem?_map] at hq
    cases hr : (List.range (h.1.length - 16))[k]? with
    | none => rw [hr] at hq; cases hq
    | some i =>
      rw [hr] at hq
      have := (List.getElem?_eq_some_iff.mp hr).2
      simp at this
      subst this
      cases hq
      rfl
  refine ⟨fun i j p q hp hq he => ?_, fun k q hq => ?_⟩
  · rw [key i p hp, key j q hq] at he
    omega
  · show gz G ≤ q.1
    rw [key k q hq]
    omega
theorem wcell_congr {h h' : Hp} {b : Nat} (h1 : hk h' b = hk h b) (h2 : h'.2.1 b = h.2.1 b) (h3 : h'.2.2.1 b = h.2.2.1 b) (h4 : h'.2.2.2 b = h.2.2.2 b) : wcell G h' b = wcell G h b := by
  unfold wcell wfld
  rw [h1, h2, h3, h4]
theorem wld_upd {h h' : Hp} {a : Nat} (h1 : h'.1 = h.1) (hne : ∀ b, b ≠ a → wcell G h' b = wcell G h b) (ha : 16 ≤ a) (hl : a < h.1.length) : (wld G h).set (a - 16) (adr G a, wcell G h' a) = wld G h' := by
  refine List.ext_getElem? fun k => ?_
  rw [List.getElem?_set]
  have hlen : (wld G h).length = h.1.length - 16 := by simp [wld]
  by_cases hk : a - 16 = k
  · rw [if_pos hk, if_pos (by rw [hlen]; omega)]
    subst hk
    rw [wld_get G ha (by rw [h1]; exact hl)]
  · rw [if_neg hk]
    unfold wld
    rw [List.getElem?_map, List.getElem?_map, h1]
    cases hr : (List.range (h.1.length - 16))[k]? with
    | none => rfl
    | some i =>
      have := (List.getElem?_eq_some_iff.mp hr).2
      simp at this
      subst this
      simp only [Option.map_some]
      rw [hne (16 + k) (by omega)]
theorem hk_new {h : Hp} {q : Nat × Nat} {b : Nat} (hb : b < h.1.length) : hk (hnew h q) b = hk h b := by
  unfold hk hnew
  simp only [List.getD_eq_getElem?_getD]
  rw [List.getElem?_append_left hb]
theorem hk_newest {h : Hp} {q : Nat × Nat} : hk (hnew h q) h.1.length = q := by
  unfold hk hnew
  simp [List.getD_eq_getElem?_getD]
theorem wld_new {h : Hp} {q : Nat × Nat} (hl : 16 ≤ h.1.length) : wld G h ++ [(gz G + (h.1.length - 16), wcell G (hnew h q) h.1.length)] = wld G (hnew h q) := by
  have hlen : (hnew h q).1.length - 16 = (h.1.length - 16) + 1 := by
    unfold hnew
    simp
    omega
  have e : wld G (hnew h q) = (List.range ((h.1.length - 16) + 1)).map (fun k => (gz G + k, wcell G (hnew h q) (16 + k))) := by
    unfold wld
    rw [hlen]
  rw [e, List.range_succ, List.map_append]
  have h2 : 16 + (h.1.length - 16) = h.1.length := by omega
  simp only [List.map_cons, List.map_nil]
  rw [h2]
  congr 1
  unfold wld
  refine List.map_congr_left fun k hk => ?_
  have hk := List.mem_range.mp hk
  have hb : 16 + k < h.1.length := by omega
  have hne : 16 + k ≠ h.1.length := by omega
  rw [wcell_congr G (h' := hnew h q) (hk_new hb) (by simp [hnew, up1, hne]) (by simp [hnew, up1, hne]) (by simp [hnew, up1, hne])]
-- locals
noncomputable def las (lv : Lv) : List (Nat × Value) := (List.range lv.length).filterMap (fun i => (lv.getD i none).map (fun v => (i, cv G v)))
theorem getD_some {lv : Lv} {k : Nat} {v : Value} : lv.getD k none = some v ↔ lv[k]? = some (some v) := by
  rw [List.getD_eq_getElem?_getD]
  cases h : lv[k]? with
  | none => simp
  | some w => simp
theorem las_mem {lv : Lv} {q : Nat × Value} : q ∈ las G lv ↔ ∃ v, lv[q.1]? = some (some v) ∧ q.2 = cv G v := by
  unfold las
  rw [List.mem_filterMap]
  constructor
  · rintro ⟨i, hi, h⟩
    cases hv : lv.getD i none with
    | none => rw [hv] at h; cases h
    | some v =>
      rw [hv] at h
      cases h
      exact ⟨v, getD_some.mp hv, rfl⟩
  · rintro ⟨v, h1, h2⟩
    obtain ⟨i, w⟩ := q
    dsimp only at h1 h2
    refine ⟨i, List.mem_range.mpr (List.getElem?_eq_some_iff.mp h1).1, ?_⟩
    rw [getD_some.mpr h1, h2]
    rfl
noncomputable def LRl (lv : Lv) (ls : Array Slot) : Prop := lv_has ls lv.length (las G lv)
theorem LRl.get {lv : Lv} {ls : Array Slot} {k : Nat} {v : Value} (h : LRl G lv ls) (hv : lv.getD k none = some v) : ls[k]? = some (.val (cv G v)) :=
  h.2.2 (k, cv G v) ((las_mem G).mpr ⟨v, getD_some.mp hv, rfl⟩)
theorem lv_mono {ls : Array Slot} {n : Nat} {l l' : List (Nat × Value)} (h : lv_has ls n l) (hs : ∀ q ∈ l', q ∈ l) : lv_has ls n l' := ⟨h.1, h.2.1, fun q hq => h.2.2 q (hs q hq)⟩
theorem lclr_len (lv : Lv) (i : Nat) : (lclr lv i).length = lv.length := by
  unfold lclr
  split
  · rfl
  · split
    · split <;> simp
    · rfl
theorem lclr_get {lv : Lv} {i k : Nat} {w : Value} (h : (lclr lv i)[k]? = some (some w)) : lv[k]? = some (some w) ∧ ¬ (k + 1 = i ∧ w.category = 2) := by
  unfold lclr at h
  split at h
  · exact ⟨h, fun z => by omega⟩
  · next j =>
    split at h
    · next v hv =>
      split at h
      · next hc =>
        rw [List.getElem?_set] at h
        by_cases e : j = k
        · rw [if_pos e] at h
          split at h <;> cases h
        · rw [if_neg e] at h
          exact ⟨h, fun z => e (by omega)⟩
      · next hc =>
        refine ⟨h, fun z => ?_⟩
        have e : j = k := by omega
        subst e
        rw [getD_some.mp hv] at h
        cases h
        exact hc z.2
    · next hv =>
      refine ⟨h, fun z => ?_⟩
      have e : j = k := by omega
      subst e
      rw [getD_some.mpr h] at hv
      cases hv
theorem lset1_len (lv : Lv) (i : Nat) (v : Value) : (lset1 lv i v).length = lv.length := by simp [lset1, lclr_len]
theorem lset2_len (lv : Lv) (i : Nat) (v : Value) : (lset2 lv i v).length = lv.length := by simp [lset2, lclr_len]
theorem lset1_ok {lv : Lv} {i : Nat} {v : Value} {ls' : Array Slot} (h : lv_has ls' lv.length ((i, cv G v) :: (las G lv).filter (fun q => !(q.1 == i) && !(q.1 + 1 == i && q.2.category == 2)))) : LRl G (lset1 lv i v) ls' := by
  unfold LRl
  rw [lset1_len]
  refine lv_mono h fun q hq => ?_
  obtain ⟨w, h1, h2⟩ := (las_mem G).mp hq
  unfold lset1 at h1
  rw [List.getElem?_set] at h1
  obtain ⟨k, u⟩ := q
  dsimp only at h1 h2
  by_cases e : i = k
  · rw [if_pos e] at h1
    split at h1
    · cases h1
      subst e
      rw [h2]
      exact List.mem_cons_self
    · cases h1
  · rw [if_neg e] at h1
    obtain ⟨h3, h4⟩ := lclr_get h1
    refine List.mem_cons_of_mem _ (List.mem_filter.mpr ⟨(las_mem G).mpr ⟨w, h3, h2⟩, ?_⟩)
    subst h2
    have e' : ¬ k = i := fun z => e z.symm
    simp only [cv_cat, Bool.and_eq_true, Bool.not_eq_true', beq_eq_false_iff_ne, ne_eq, Bool.and_eq_false_iff]
    refine ⟨e', ?_⟩
    by_cases z : k + 1 = i
    · exact Or.inr fun c => h4 ⟨z, c⟩
    · exact Or.inl z
theorem lset2_ok {lv : Lv} {i : Nat} {v : Value} {ls' : Array Slot} (h : lv_has ls' lv.length ((i, cv G v) :: (las G lv).filter (fun q => !(q.1 == i) && (!(q.1 == i + 1) && !(q.1 + 1 == i && q.2.category == 2))))) : LRl G (lset2 lv i v) ls' := by
  unfold LRl
  rw [lset2_len]
  refine lv_mono h fun q hq => ?_
  obtain ⟨w, h1, h2⟩ := (las_mem G).mp hq
  unfold lset2 at h1
  rw [List.getElem?_set, List.getElem?_set] at h1
  obtain ⟨k, u⟩ := q
  dsimp only at h1 h2
  by_cases e2 : i + 1 = k
  · rw [if_pos e2] at h1
    split at h1 <;> cases h1
  · rw [if_neg e2] at h1
    by_cases e : i = k
    · rw [if_pos e] at h1
      split at h1
      · cases h1
        subst e
        rw [h2]
        exact List.mem_cons_self
      · cases h1
    · rw [if_neg e] at h1
      obtain ⟨h3, h4⟩ := lclr_get h1
      refine List.mem_cons_of_mem _ (List.mem_filter.mpr ⟨(las_mem G).mpr ⟨w, h3, h2⟩, ?_⟩)
      subst h2
      have e' : ¬ k = i := fun z => e z.symm
      have e3 : ¬ k = i + 1 := fun z => e2 z.symm
      simp only [cv_cat, Bool.and_eq_true, Bool.not_eq_true', beq_eq_false_iff_ne, ne_eq, Bool.and_eq_false_iff]
      refine ⟨e', e3, ?_⟩
      by_cases z : k + 1 = i
      · exact Or.inr fun c => h4 ⟨z, c⟩
      · exact Or.inl z
theorem lent_mem (vs : List Value) : ∀ (k i : Nat) (v : Value), (lent vs)[i]? = some (some v) → (k + i, cv G v) ∈ lv_args k (vs.map (cv G)) := by
  induction vs with
  | nil => intro k i v h; simp [lent] at h
  | cons w vs ih =>
    intro k i v h
    simp only [lent] at h
    simp only [List.map_cons, lv_args, cv_cat]
    cases i with
    | zero =>
      simp at h
      subst h
      exact List.mem_cons_self
    | succ i =>
      refine List.mem_cons_of_mem _ ?_
      rw [List.getElem?_cons_succ] at h
      by_cases c : w.category = 2
      · rw [if_pos c] at h ⊢
        cases i with
        | zero => simp at h
        | succ i =>
          rw [List.getElem?_cons_succ] at h
          have := ih (k + 2) i v h
          rwa [show k + 2 + i = k + (i + 1 + 1) by omega] at this
      · rw [if_neg c] at h ⊢
        have := ih (k + 1) i v h
        rwa [show k + 1 + i = k + (i + 1) by omega] at this
theorem lent_len (vs : List Value) : (lg_sl (vs.map (cv G))).length = (lent vs).length := by
  induction vs with
  | nil => rfl
  | cons w vs ih =>
    simp only [lg_sl, List.map_cons, List.flatMap_cons, lent, cv_cat] at ih ⊢
    by_cases c : w.category = 2
    · rw [if_pos c, if_pos c]
      simp only [List.length_append, List.length_cons, List.length_nil]
      omega
    · rw [if_neg c, if_neg c]
      simp only [List.length_append, List.length_cons, List.length_nil]
      omega
theorem lentry_ok {n : Nat} {vs : List Value} {lv : Lv} (h : lentry n vs = some lv) : lv.length = n ∧ LRl G lv ((lg_sl (vs.map (cv G)) ++ List.replicate (n - (lg_sl (vs.map (cv G))).length) Slot.unset).toArray) := by
  unfold lentry at h
  split at h
  · next hle =>
    cases h
    have hlen : (lent vs ++ List.replicate (n - (lent vs).length) (none : Option Value)).length = n := by
      simp
      omega
    refine ⟨hlen, ?_⟩
    unfold LRl
    rw [hlen]
    refine lv_mono (lv_entry (vs.map (cv G)) (by rw [lent_len]; exact hle)) fun q hq => ?_
    obtain ⟨w, h1, h2⟩ := (las_mem G).mp hq
    obtain ⟨k, u⟩ := q
    dsimp only at h1 h2
    subst h2
    have : (lent vs)[k]? = some (some w) := by
      rcases Nat.lt_or_ge k (lent vs).length with z | z
      · rwa [List.getElem?_append_left z] at h1
      · rw [List.getElem?_append_right z, List.getElem?_replicate] at h1
        split at h1 <;> cases h1
    have := lent_mem G vs 0 k w this
    rwa [Nat.zero_add] at this
  · cases h
end SND
