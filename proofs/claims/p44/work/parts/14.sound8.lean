section SND8
variable (G : GT)
theorem astep_ret {X : Nat → Int32} {mi pc : Nat} {lv : Lv} {st : List Value} {h : Hp} {q : AI} {rv : Option Value} (hs : astep minf X mi q pc lv st h = some (.inr (.inl rv))) : ∃ M, minf[mi]? = some M ∧
    ((q.1 = .return_ ∧ rv = none ∧ st = [] ∧ M.2.2.2.2.2.1 = none) ∨ (∃ v, q.1 = .ireturn ∧ rv = some (.int v) ∧ st = [.int v] ∧ okret M.2.2.2.2.2.1 v = true) ∨ (∃ v, q.1 = .lreturn ∧ rv = some (.long v) ∧ st = [.long v] ∧ M.2.2.2.2.2.1 = some .long)) := by
  obtain ⟨i, nx, a, b, c, t⟩ := q
  cases i
  case return_ =>
    simp only [astep] at hs
    split at hs
    · split at hs
      · next M hM =>
        split at hs
        · next e =>
          cases hs
          exact ⟨M, hM, Or.inl ⟨rfl, rfl, rfl, e⟩⟩
        · cases hs
      · cases hs
    · cases hs
  case ireturn =>
    simp only [astep] at hs
    split at hs
    · next v =>
      split at hs
      · next M hM =>
        split at hs
        · next e =>
          cases hs
          exact ⟨M, hM, Or.inr (Or.inl ⟨v, rfl, rfl, rfl, e⟩)⟩
        · cases hs
      · cases hs
    · cases hs
  case lreturn =>
    simp only [astep] at hs
    split at hs
    · next v =>
      split at hs
      · next M hM =>
        split at hs
        · next e =>
          cases hs
          exact ⟨M, hM, Or.inr (Or.inr ⟨v, rfl, rfl, rfl, e⟩)⟩
        · cases hs
      · cases hs
    · cases hs
  all_goals
    simp only [astep, a_go, a_jmp, a_call, a_math] at hs
    (repeat' split at hs) <;> cases hs
/-- what a call instruction asks -/
theorem astep_call {X : Nat → Int32} {mi pc : Nat} {lv : Lv} {st : List Value} {h : Hp} {q : AI} {cal : Nat} {vs : List Value} {nx : Nat} {lv' : Lv} {rest : List Value} (hs : astep minf X mi q pc lv st h = some (.inr (.inr (cal, vs, nx, lv', rest)))) :
    lv' = lv ∧ nx = q.2.1 ∧ cal = q.2.2.1 ∧ cal < 1000 ∧ ∃ N, minf[cal]? = some N ∧ (rest.map (fun v => v.category)).sum ≤ 8 ∧
    ((∃ idx, (q.1 = .invokestatic idx ∨ q.1 = .invokevirtual idx) ∧ N.2.2.2.2.2.2.1 = 0 ∧ st = vs.reverse ++ rest ∧ vs.length = N.2.2.2.2.2.2.2.1) ∨
     (∃ idx r As, (q.1 = .invokestatic idx ∨ q.1 = .invokevirtual idx) ∧ N.2.2.2.2.2.2.1 ≠ 0 ∧ N.2.2.2.2.2.2.1 ≠ 2 ∧ vs = .ref r :: As ∧ st = As.reverse ++ .ref r :: rest ∧ As.length = N.2.2.2.2.2.2.2.1 ∧ hk h r = (N.2.1, nFf N.2.1)) ∨
     (∃ idx r As, q.1 = .invokespecial idx ∧ N.2.2.2.2.2.2.1 = 2 ∧ vs = .ref r :: As ∧ st = As.reverse ++ .ref r :: rest ∧ As.length = N.2.2.2.2.2.2.2.1 ∧ hk h r = (N.2.1, nFf N.2.1))) := by
  have big : minf.length < 1000 := by decide +kernel
  have key : ∀ (cl : Nat) (nx0 : Nat) (init : Bool), a_call minf cl nx0 lv st h init = some (.inr (.inr (cal, vs, nx, lv', rest))) → lv' = lv ∧ nx = nx0 ∧ cal = cl ∧ ∃ N, minf[cal]? = some N ∧ (rest.map (fun v => v.category)).sum ≤ 8 ∧
      ((init = false ∧ N.2.2.2.2.2.2.1 = 0 ∧ st = vs.reverse ++ rest ∧ vs.length = N.2.2.2.2.2.2.2.1) ∨ (∃ r As, N.2.2.2.2.2.2.1 ≠ 0 ∧ init = decide (N.2.2.2.2.2.2.1 = 2) ∧ vs = .ref r :: As ∧ st = As.reverse ++ .ref r :: rest ∧ As.length = N.2.2.2.2.2.2.2.1 ∧ hk h r = (N.2.1, nFf N.2.1))) := by
    intro cl nx0 init hs
    unfold a_call at hs
    split at hs
    · cases hs
    · next N hN =>
      split at hs
      · cases hs
      · next hlen =>
        split at hs
        · next hk0 =>
          split at hs
          · next hc =>
            cases hs
            refine ⟨rfl, rfl, rfl, N, hN, hc.1, Or.inl ⟨hc.2, hk0, ?_, ?_⟩⟩
            · rw [List.reverse_reverse, List.take_append_drop]
            · rw [List.length_reverse, List.length_take]
              omega
          · cases hs
        · next hk0 =>
          split at hs
          · next r rest' hdr =>
            split at hs
            · next hc =>
              cases hs
              refine ⟨rfl, rfl, rfl, N, hN, hc.1, Or.inr ⟨r, _, hk0, hc.2.2, rfl, ?_, ?_, hc.2.1⟩⟩
              · rw [List.reverse_reverse, ← hdr, List.take_append_drop]
              · rw [List.length_reverse, List.length_take]
                omega
            · cases hs
          · cases hs
  have lt : ∀ N, minf[cal]? = some N → cal < 1000 := fun N hN => by
    have := (List.getElem?_eq_some_iff.mp hN).1
    omega
  obtain ⟨i, nx0, a, b, c, t⟩ := q
  cases i
  case invokestatic idx =>
    simp only [astep, a_go, a_math] at hs
    split at hs
    · (repeat' split at hs) <;> cases hs
    · split at hs
      · (repeat' split at hs) <;> cases hs
      · obtain ⟨e1, e2, e3, N, hN, hsum, hc⟩ := key _ _ _ hs
        refine ⟨e1, e2, e3, lt N hN, N, hN, hsum, ?_⟩
        rcases hc with ⟨-, z1, z2, z3⟩ | ⟨r, As, z0, z1, z2, z3, z4, z5⟩
        · exact Or.inl ⟨idx, Or.inl rfl, z1, z2, z3⟩
        · exact Or.inr (Or.inl ⟨idx, r, As, Or.inl rfl, z0, by simpa using z1, z2, z3, z4, z5⟩)
  case invokevirtual idx =>
    simp only [astep] at hs
    obtain ⟨e1, e2, e3, N, hN, hsum, hc⟩ := key _ _ _ hs
    refine ⟨e1, e2, e3, lt N hN, N, hN, hsum, ?_⟩
    rcases hc with ⟨-, z1, z2, z3⟩ | ⟨r, As, z0, z1, z2, z3, z4, z5⟩
    · exact Or.inl ⟨idx, Or.inr rfl, z1, z2, z3⟩
    · exact Or.inr (Or.inl ⟨idx, r, As, Or.inr rfl, z0, by simpa using z1, z2, z3, z4, z5⟩)
  case invokespecial idx =>
    simp only [astep, a_go] at hs
    split at hs
    · (repeat' split at hs) <;> cases hs
    · obtain ⟨e1, e2, e3, N, hN, hsum, hc⟩ := key _ _ _ hs
      refine ⟨e1, e2, e3, lt N hN, N, hN, hsum, ?_⟩
      rcases hc with ⟨z0, -⟩ | ⟨r, As, z0, z1, z2, z3, z4, z5⟩
      · cases z0
      · exact Or.inr (Or.inr ⟨idx, r, As, rfl, by simpa using z1.symm, z2, z3, z4, z5⟩)
  all_goals
    simp only [astep, a_go, a_jmp] at hs
    (repeat' split at hs) <;> cases hs
end SND8
