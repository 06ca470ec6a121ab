section SNDX
variable (G : GT)
theorem cal_pos {X : Nat → Int32} {mi pc : Nat} {lv : Lv} {st : List Value} {h : Hp} {q : AI} {cal : Nat} {vs : List Value} {nx : Nat} {lv' : Lv} {rest : List Value} (HC : ChkOK) (hfe : fetch mi pc = some q) (hM : ∃ M, minf[mi]? = some M) (hs : astep minf X mi q pc lv st h = some (.inr (.inr (cal, vs, nx, lv', rest)))) : 0 < cal := by
  obtain ⟨M, hM⟩ := hM
  obtain ⟨-, -, e3, hlt, N, hN, -, hcase⟩ := astep_call hs
  have hck := HC.1 mi M hM pc q hfe
  rcases Nat.eq_zero_or_pos cal with z | z
  · exfalso
    obtain ⟨i, nx0, a, b, c0, t⟩ := q
    dsimp only at e3
    subst e3
    have hN0 : N = M_L_law := by
      rw [z] at hN
      exact (Option.some.inj hN).symm
    have hk0 : N.2.2.2.2.2.2.1 = 0 := by rw [hN0]; rfl
    have hno : ∀ k idx, k = nestM M.1 idx N.2.2.1 → k ∉ nestW := by
      intro k idx hk
      subst hk
      rw [hN0]
      intro hm
      simp [nestW, nestM, M_L_law] at hm
    have hno2 : ∀ idx, Cond.methodLink M.1 idx N.2.2.1 ∉ TBLG := by
      intro idx hm
      rw [hN0] at hm
      have hm := (List.mem_filter.mp hm).1
      have h2 : ∀ w ∈ lw_tbl, (match w with | .methodLink _ _ y => y.cls != "PulledToAHairLaw" | _ => true) = true := by
        have h3 : lw_tbl.all (fun w => match w with | .methodLink _ _ y => y.cls != "PulledToAHairLaw" | _ => true) = true := by decide +kernel
        exact fun w hw => List.all_eq_true.mp h3 w hw
      have h4 : ("PulledToAHairLaw" != "PulledToAHairLaw") = true := h2 _ hm
      exact absurd h4 (by decide)
    rcases hcase with ⟨idx, hi, -, -, -⟩ | ⟨idx, r, As, hi, hk, -⟩ | ⟨idx, r, As, hi, hk, -⟩
    · dsimp only at hi
      rcases hi with hi | hi
      · subst hi
        obtain ⟨-, k2, k3⟩ := ck_invs hlt hN hck
        by_cases eb : b = 0
        · exact hno2 _ (k2 eb)
        · exact hno _ idx rfl (k3 eb)
      · subst hi
        have := (ck_invv hlt hN hck).1
        omega
    · omega
    · omega
  · exact z
/-- SOUNDNESS -/
theorem sim_ok (HC : ChkOK) : ∀ (n d mi pc : Nat) (lv : Lv) (st : List Value) (h : Hp) (rv : Option Value) (h' : Hp), (∃ M, minf[mi]? = some M) → KOK h → arun (gX G) n d mi pc lv st h = some (rv, h') → Sim G d mi pc lv st h rv h' := by
  intro n
  induction n with
  | zero => intro d mi pc lv st h rv h' hMe hok hr; cases hr
  | succ n ih =>
    intro d mi pc lv st h rv h' hMe hok hr
    unfold arun at hr
    split at hr
    · cases hr
    · next q hfe =>
      split at hr
      · cases hr
      · next pc1 lv1 st1 h1 hs =>
        have hok1 : KOK h1 := by
          rcases step_kind hs with e | ⟨z, hz, e⟩
          · exact KOK_1 e hok
          · rw [e]; exact KOK_new hz hok
        obtain ⟨g1, g2, g3, g4⟩ := step_ok G hok (fun M hM => HC.1 mi M hM pc q hfe) hs
        obtain ⟨i1, i2, i3, i4⟩ := ih d mi pc1 lv1 st1 h1 rv h' hMe hok1 hr
        refine ⟨Nat.le_trans g2 i1, Nat.le_trans g3 i2, i3, fun M p l e R s m args below meth c H locs cells slots Q ls C hn hl hR hS k1 k2 k3 k4 hcs kk => ?_⟩
        refine g4 M p l e R s m args below meth c H locs cells slots Q ls C hn hl hR hS (by omega) (by omega) (by omega) (by omega) hcs fun H1 locs1 ls1 hl1 hR1 hS1 => ?_
        have hl16 := take_len hR.2.1
        refine i4 M p l e R s m args below meth c H1 locs1 _ _ Q ls1 C (g1.trans hn) hl1 hR1 hS1 k1 k2 (by omega) (by omega) (by omega) fun H2 locs2 ls2 pcr hR2 hS2 hret => ?_
        have e1 : cells + (h1.1.length - h.1.length) + (h'.1.length - h1.1.length) = cells + (h'.1.length - h.1.length) := by omega
        have e2 : slots + (slt h1 - slt h) + (slt h' - slt h1) = slots + (slt h' - slt h) := by omega
        rw [e1, e2]
        exact kk H2 locs2 ls2 pcr hR2 hS2 hret
      · next rv1 hs =>
        cases hr
        refine ⟨Nat.le_refl _, Nat.le_refl _, hok, fun M p l e R s m args below meth c H locs cells slots Q ls C hn hl hR hS k1 k2 k3 k4 hcs kk => ?_⟩
        simp only [Nat.sub_self, Nat.add_zero] at kk
        obtain ⟨M', hM', hcase⟩ := astep_ret hs
        have hMM : M' = M := Option.some.inj (hM'.symm.trans C.1)
        subst hMM
        have hck := HC.1 mi M' hM' pc q hfe
        obtain ⟨i, nx, a, b, c0, t⟩ := q
        have hd := (ck_dec hck).1
        rcases hcase with ⟨e1, e2, e3, e4⟩ | ⟨v, e1, e2, e3, e4⟩ | ⟨v, e1, e2, e3, e4⟩
        · dsimp only at e1
          subst e1; subst e2; subst e3
          exact kk H locs ls pc hR hS ⟨hd, e4⟩
        · dsimp only at e1
          subst e1; subst e2; subst e3
          exact kk H locs ls pc hR hS ⟨hd, e4⟩
        · dsimp only at e1
          subst e1; subst e2; subst e3
          exact kk H locs ls pc hR hS ⟨hd, e4⟩
      · next cal vs nx lv1 rest hs =>
        split at hr
        · cases hr
        · next d' =>
          split at hr
          · cases hr
          · next lv0 hent =>
            split at hr
            · cases hr
            · next rv1 h1 hrc =>
              have hNe : ∃ N, minf[cal]? = some N := by
                obtain ⟨-, -, -, -, N, hN, -⟩ := astep_call hs
                exact ⟨N, hN⟩
              have hS1 := ih d' cal 0 lv0 [] h rv1 h1 hNe hok hrc
              obtain ⟨i1, i2, i3, i4⟩ := ih (d' + 1) mi nx lv1 (rv1.toList ++ rest) h1 rv h' hMe hS1.2.2.1 hr
              refine ⟨Nat.le_trans hS1.1 i1, Nat.le_trans hS1.2.1 i2, i3, fun M p l e R s m args below meth c H locs cells slots Q ls C hn hl hR hS k1 k2 k3 k4 hcs kk => ?_⟩
              have g1 := hS1.1
              have g2 := hS1.2.1
              have hlv : lv1 = lv := (astep_call hs).1
              subst hlv
              refine call_ok G HC (cal_pos HC hfe hMe hs) hfe hok hs hent hS1 C hn hl hR hS k1 k2 (by omega) (by omega) hcs fun H1 locs1 hR1 hS1' => ?_
              have hl16 := take_len hR.2.1
              refine i4 M p l e R s m args below meth c H1 locs1 _ _ Q ls C hn hl hR1 hS1' k1 k2 (by omega) (by omega) (by omega) fun H2 locs2 ls2 pcr hR2 hS2 hret => ?_
              have e1 : cells + (h1.1.length - h.1.length) + (h'.1.length - h1.1.length) = cells + (h'.1.length - h.1.length) := by omega
              have e2 : slots + (slt h1 - slt h) + (slt h' - slt h1) = slots + (slt h' - slt h) := by omega
              rw [e1, e2]
              exact kk H2 locs2 ls2 pcr hR2 hS2 hret
end SNDX
