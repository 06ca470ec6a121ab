/-! rest, dust, doublings -/
noncomputable abbrev qr (v : Int32) : Int32 := v - v / 10 * 10
theorem q10 {v : Int32} (h : 0 ≤ v ∧ v ≤ 99) (h0 : ¬ qr v = 0) : (0 ≤ (v / 10).toInt ∧ (v / 10).toInt ≤ 9) ∧ 1 ≤ (qr v).toInt ∧ (qr v).toInt ≤ 9 := by
  have a := le32.mp h.1
  have b := le32.mp h.2
  rw [k_0] at a; rw [k_99] at b
  have e1 : (v / 10).toInt = v.toInt / 10 := by rw [td (by omega) (by decide), k_10]
  have e2 : (v / 10 * 10).toInt = v.toInt / 10 * 10 := by rw [tm] <;> rw [e1, k_10] <;> omega
  have e3 : (qr v).toInt = v.toInt - v.toInt / 10 * 10 := by unfold qr; rw [ts] <;> rw [e2] <;> omega
  have e4 : (qr v).toInt ≠ 0 := fun z => h0 (by rw [e32, k_0]; exact z)
  rw [e1, e3] at *
  omega
noncomputable def rsq (T : Nat → List Int32) (w wm v : Int32) (r : RP) (m : Nat) : RP := sDraw (e0 T w wm) (allL (sRest wm (iN m) r) * (v / 10) / 10) (qr v) (sRest wm (iN m) r)
noncomputable def rsl (T : Nat → List Int32) (w wm v s : Int32) (r : RP) : Nat → Nat → Int32
  | 0, _ => -1
  | j + 1, m => if rW (rsq T w wm v r m) * 100 < Int32.toInt64 s * rW r then rsl T w wm v s r j (m + 1) else iN m
theorem i30 {k : Nat} (h : k < 31) : ¬ (30 : Int32) < iN k := by
  show ¬ iN 30 < iN k
  rw [iN_lt (by omega) (by omega)]; omega
theorem t30 {k : Nat} (h : k < 31) : 0 ≤ (iN k).toInt ∧ (iN k).toInt ≤ 30 := by rw [iN_t (by omega)]; omega
theorem l_crest {T : Nat → List Int32} {w wm : Int32} (hwm : 0 ≤ wm.toInt ∧ wm.toInt ≤ 9) {r : RP} (H : okP r) {v : Int32} (hv : (0 ≤ (v / 10).toInt ∧ (v / 10).toInt ≤ 9) ∧ 1 ≤ (qr v).toInt ∧ (qr v).toInt ≤ 9) (s : Int32) (j : Nat) : ∀ (k m : Nat) (h : Hp), k + j = 31 → j < m → CR 82 r h → CE (e0 T w wm) h → ∃ h', g_X7_rest_55 4000 m v s (iN k) h = some (rsl T w wm v s r j k, h') ∧ Fr SX h h' := by
  induction j with
  | zero =>
    intro k m h ek hm R E
    obtain ⟨m, rfl⟩ : ∃ z, m = z + 1 := ⟨m - 1, by omega⟩
    obtain rfl : k = 31 := by omega
    exact ⟨h, by rw [g_X7_rest_55, if_pos (by decide)]; rfl, Fr.rfl' _ _⟩
  | succ j ih =>
    intro k m h ek hm R E
    obtain ⟨m, rfl⟩ : ∃ z, m = z + 1 := ⟨m - 1, by omega⟩
    have o1 : k + 1 + j = 31 := by omega
    have o2 : j < m := by omega
    have o3 : k < 31 := by omega
    have o4 : k < 2147483647 := by omega
    obtain ⟨h1, a1, b1, c1, f1⟩ := c_tried R
    have E1 := CE_SX f1 E
    obtain ⟨h2, a2, b2, f2⟩ := c_rest (Or.inr rfl) b1 E1.2.2.1 (iN k)
    have f2' : Fr (SCr 89) h1 h2 := f2.mono (fun a k z => by unfold SCr; omega)
    have E2 := CE_fr (Or.inr rfl) f2' E1
    have c2 : CR 82 r h2 := CR_fr f2 (fun a k => by omega) c1
    have H2 : okP (sRest wm (iN k) r) := okP_rest H (t30 o3) hwm
    have b2' : CR 89 (sRest wm (iN k) r) h2 := b2
    obtain ⟨-, -, t1, t2⟩ := tenth_t H2 hv.1
    obtain ⟨h3, a3, b3, -, f3⟩ := c_draw (Or.inr rfl) b2' E2 CO0 H2 (x := allL (sRest wm (iN k) r) * (v / 10) / 10) ⟨t1, t2⟩ hv.2
    have c3 : CR 82 r h3 := CR_fr f3 (fun a k => by unfold SCr isStk; omega) c2
    have E3 := CE_fr (Or.inr rfl) f3 E2
    have f : Fr SX h h3 := ((f1.mono (fun a k z => SX89 z)).tr (f2'.mono (fun a k z => SCr_SX (Or.inr rfl) z))).tr (f3.mono (fun a k z => SCr_SX (Or.inr rfl) z))
    have g1 : gL' h3 89 10 = rW (rsq T w wm v r k) := b3.2.2.2.2.1
    have g2 : gL' h3 82 10 = rW r := c3.2.2.2.2.1
    have tn' := c_tenths b2' H2 hv.1
    have hr : rsl T w wm v s r (j + 1) k = if rW (rsq T w wm v r k) * 100 < Int32.toInt64 s * rW r then rsl T w wm v s r j (k + 1) else iN k := rfl
    rw [g_X7_rest_55, if_neg (i30 o3), a1, Option.bind_some, a2, Option.bind_some, tn', Option.bind_some, a3, Option.bind_some, g1, g2, hr, Int64.mul_comm (rW r)]
    by_cases z : rW (rsq T w wm v r k) * 100 < Int32.toInt64 s * rW r
    · rw [if_pos z, if_pos z, iN_add o4]
      obtain ⟨h4, a4, f4⟩ := ih (k + 1) m h3 o1 o2 c3 E3
      exact ⟨h4, a4, f.tr f4⟩
    · rw [if_neg z, if_neg z]
      exact ⟨h3, rfl, f⟩
theorem l_rrst {σ : SS} {T : Nat → List Int32} {M Ln : Nat → Int32} {w wm : Int32} {t : Nat} {N : Nat} (hN : N ≤ 12) (hN2 : ∀ k, k < N → iN k < σ.1) {v : Int32} (hv : (0 ≤ (v / 10).toInt ∧ (v / 10).toInt ≤ 9) ∧ 1 ≤ (qr v).toInt ∧ (qr v).toInt ≤ 9) (s : Int32) (j : Nat) : ∀ (k m : Nat) (h : Hp), k + j = 31 → j < m → EN σ T M Ln w wm t h → ∃ h', g_X8_rest_44 4000 m (iN N) v s (iN k) h = some (rsl T w wm v s (gr0 σ T M Ln w wm (-1) N) j k, h') ∧ Fr SX h h' := by
  induction j with
  | zero =>
    intro k m h ek hm E
    obtain ⟨m, rfl⟩ : ∃ z, m = z + 1 := ⟨m - 1, by omega⟩
    obtain rfl : k = 31 := by omega
    exact ⟨h, by rw [g_X8_rest_44, if_pos (by decide)]; rfl, Fr.rfl' _ _⟩
  | succ j ih =>
    intro k m h ek hm E
    obtain ⟨m, rfl⟩ : ∃ z, m = z + 1 := ⟨m - 1, by omega⟩
    have o1 : k + 1 + j = 31 := by omega
    have o2 : j < m := by omega
    have o3 : k < 31 := by omega
    have o4 : k < 2147483647 := by omega
    have H : okP (gr0 σ T M Ln w wm (-1) N) := EN_ok E 0 0 (-1) hN hN2
    obtain ⟨h1, a1, b1, E1, f1⟩ := mkG E hN hN2
    obtain ⟨r, hr0⟩ : ∃ r, r = gr0 σ T M Ln w wm (-1) N := ⟨_, rfl⟩
    rw [← hr0] at b1 H ih ⊢
    obtain ⟨h2, a2, b2, f2⟩ := r_rest b1 E1.2.2.1 (iN k)
    have f2' : Fr SR h1 h2 := f2.mono (fun a k z => by unfold SR; omega)
    have E2 := RE_fr f2' E1
    have H2 : okP (sRest wm (iN k) r) := okP_rest H (t30 o3) E.2.2.2.2.2.2.2.2.2.2.2.2.2.2.2
    have b2' : RR (sRest wm (iN k) r) h2 := b2
    obtain ⟨-, -, t1, t2⟩ := tenth_t H2 hv.1
    obtain ⟨h3, a3, b3, -, f3⟩ := r_draw b2' E2 RO0 H2 (x := allL (sRest wm (iN k) r) * (v / 10) / 10) ⟨t1, t2⟩ hv.2
    have f : Fr SX h h3 := (f1.tr (f2'.mono (fun a k z => SR_SX z))).tr (f3.mono (fun a k z => SR_SX z))
    have g1 : gL' h3 96 43 = rW (rsq T w wm v r k) := b3.2.2.2.2.1
    have g2 : gL' h1 96 43 = rW r := b1.2.2.2.2.1
    have al := r_all b2'
    have hr : rsl T w wm v s r (j + 1) k = if rW (rsq T w wm v r k) * 100 < Int32.toInt64 s * rW r then rsl T w wm v s r j (k + 1) else iN k := rfl
    rw [g_X8_rest_44, if_neg (i30 o3), a1, Option.bind_some, a2, Option.bind_some, al, Option.bind_some, a3, Option.bind_some, g1, g2, hr]
    by_cases z : rW (rsq T w wm v r k) * 100 < Int32.toInt64 s * rW r
    · rw [if_pos z, if_pos z, iN_add o4]
      obtain ⟨h4, a4, f4⟩ := ih (k + 1) m h3 o1 o2 (EN_fr f E)
      exact ⟨h4, a4, f.tr f4⟩
    · rw [if_neg z, if_neg z]
      exact ⟨h3, rfl, f⟩
theorem cn_rest (n : Nat) {a b c v : Int32} {h h1 h2 : Hp} (ha : g_X7_areSteps a h = some (1, h)) (hb : 1 ≤ b ∧ b ≤ 99) (hq : ¬ qr b = 0) (hc : 0 ≤ c ∧ c ≤ 100) (e1 : g_X7_make n 17 a (-1) (-1) h = some h1) (e2 : g_X7_rest_55 n n b c 0 h1 = some (v, h2)) : g_X7_rest n a b c h = some (v, h2) := by
  simp only [g_X7_rest_0, g_X7_rest, ha, wC, if_pos hb, if_neg hq, if_pos hc, Option.bind_some, ne10, eq10, ne_eq, not_false_eq_true, if_true, if_false, e1]
  exact e2
theorem rn_rest (n : Nat) {a b c v : Int32} {h h2 : Hp} (ha : g_X8_areSteps a h = some (1, h)) (hb : 0 ≤ b ∧ b ≤ 99) (hq : ¬ qr b = 0) (hc : 0 ≤ c ∧ c ≤ 100) (e2 : g_X8_rest_44 n n a b c 0 h = some (v, h2)) : g_X8_rest n a b c h = some (v, h2) := by
  simp only [g_X8_rest_0, g_X8_rest, ha, wI, if_pos hb, if_neg hq, if_pos hc, Option.bind_some, ne10, eq10, ne_eq, not_false_eq_true, if_true, if_false]
  exact e2
theorem pr_rest {L : Nat} {h : Hp} (R : Rel L h) (a b c : Int32) : Pair L (g_X7_rest 4000 a b c) (g_X8_rest 4000 a b c) h := by
  obtain ⟨σ, T, M, Ln, w, wm, t, E⟩ := EN_of R
  by_cases hn : 0 ≤ a ∧ a ≤ σ.1
  case neg => exact Pair.pure (-5) R (by simp [g_X7_rest_0, g_X7_rest, cAre E, if_neg hn]) (by simp [g_X8_rest_0, g_X8_rest, rAre E, if_neg hn])
  by_cases hb : 0 ≤ b ∧ b ≤ 99
  case neg =>
    have hb' : ¬ (1 ≤ b ∧ b ≤ 99) := by lia
    exact Pair.pure (-7) R (by simp [g_X7_rest_0, g_X7_rest, cAre E, if_pos hn, wC, if_neg hb']) (by simp [g_X8_rest_0, g_X8_rest, rAre E, if_pos hn, wI, if_neg hb])
  by_cases hq : qr b = 0
  · refine Pair.pure (-7) R ?_ (by simp only [g_X8_rest_0, g_X8_rest, rAre E, if_pos hn, wI, if_pos hb, Option.bind_some, ne10, eq10, if_pos hq, ne_eq, not_false_eq_true, if_true, if_false])
    by_cases hb' : 1 ≤ b ∧ b ≤ 99
    · simp only [g_X7_rest_0, g_X7_rest, cAre E, if_pos hn, wC, if_pos hb', Option.bind_some, ne10, eq10, if_pos hq, ne_eq, not_false_eq_true, if_true, if_false]
    · simp [g_X7_rest_0, g_X7_rest, cAre E, if_pos hn, wC, if_neg hb']
  have hb' : 1 ≤ b ∧ b ≤ 99 := by
    refine ⟨?_, hb.2⟩
    have : b ≠ 0 := fun z => hq (by rw [z]; rfl)
    have := hb.1
    lia
  by_cases hc : 0 ≤ c ∧ c ≤ 100
  case neg => exact Pair.pure (-7) R (by simp only [g_X7_rest_0, g_X7_rest, cAre E, if_pos hn, wC, if_pos hb', Option.bind_some, ne10, eq10, if_neg hq, if_neg hc, ne_eq, not_true_eq_false, not_false_eq_true, if_true, if_false]) (by simp only [g_X8_rest_0, g_X8_rest, rAre E, if_pos hn, wI, if_pos hb, Option.bind_some, ne10, eq10, if_neg hq, if_neg hc, ne_eq, not_true_eq_false, not_false_eq_true, if_true, if_false])
  have hv := q10 hb hq
  obtain ⟨N, hN, rfl, hN2⟩ := nOf E.1 hn
  have H := EN_ok E 0 0 (-1) hN hN2
  obtain ⟨h1, e1, c1, C1, f1⟩ := mkC E (-1) hN hN2
  obtain ⟨h2, e2, f2⟩ := l_crest E.2.2.2.2.2.2.2.2.2.2.2.2.2.2.2 H hv c 31 0 4000 h1 rfl (by omega) c1 C1
  have E2 := EN_fr (f1.tr f2) E
  obtain ⟨h4, e4, f4⟩ := l_rrst hN hN2 hv c 31 0 4000 h2 rfl (by omega) E2
  have s1 : g_X7_areSteps (iN N) h = some (1, h) := by rw [cAre E, if_pos hn]
  have s2 : g_X8_areSteps (iN N) h2 = some (1, h2) := by rw [rAre E2, if_pos hn]
  exact ⟨_, h2, h4, cn_rest 4000 s1 hb' hq hc e1 e2, rn_rest 4000 s2 hb hq hc e4, Rel_fr ((f1.tr f2).tr f4) R⟩
noncomputable def dsl (T : Nat → List Int32) (w wm s : Int32) (r : RP) : Nat → Nat → Int32
  | 0, _ => -1
  | j + 1, m => if Int32.toInt64 s * rE r < (rE r - rE (sFold (e0 T w wm) (sDust (iN m) r))) * 100 then dsl T w wm s r j (m + 1) else iN m
theorem i99 {k : Nat} (h : k < 100) : ¬ (99 : Int32) < iN k := by
  show ¬ iN 99 < iN k
  rw [iN_lt (by omega) (by omega)]; omega
theorem l_cdsl {T : Nat → List Int32} {w wm : Int32} {r : RP} (H : okP r) (s : Int32) (j : Nat) : ∀ (k m : Nat) (h : Hp), k + j = 100 → j < m → CR 82 r h → CE (e0 T w wm) h → ∃ h', g_X7_dust_37 4000 m s (iN k) h = some (dsl T w wm s r j k, h') ∧ Fr SX h h' := by
  induction j with
  | zero =>
    intro k m h ek hm R E
    obtain ⟨m, rfl⟩ : ∃ z, m = z + 1 := ⟨m - 1, by omega⟩
    obtain rfl : k = 100 := by omega
    exact ⟨h, by rw [g_X7_dust_37, if_pos (by decide)]; rfl, Fr.rfl' _ _⟩
  | succ j ih =>
    intro k m h ek hm R E
    obtain ⟨m, rfl⟩ : ∃ z, m = z + 1 := ⟨m - 1, by omega⟩
    have o1 : k + 1 + j = 100 := by omega
    have o2 : j < m := by omega
    have o3 : k < 100 := by omega
    have o4 : k < 2147483647 := by omega
    obtain ⟨h1, a1, b1, c1, f1⟩ := c_tried R
    have E1 := CE_SX f1 E
    obtain ⟨h2, a2, b2, f2⟩ := c_dust b1 (iN k)
    have f2' : Fr (SCr 89) h1 h2 := f2.mono (fun a k z => by unfold SCr; omega)
    have E2 := CE_fr (Or.inr rfl) f2' E1
    have c2 : CR 82 r h2 := CR_fr f2 (fun a k => by omega) c1
    obtain ⟨h3, a3, b3, f3⟩ := c_fold (Or.inr rfl) b2 E2 (okP_dust H (iN k))
    have f3' : Fr (SCr 89) h2 h3 := f3.mono (fun a k z => z.1)
    have c3 : CR 82 r h3 := CR_fr f3' (fun a k => by unfold SCr isStk; omega) c2
    have E3 := CE_fr (Or.inr rfl) f3' E2
    have f : Fr SX h h3 := ((f1.mono (fun a k z => SX89 z)).tr (f2'.mono (fun a k z => SCr_SX (Or.inr rfl) z))).tr (f3'.mono (fun a k z => SCr_SX (Or.inr rfl) z))
    have g1 : gL' h3 89 11 = rE (sFold (e0 T w wm) (sDust (iN k) r)) := b3.2.2.2.2.2
    have g2 : gL' h3 82 11 = rE r := c3.2.2.2.2.2
    have hr : dsl T w wm s r (j + 1) k = if Int32.toInt64 s * rE r < (rE r - rE (sFold (e0 T w wm) (sDust (iN k) r))) * 100 then dsl T w wm s r j (k + 1) else iN k := rfl
    rw [g_X7_dust_37, if_neg (i99 o3), a1, Option.bind_some, a2, Option.bind_some, a3, Option.bind_some, g1, g2, hr, Int64.mul_comm (rE r)]
    by_cases z : Int32.toInt64 s * rE r < (rE r - rE (sFold (e0 T w wm) (sDust (iN k) r))) * 100
    · rw [if_pos z, if_pos z, iN_add o4]
      obtain ⟨h4, a4, f4⟩ := ih (k + 1) m h3 o1 o2 c3 E3
      exact ⟨h4, a4, f.tr f4⟩
    · rw [if_neg z, if_neg z]
      exact ⟨h3, rfl, f⟩
theorem l_rdsl {σ : SS} {T : Nat → List Int32} {M Ln : Nat → Int32} {w wm : Int32} {t : Nat} {N : Nat} (hN : N ≤ 12) (hN2 : ∀ k, k < N → iN k < σ.1) (s : Int32) (j : Nat) : ∀ (k m : Nat) (h : Hp), k + j = 100 → j < m → EN σ T M Ln w wm t h → ∃ h', g_X8_dust_26 4000 m (iN N) s (iN k) h = some (dsl T w wm s (gr0 σ T M Ln w wm (-1) N) j k, h') ∧ Fr SX h h' := by
  induction j with
  | zero =>
    intro k m h ek hm E
    obtain ⟨m, rfl⟩ : ∃ z, m = z + 1 := ⟨m - 1, by omega⟩
    obtain rfl : k = 100 := by omega
    exact ⟨h, by rw [g_X8_dust_26, if_pos (by decide)]; rfl, Fr.rfl' _ _⟩
  | succ j ih =>
    intro k m h ek hm E
    obtain ⟨m, rfl⟩ : ∃ z, m = z + 1 := ⟨m - 1, by omega⟩
    have o1 : k + 1 + j = 100 := by omega
    have o2 : j < m := by omega
    have o3 : k < 100 := by omega
    have o4 : k < 2147483647 := by omega
    have H : okP (gr0 σ T M Ln w wm (-1) N) := EN_ok E 0 0 (-1) hN hN2
    obtain ⟨h1, a1, b1, E1, f1⟩ := mkG E hN hN2
    obtain ⟨r, hr0⟩ : ∃ r, r = gr0 σ T M Ln w wm (-1) N := ⟨_, rfl⟩
    rw [← hr0] at b1 H ih ⊢
    obtain ⟨h2, a2, b2, f2⟩ := r_dust b1 (iN k)
    have f2' : Fr SR h1 h2 := f2.mono (fun a k z => by unfold SR; omega)
    have E2 := RE_fr f2' E1
    obtain ⟨h3, a3, b3, f3⟩ := r_fold b2 E2 (okP_dust H (iN k))
    have f : Fr SX h h3 := (f1.tr (f2'.mono (fun a k z => SR_SX z))).tr (f3.mono (fun a k z => SR_SX z.1))
    have g1 : gL' h3 96 44 = rE (sFold (e0 T w wm) (sDust (iN k) r)) := b3.2.2.2.2.2
    have g2 : gL' h1 96 44 = rE r := b1.2.2.2.2.2
    have hr : dsl T w wm s r (j + 1) k = if Int32.toInt64 s * rE r < (rE r - rE (sFold (e0 T w wm) (sDust (iN k) r))) * 100 then dsl T w wm s r j (k + 1) else iN k := rfl
    rw [g_X8_dust_26, if_neg (i99 o3), a1, Option.bind_some, a2, Option.bind_some, a3, Option.bind_some, g1, g2, hr]
    by_cases z : Int32.toInt64 s * rE r < (rE r - rE (sFold (e0 T w wm) (sDust (iN k) r))) * 100
    · rw [if_pos z, if_pos z, iN_add o4]
      obtain ⟨h4, a4, f4⟩ := ih (k + 1) m h3 o1 o2 (EN_fr f E)
      exact ⟨h4, a4, f.tr f4⟩
    · rw [if_neg z, if_neg z]
      exact ⟨h3, rfl, f⟩
theorem cn_dust (n : Nat) {a c v : Int32} {h h1 h2 : Hp} (ha : g_X7_areSteps a h = some (1, h)) (hc : 0 ≤ c ∧ c ≤ 100) (e1 : g_X7_make n 17 a (-1) (-1) h = some h1) (e2 : g_X7_dust_37 n n c 0 h1 = some (v, h2)) : g_X7_dust n a c h = some (v, h2) := by
  simp only [g_X7_dust_0, g_X7_dust, ha, wC, if_pos hc, Option.bind_some, ne10, eq10, ne_eq, not_false_eq_true, if_true, if_false, e1]
  exact e2
theorem rn_dust (n : Nat) {a c v : Int32} {h h2 : Hp} (ha : g_X8_areSteps a h = some (1, h)) (hc : 0 ≤ c ∧ c ≤ 100) (e2 : g_X8_dust_26 n n a c 0 h = some (v, h2)) : g_X8_dust n a c h = some (v, h2) := by
  simp only [g_X8_dust_0, g_X8_dust, ha, wI, if_pos hc, Option.bind_some, ne10, eq10, ne_eq, not_false_eq_true, if_true, if_false]
  exact e2
theorem pr_dust {L : Nat} {h : Hp} (R : Rel L h) (a c : Int32) : Pair L (g_X7_dust 4000 a c) (g_X8_dust 4000 a c) h := by
  obtain ⟨σ, T, M, Ln, w, wm, t, E⟩ := EN_of R
  by_cases hn : 0 ≤ a ∧ a ≤ σ.1
  case neg => exact Pair.pure (-5) R (by simp [g_X7_dust_0, g_X7_dust, cAre E, if_neg hn]) (by simp [g_X8_dust_0, g_X8_dust, rAre E, if_neg hn])
  by_cases hc : 0 ≤ c ∧ c ≤ 100
  case neg => exact Pair.pure (-7) R (by simp [g_X7_dust_0, g_X7_dust, cAre E, if_pos hn, wC, if_neg hc]) (by simp [g_X8_dust_0, g_X8_dust, rAre E, if_pos hn, wI, if_neg hc])
  obtain ⟨N, hN, rfl, hN2⟩ := nOf E.1 hn
  have H := EN_ok E 0 0 (-1) hN hN2
  obtain ⟨h1, e1, c1, C1, f1⟩ := mkC E (-1) hN hN2
  obtain ⟨h2, e2, f2⟩ := l_cdsl H c 100 0 4000 h1 rfl (by omega) c1 C1
  have E2 := EN_fr (f1.tr f2) E
  obtain ⟨h4, e4, f4⟩ := l_rdsl hN hN2 c 100 0 4000 h2 rfl (by omega) E2
  have s1 : g_X7_areSteps (iN N) h = some (1, h) := by rw [cAre E, if_pos hn]
  have s2 : g_X8_areSteps (iN N) h2 = some (1, h2) := by rw [rAre E2, if_pos hn]
  exact ⟨_, h2, h4, cn_dust 4000 s1 hc e1 e2, rn_dust 4000 s2 hc e4, Rel_fr ((f1.tr f2).tr f4) R⟩
noncomputable def dbq (T : Nat → List Int32) (w wm p : Int32) (r : RP) : RP := sFold (e0 T w wm) (sDraw (e0 T w wm) (allL r) p r)
noncomputable def dbl' (T : Nat → List Int32) (w wm p th : Int32) : Nat → Nat → RP → Int32
  | 0, _, _ => 20
  | j + 1, k, r => if th ≤ tlo (dbq T w wm p r) then dbl' T w wm p th j (k + 1) (dbq T w wm p r) else iN k
theorem i20 {k : Nat} (h : k < 20) : ¬ (20 : Int32) ≤ iN k := by
  show ¬ iN 20 ≤ iN k
  rw [iN_le (by omega) (by omega)]; omega
theorem okP_dbq {T : Nat → List Int32} {w wm p : Int32} (hp : 1 ≤ p.toInt ∧ p.toInt ≤ 9) {r : RP} (H : okP r) : okP (sDraw (e0 T w wm) (allL r) p r) ∧ okP (dbq T w wm p r) := by
  have a := allL_t H
  have b := (okP_draw (e := e0 T w wm) (x := allL r) H (by omega) hp).1
  exact ⟨b, okP_fold b⟩
theorem l_cdbl {T : Nat → List Int32} {w wm p : Int32} (hp : 1 ≤ p.toInt ∧ p.toInt ≤ 9) (th : Int32) (j : Nat) : ∀ (k m : Nat) (r : RP) (h : Hp), k + j = 20 → j < m → okP r → CR 82 r h → CE (e0 T w wm) h → ∃ h', g_X7_doublings_49 4000 m p th (iN k) h = some (dbl' T w wm p th j k r, h') ∧ Fr SX h h' := by
  induction j with
  | zero =>
    intro k m r h ek hm H R E
    obtain ⟨m, rfl⟩ : ∃ z, m = z + 1 := ⟨m - 1, by omega⟩
    obtain rfl : k = 20 := by omega
    exact ⟨h, by rw [g_X7_doublings_49, if_pos (by decide)]; rfl, Fr.rfl' _ _⟩
  | succ j ih =>
    intro k m r h ek hm H R E
    obtain ⟨m, rfl⟩ : ∃ z, m = z + 1 := ⟨m - 1, by omega⟩
    have o1 : k + 1 + j = 20 := by omega
    have o2 : j < m := by omega
    have o3 : k < 20 := by omega
    have o4 : k < 2147483647 := by omega
    obtain ⟨Hd, Hq⟩ := okP_dbq (T := T) (w := w) (wm := wm) hp H
    have al := allL_t H
    have a0 := c_all R H
    obtain ⟨h1, a1, b1, -, f1⟩ := c_draw (Or.inl rfl) R E CO0 H (x := allL r) ⟨by omega, by omega⟩ hp
    have E1 := CE_fr (Or.inl rfl) f1 E
    obtain ⟨h2, a2, b2, f2⟩ := c_fold (Or.inl rfl) b1 E1 Hd
    have f2' : Fr (SCr 82) h1 h2 := f2.mono (fun a k z => z.1)
    have E2 := CE_fr (Or.inl rfl) f2' E1
    have f : Fr SX h h2 := (f1.mono (fun a k z => SCr_SX (Or.inl rfl) z)).tr (f2'.mono (fun a k z => SCr_SX (Or.inl rfl) z))
    have b2' : CR 82 (dbq T w wm p r) h2 := b2
    have l1 := lst_lt (dbq T w wm p r) 11
    have c1 := c_least b2' Hq
    have c2 := c_thick b2' Hq (c := lst (dbq T w wm p r) 11) (by omega)
    have hr : dbl' T w wm p th (j + 1) k r = if th ≤ tlo (dbq T w wm p r) then dbl' T w wm p th j (k + 1) (dbq T w wm p r) else iN k := rfl
    rw [g_X7_doublings_49, if_neg (i20 o3), a0, Option.bind_some, a1, Option.bind_some, a2, Option.bind_some, c1, Option.bind_some, c2, Option.bind_some, hr]
    show ∃ h', (if th ≤ tlo (dbq T w wm p r) then _ else _) = _ ∧ _
    by_cases z : th ≤ tlo (dbq T w wm p r)
    · rw [if_pos z, if_pos z, iN_add o4]
      obtain ⟨h4, a4, f4⟩ := ih (k + 1) m _ h2 o1 o2 Hq b2' E2
      exact ⟨h4, a4, f.tr f4⟩
    · rw [if_neg z, if_neg z]
      exact ⟨h2, rfl, f⟩
theorem l_rdbl {T : Nat → List Int32} {w wm p : Int32} (hp : 1 ≤ p.toInt ∧ p.toInt ≤ 9) (th : Int32) (j : Nat) : ∀ (k m : Nat) (r : RP) (h : Hp), k + j = 20 → j < m → okP r → RR r h → RE (e0 T w wm) h → ∃ h', g_X8_doublings_43 4000 m p th (iN k) h = some (dbl' T w wm p th j k r, h') ∧ Fr SX h h' := by
  induction j with
  | zero =>
    intro k m r h ek hm H R E
    obtain ⟨m, rfl⟩ : ∃ z, m = z + 1 := ⟨m - 1, by omega⟩
    obtain rfl : k = 20 := by omega
    exact ⟨h, by rw [g_X8_doublings_43, if_pos (by decide)]; rfl, Fr.rfl' _ _⟩
  | succ j ih =>
    intro k m r h ek hm H R E
    obtain ⟨m, rfl⟩ : ∃ z, m = z + 1 := ⟨m - 1, by omega⟩
    have o1 : k + 1 + j = 20 := by omega
    have o2 : j < m := by omega
    have o3 : k < 20 := by omega
    have o4 : k < 2147483647 := by omega
    obtain ⟨Hd, Hq⟩ := okP_dbq (T := T) (w := w) (wm := wm) hp H
    have al := allL_t H
    have a0 := r_all R
    obtain ⟨h1, a1, b1, -, f1⟩ := r_draw R E RO0 H (x := allL r) ⟨by omega, by omega⟩ hp
    have E1 := RE_fr f1 E
    obtain ⟨h2, a2, b2, f2⟩ := r_fold b1 E1 Hd
    have f2' : Fr SR h1 h2 := f2.mono (fun a k z => z.1)
    have E2 := RE_fr f2' E1
    have f : Fr SX h h2 := (f1.mono (fun a k z => SR_SX z)).tr (f2'.mono (fun a k z => SR_SX z))
    have b2' : RR (dbq T w wm p r) h2 := b2
    have l1 := lst_lt (dbq T w wm p r) 11
    have c1 := r_least b2' Hq
    have c2 := r_thick b2' Hq (c := lst (dbq T w wm p r) 11) (by omega)
    have hr : dbl' T w wm p th (j + 1) k r = if th ≤ tlo (dbq T w wm p r) then dbl' T w wm p th j (k + 1) (dbq T w wm p r) else iN k := rfl
    rw [g_X8_doublings_43, if_neg (i20 o3), a0, Option.bind_some, a1, Option.bind_some, a2, Option.bind_some, c1, Option.bind_some, c2, Option.bind_some, hr]
    show ∃ h', (if th ≤ tlo (dbq T w wm p r) then _ else _) = _ ∧ _
    by_cases z : th ≤ tlo (dbq T w wm p r)
    · rw [if_pos z, if_pos z, iN_add o4]
      obtain ⟨h4, a4, f4⟩ := ih (k + 1) m _ h2 o1 o2 Hq b2' E2
      exact ⟨h4, a4, f.tr f4⟩
    · rw [if_neg z, if_neg z]
      exact ⟨h2, rfl, f⟩
theorem cn_doublings (n : Nat) {a b c v : Int32} {h h1 h2 : Hp} (ha : g_X7_areSteps a h = some (1, h)) (hb : 1 ≤ b ∧ b ≤ 9) (hc : 1 ≤ c ∧ c ≤ 9999) (e1 : g_X7_make n 17 a (-1) (-1) h = some h1) (e2 : g_X7_doublings_49 n n b c 0 h1 = some (v, h2)) : g_X7_doublings n a b c h = some (v, h2) := by
  simp only [g_X7_doublings_0, g_X7_doublings, ha, wC, if_pos hb, if_pos hc, Option.bind_some, ne10, eq10, ne_eq, not_false_eq_true, if_true, if_false, e1]
  exact e2
theorem rn_doublings (n : Nat) {a b c v : Int32} {h h1 h2 : Hp} (ha : g_X8_areSteps a h = some (1, h)) (hb : 1 ≤ b ∧ b ≤ 9) (hc : 1 ≤ c ∧ c ≤ 9999) (e1 : g_X8_goes n a h = some h1) (e2 : g_X8_doublings_43 n n b c 0 h1 = some (v, h2)) : g_X8_doublings n a b c h = some (v, h2) := by
  simp only [g_X8_doublings_0, g_X8_doublings, ha, wI, if_pos hb, if_pos hc, Option.bind_some, ne10, eq10, ne_eq, not_false_eq_true, if_true, if_false, e1]
  exact e2
theorem pr_doublings {L : Nat} {h : Hp} (R : Rel L h) (a b c : Int32) : Pair L (g_X7_doublings 4000 a b c) (g_X8_doublings 4000 a b c) h := by
  obtain ⟨σ, T, M, Ln, w, wm, t, E⟩ := EN_of R
  by_cases hn : 0 ≤ a ∧ a ≤ σ.1
  case neg => exact Pair.pure (-5) R (by simp [g_X7_doublings_0, g_X7_doublings, cAre E, if_neg hn]) (by simp [g_X8_doublings_0, g_X8_doublings, rAre E, if_neg hn])
  by_cases hb : 1 ≤ b ∧ b ≤ 9
  case neg => exact Pair.pure (-7) R (by simp [g_X7_doublings_0, g_X7_doublings, cAre E, if_pos hn, wC, if_neg hb]) (by simp [g_X8_doublings_0, g_X8_doublings, rAre E, if_pos hn, wI, if_neg hb])
  by_cases hc : 1 ≤ c ∧ c ≤ 9999
  case neg => exact Pair.pure (-7) R (by simp [g_X7_doublings_0, g_X7_doublings, cAre E, if_pos hn, wC, if_pos hb, if_neg hc]) (by simp [g_X8_doublings_0, g_X8_doublings, rAre E, if_pos hn, wI, if_pos hb, if_neg hc])
  have hp : 1 ≤ b.toInt ∧ b.toInt ≤ 9 := ⟨le32.mp hb.1, le32.mp hb.2⟩
  obtain ⟨N, hN, rfl, hN2⟩ := nOf E.1 hn
  have H := EN_ok E 0 0 (-1) hN hN2
  obtain ⟨h1, e1, c1, C1, f1⟩ := mkC E (-1) hN hN2
  obtain ⟨h2, e2, f2⟩ := l_cdbl hp c 20 0 4000 _ h1 rfl (by omega) H c1 C1
  have E2 := EN_fr (f1.tr f2) E
  obtain ⟨h3, e3, c3, C3, f3⟩ := mkG E2 hN hN2
  obtain ⟨h4, e4, f4⟩ := l_rdbl hp c 20 0 4000 _ h3 rfl (by omega) H c3 C3
  have s1 : g_X7_areSteps (iN N) h = some (1, h) := by rw [cAre E, if_pos hn]
  have s2 : g_X8_areSteps (iN N) h2 = some (1, h2) := by rw [rAre E2, if_pos hn]
  exact ⟨_, h2, h4, cn_doublings 4000 s1 hb hc e1 e2, rn_doublings 4000 s2 hb hc e3 e4, Rel_fr (((f1.tr f2).tr f3).tr f4) R⟩
