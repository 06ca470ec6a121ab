noncomputable abbrev e0 (T : Nat → List Int32) (w wm : Int32) : EV := (0, T, w, wm)
theorem CO0 {T : Nat → List Int32} {w wm : Int32} {l : Int64} {h : Hp} : CO (e0 T w wm) l h := fun z => absurd rfl z
theorem RO0 {T : Nat → List Int32} {w wm : Int32} {l : Int64} {h : Hp} : RO (e0 T w wm) l h := fun z => absurd rfl z
theorem SX89 {a k : Nat} (h : 89 ≤ a ∧ a ≤ 92) : SX a k := by unfold SX; omega
theorem CE_SX {e : EV} {h h1 : Hp} (f : Fr (fun a _ => 89 ≤ a ∧ a ≤ 92) h h1) (H : CE e h) : CE e h1 := CE_fr (v := 89) (Or.inr rfl) (f.mono (fun a k z => by unfold SCr; omega)) H
/-- the class draws a rope tried -/
theorem c_try {T : Nat → List Int32} {w wm : Int32} {r : RP} {h : Hp} (R : CR 82 r h) (E : CE (e0 T w wm) h) (H : okP r) {k p : Int32} (hk : 0 ≤ k.toInt ∧ k.toInt ≤ 9) (hp : 1 ≤ p.toInt ∧ p.toInt ≤ 9) : ∃ h', g_X7_tryDrawing 4000 k p h = some h' ∧ CR 89 (sDraw (e0 T w wm) (allL r * k / 10) p r) h' ∧ CR 82 r h' ∧ CE (e0 T w wm) h' ∧ Fr SX h h' := by
  obtain ⟨h1, a1, b1, c1, f1⟩ := c_tried R
  obtain ⟨-, -, t1, t2⟩ := tenth_t H hk
  have E1 := CE_SX f1 E
  obtain ⟨h2, a2, b2, -, f2⟩ := c_draw (Or.inr rfl) b1 E1 CO0 H (x := allL r * k / 10) ⟨t1, t2⟩ hp
  refine ⟨h2, ?_, b2, CR_fr f2 (fun a k => by unfold SCr isStk; omega) c1, CE_fr (Or.inr rfl) f2 E1, (f1.mono (fun a k z => SX89 z)).tr (f2.mono (fun a k z => SCr_SX (Or.inr rfl) z))⟩
  unfold g_X7_tryDrawing g_X7_tryDrawing_0
  rw [a1, Option.bind_some, c_tenths b1 H hk, Option.bind_some, a2]
  rfl
noncomputable def som (v : Int32) : Int64 := if 1 ≤ v then Int32.toInt64 v else 1
theorem som_c (v : Int32) : Int32.toInt64 (if 1 < v then v else 1) = som v := by
  unfold som
  by_cases a : 1 < v
  · rw [if_pos a, if_pos (by lia)]
  · rw [if_neg a]
    by_cases b : 1 ≤ v
    · rw [if_pos b]; congr 1; lia
    · rw [if_neg b]; rfl
theorem r_some (v : Int32) (h : Hp) : g_X8_some v h = some (som v, h) := by
  simp only [g_X8_some_0, g_X8_some, som]
  by_cases b : 1 ≤ v
  · rw [if_pos b, if_pos b]
  · rw [if_neg b, if_neg b]
noncomputable def mev (q r : RP) : Int32 := if Int32.toInt64 (thi r) * som (tlo q) ≤ Int32.toInt64 (thi q) * som (tlo r) then 0 else 1
theorem c_even {q r : RP} {h : Hp} (Q : CR 89 q h) (R : CR 82 r h) (Hq : okP q) (H : okP r) : g_X3_isMoreEvenThan 4000 89 82 h = some (mev q r, h) := by
  have a1 := lst_lt r 11
  have a2 := gst_lt r 11
  have a3 := lst_lt q 11
  have a4 := gst_lt q 11
  unfold g_X3_isMoreEvenThan g_X3_isMoreEvenThan_0 g_X3_isMoreEvenThan_24 g_X3_isMoreEvenThan_49
  rw [c_great Q Hq, Option.bind_some, c_thick Q Hq (by omega), Option.bind_some, c_least R H, Option.bind_some, c_thick R H (by omega), Option.bind_some, c_great R H, Option.bind_some, c_thick R H (by omega), Option.bind_some, c_least Q Hq, Option.bind_some, c_thick Q Hq (by omega), Option.bind_some]
  dsimp only
  rw [som_c, som_c]
  unfold mev thi tlo
  split
  · rfl
  · rfl
noncomputable def wst (m a : Int32) (p : Nat) : Int32 := if m = 0 then a else a ||| (1 <<< (iN p &&& 31))
noncomputable def wnd (T : Nat → List Int32) (w wm k : Int32) (r : RP) : Nat → Nat → Int32 → Int32
  | 0, _, a => a
  | j + 1, p, a => wnd T w wm k r j (p + 1) (wst (mev (sDraw (e0 T w wm) (allL r * k / 10) (iN p) r) r) a p)
theorem i9 {k : Nat} (h : k < 10) : ¬ (9 : Int32) < iN k := by
  show ¬ iN 9 < iN k
  rw [iN_lt (by omega) (by omega)]; omega
theorem p19 {p : Nat} (h1 : 1 ≤ p) (h2 : p < 10) : 1 ≤ (iN p).toInt ∧ (iN p).toInt ≤ 9 := by rw [iN_t (by omega)]; omega
theorem l_cwnd {T : Nat → List Int32} {w wm : Int32} {r : RP} (H : okP r) {k : Int32} (hk : 0 ≤ k.toInt ∧ k.toInt ≤ 9) (j : Nat) : ∀ (p m : Nat) (a : Int32) (h : Hp), 1 ≤ p → p + j = 10 → j < m → CR 82 r h → CE (e0 T w wm) h → ∃ h', g_X7_window_40 4000 m k a (iN p) h = some (wnd T w wm k r j p a, h') ∧ Fr SX h h' := by
  induction j with
  | zero =>
    intro p m a h p1 ek hm R E
    obtain ⟨m, rfl⟩ : ∃ z, m = z + 1 := ⟨m - 1, by omega⟩
    obtain rfl : p = 10 := by omega
    exact ⟨h, by rw [g_X7_window_40, if_pos (by decide)]; rfl, Fr.rfl' _ _⟩
  | succ j ih =>
    intro p m a h p1 ek hm R E
    obtain ⟨m, rfl⟩ : ∃ z, m = z + 1 := ⟨m - 1, by omega⟩
    have o1 : 1 ≤ p + 1 := by omega
    have o2 : p + 1 + j = 10 := by omega
    have o3 : j < m := by omega
    have o4 : p < 10 := by omega
    have o5 : p < 2147483647 := by omega
    obtain ⟨h1, a1, b1, c1, E1, f1⟩ := c_try R E H hk (p19 p1 o4)
    obtain ⟨-, -, t1, t2⟩ := tenth_t H hk
    have Hq := (okP_draw (e := e0 T w wm) (x := allL r * k / 10) H ⟨t1, t2⟩ (p19 p1 o4)).1
    obtain ⟨x, hx⟩ : ∃ x, x = mev (sDraw (e0 T w wm) (allL r * k / 10) (iN p) r) r := ⟨_, rfl⟩
    have ev := c_even b1 c1 Hq H
    rw [← hx] at ev
    have hw : wnd T w wm k r (j + 1) p a = wnd T w wm k r j (p + 1) (wst x a p) := by rw [hx]; rfl
    obtain ⟨h2, a2, f2⟩ := ih (p + 1) m (wst x a p) h1 o1 o2 o3 c1 E1
    refine ⟨h2, ?_, f1.tr f2⟩
    rw [g_X7_window_40, if_neg (i9 o4), a1, Option.bind_some, ev, Option.bind_some, hw, ← a2]
    unfold wst
    dsimp only
    clear hx
    by_cases z : x = 0
    · rw [if_pos z, if_pos z, g_X7_window_75, iN_add o5]
    · rw [if_neg z, if_neg z, g_X7_window_75, iN_add o5]
/-- the reference makes the rope anew and draws it -/
theorem r_try {σ : SS} {T : Nat → List Int32} {M Ln : Nat → Int32} {w wm : Int32} {t : Nat} {h : Hp} (E : EN σ T M Ln w wm t h) {N : Nat} (hN : N ≤ 12) (hN2 : ∀ k, k < N → iN k < σ.1) {k p : Int32} (hk : 0 ≤ k.toInt ∧ k.toInt ≤ 9) (hp : 1 ≤ p.toInt ∧ p.toInt ≤ 9) : ∃ h1 h2, g_X8_goes 4000 (iN N) h = some h1 ∧ g_X8_allLength 4000 h1 = some (allL (gr0 σ T M Ln w wm (-1) N), h1) ∧ g_X8_draws 4000 (allL (gr0 σ T M Ln w wm (-1) N) * k / 10) p h1 = some h2 ∧ RR (sDraw (e0 T w wm) (allL (gr0 σ T M Ln w wm (-1) N) * k / 10) p (gr0 σ T M Ln w wm (-1) N)) h2 ∧ Fr SX h h2 := by
  have H := EN_ok E 0 0 (-1) hN hN2
  obtain ⟨h1, a1, b1, c1, f1⟩ := mkG E hN hN2
  obtain ⟨-, -, t1, t2⟩ := tenth_t H hk
  obtain ⟨h2, a2, b2, -, f2⟩ := r_draw b1 c1 RO0 H (x := allL (gr0 σ T M Ln w wm (-1) N) * k / 10) ⟨t1, t2⟩ hp
  exact ⟨h1, h2, a1, r_all b1, a2, b2, f1.tr (f2.mono (fun a k z => SR_SX z))⟩
theorem l_rwnd {σ : SS} {T : Nat → List Int32} {M Ln : Nat → Int32} {w wm : Int32} {t : Nat} {N : Nat} (hN : N ≤ 12) (hN2 : ∀ k, k < N → iN k < σ.1) {k : Int32} (hk : 0 ≤ k.toInt ∧ k.toInt ≤ 9) (j : Nat) : ∀ (p m : Nat) (a : Int32) (h : Hp), 1 ≤ p → p + j = 10 → j < m → EN σ T M Ln w wm t h → ∃ h', g_X8_window_54 4000 m (iN N) k (thi (gr0 σ T M Ln w wm (-1) N)) (tlo (gr0 σ T M Ln w wm (-1) N)) a (iN p) h = some (wnd T w wm k (gr0 σ T M Ln w wm (-1) N) j p a, h') ∧ Fr SX h h' := by
  induction j with
  | zero =>
    intro p m a h p1 ek hm E
    obtain ⟨m, rfl⟩ : ∃ z, m = z + 1 := ⟨m - 1, by omega⟩
    obtain rfl : p = 10 := by omega
    exact ⟨h, by rw [g_X8_window_54, if_pos (by decide)]; rfl, Fr.rfl' _ _⟩
  | succ j ih =>
    intro p m a h p1 ek hm E
    obtain ⟨m, rfl⟩ : ∃ z, m = z + 1 := ⟨m - 1, by omega⟩
    have o1 : 1 ≤ p + 1 := by omega
    have o2 : p + 1 + j = 10 := by omega
    have o3 : j < m := by omega
    have o4 : p < 10 := by omega
    have o5 : p < 2147483647 := by omega
    have H := EN_ok E 0 0 (-1) hN hN2
    obtain ⟨h1, h2, a1, a2, a3, b2, f2⟩ := r_try E hN hN2 hk (p19 p1 o4)
    obtain ⟨-, -, t1, t2⟩ := tenth_t H hk
    have Hq := (okP_draw (e := e0 T w wm) (x := allL (gr0 σ T M Ln w wm (-1) N) * k / 10) H ⟨t1, t2⟩ (p19 p1 o4)).1
    have z3 := lst_lt (sDraw (e0 T w wm) (allL (gr0 σ T M Ln w wm (-1) N) * k / 10) (iN p) (gr0 σ T M Ln w wm (-1) N)) 11
    have z4 := gst_lt (sDraw (e0 T w wm) (allL (gr0 σ T M Ln w wm (-1) N) * k / 10) (iN p) (gr0 σ T M Ln w wm (-1) N)) 11
    obtain ⟨x, hx⟩ : ∃ x, x = mev (sDraw (e0 T w wm) (allL (gr0 σ T M Ln w wm (-1) N) * k / 10) (iN p) (gr0 σ T M Ln w wm (-1) N)) (gr0 σ T M Ln w wm (-1) N) := ⟨_, rfl⟩
    have hw : wnd T w wm k (gr0 σ T M Ln w wm (-1) N) (j + 1) p a = wnd T w wm k (gr0 σ T M Ln w wm (-1) N) j (p + 1) (wst x a p) := by rw [hx]; rfl
    obtain ⟨h3, a4, f3⟩ := ih (p + 1) m (wst x a p) h2 o1 o2 o3 (EN_fr f2 E)
    refine ⟨h3, ?_, f2.tr f3⟩
    rw [g_X8_window_54, if_neg (i9 o4), a1, Option.bind_some, a2, Option.bind_some, a3, Option.bind_some, r_great b2 Hq, Option.bind_some, r_thick b2 Hq (by omega), Option.bind_some, r_some, Option.bind_some, r_least b2 Hq, Option.bind_some, r_thick b2 Hq (by omega), Option.bind_some, r_some, Option.bind_some, hw, ← a4]
    unfold wst
    unfold mev at hx
    show (if Int32.toInt64 (thi (gr0 σ T M Ln w wm (-1) N)) * som (tlo _) ≤ Int32.toInt64 (thi _) * som (tlo (gr0 σ T M Ln w wm (-1) N)) then _ else _) = _
    split
    · rename_i z
      rw [if_pos z] at hx
      rw [if_pos hx, g_X8_window_124, iN_add o5, Int32.or_zero]
    · rename_i z
      rw [if_neg z] at hx
      rw [if_neg (by rw [hx]; decide), g_X8_window_124, iN_add o5]
theorem b09 {k : Int32} (h : 0 ≤ k ∧ k ≤ 9) : 0 ≤ k.toInt ∧ k.toInt ≤ 9 := ⟨le32.mp h.1, le32.mp h.2⟩
theorem pr_window {L : Nat} {h : Hp} (R : Rel L h) (a b : Int32) : Pair L (g_X7_window 4000 a b) (g_X8_window 4000 a b) h := by
  obtain ⟨σ, T, M, Ln, w, wm, t, E⟩ := EN_of R
  by_cases hn : 0 ≤ a ∧ a ≤ σ.1
  case neg => exact Pair.pure (-5) R (by simp [g_X7_window_75, g_X7_window_0, g_X7_window, cAre E, if_neg hn]) (by simp [g_X8_window_124, g_X8_window_0, g_X8_window, rAre E, if_neg hn])
  by_cases hb : 0 ≤ b ∧ b ≤ 9
  case neg => exact Pair.pure (-7) R (by simp [g_X7_window_75, g_X7_window_0, g_X7_window, cAre E, if_pos hn, wC, if_neg hb]) (by simp [g_X8_window_124, g_X8_window_0, g_X8_window, rAre E, if_pos hn, wI, if_neg hb])
  obtain ⟨N, hN, rfl, hN2⟩ := nOf E.1 hn
  have H := EN_ok E 0 0 (-1) hN hN2
  obtain ⟨h1, e1, c1, C1, f1⟩ := mkC E (-1) hN hN2
  obtain ⟨h2, e2, f2⟩ := l_cwnd H (b09 hb) 9 1 4000 0 h1 (by omega) rfl (by omega) c1 C1
  have E2 := EN_fr (f1.tr f2) E
  obtain ⟨h3, e3, c3, -, f3⟩ := mkG E2 hN hN2
  obtain ⟨h4, e4, f4⟩ := l_rwnd hN hN2 (b09 hb) 9 1 4000 0 h3 (by omega) rfl (by omega) (EN_fr f3 E2)
  have z1 := lst_lt (gr0 σ T M Ln w wm (-1) N) 11
  have z2 := gst_lt (gr0 σ T M Ln w wm (-1) N) 11
  have q1 := r_great c3 H
  have q2 := r_thick c3 H (c := gst (gr0 σ T M Ln w wm (-1) N) 11) (by omega)
  have q3 := r_least c3 H
  have q4 := r_thick c3 H (c := lst (gr0 σ T M Ln w wm (-1) N) 11) (by omega)
  rw [show iN 1 = (1 : Int32) from rfl] at e2 e4
  generalize (4000 : Nat) = n at *
  refine ⟨wnd T w wm b (gr0 σ T M Ln w wm (-1) N) 9 1 0, h2, h4, ?_, ?_, Rel_fr (((f1.tr f2).tr f3).tr f4) R⟩
  · simp only [g_X7_window_75, g_X7_window_0, g_X7_window, cAre E, if_pos hn, wC, if_pos hb, Option.bind_some, ne10, eq10, ne_eq, not_false_eq_true, if_true, if_false, e1]
    exact e2
  · simp only [g_X8_window_124, g_X8_window_0, g_X8_window, rAre E2, if_pos hn, wI, if_pos hb, Option.bind_some, ne10, eq10, ne_eq, not_false_eq_true, if_true, if_false, e3, q1, q2, q3, q4]
    exact e4
noncomputable def wth (c : Int32) (q : RP) : Int64 := if c ≠ 0 then Int32.toInt64 (-(spr q)) else rW q
noncomputable def pcs (T : Nat → List Int32) (w wm k c : Int32) (r : RP) : Nat → Nat → Int32 → Int64 → Int32
  | 0, _, b, _ => b
  | j + 1, p, b, m => if p = 1 then pcs T w wm k c r j (p + 1) (iN p) (wth c (sDraw (e0 T w wm) (allL r * k / 10) (iN p) r)) else if wth c (sDraw (e0 T w wm) (allL r * k / 10) (iN p) r) ≤ m then pcs T w wm k c r j (p + 1) b m else pcs T w wm k c r j (p + 1) (iN p) (wth c (sDraw (e0 T w wm) (allL r * k / 10) (iN p) r))
theorem l_cpcs {T : Nat → List Int32} {w wm : Int32} {r : RP} (H : okP r) {k : Int32} (hk : 0 ≤ k.toInt ∧ k.toInt ≤ 9) (c : Int32) (j : Nat) : ∀ (p m : Nat) (b : Int32) (x : Int64) (h : Hp), 1 ≤ p → p + j = 10 → j < m → CR 82 r h → CE (e0 T w wm) h → ∃ h', g_X7_pace_53 4000 m k c b x (iN p) h = some (pcs T w wm k c r j p b x, h') ∧ Fr SX h h' := by
  induction j with
  | zero =>
    intro p m b x h p1 ek hm R E
    obtain ⟨m, rfl⟩ : ∃ z, m = z + 1 := ⟨m - 1, by omega⟩
    obtain rfl : p = 10 := by omega
    exact ⟨h, by rw [g_X7_pace_53, if_pos (by decide)]; rfl, Fr.rfl' _ _⟩
  | succ j ih =>
    intro p m b x h p1 ek hm R E
    obtain ⟨m, rfl⟩ : ∃ z, m = z + 1 := ⟨m - 1, by omega⟩
    obtain ⟨h1, a1, b1, c1, E1, f1⟩ := c_try R E H hk (p19 p1 (by omega))
    obtain ⟨-, -, t1, t2⟩ := tenth_t H hk
    have Hq := (okP_draw (e := e0 T w wm) (x := allL r * k / 10) H ⟨t1, t2⟩ (p19 p1 (by omega))).1
    rw [g_X7_pace_53, if_neg (i9 (by omega)), a1, Option.bind_some]
    have go : ∀ y, y = wth c (sDraw (e0 T w wm) (allL r * k / 10) (iN p) r) → ∃ h', g_X7_pace_90 4000 (g_X7_pace_53 4000 m) k c b x (iN p) y h1 = some (pcs T w wm k c r (j + 1) p b x, h') ∧ Fr SX h h' := by
      intro y hy
      rw [g_X7_pace_90]
      unfold pcs
      rw [← hy]
      have e1 : (iN p = 1) ↔ p = 1 := iN_eq (b := 1) (by omega) (by omega)
      by_cases z : p = 1
      · rw [if_pos (e1.mpr z), if_pos z, g_X7_pace_106, g_X7_pace_114, iN_add (by omega)]
        obtain ⟨h2, a2, f2⟩ := ih (p + 1) m (iN p) y h1 (by omega) (by omega) (by omega) c1 E1
        exact ⟨h2, a2, f1.tr f2⟩
      · rw [if_neg (fun q => z (e1.mp q)), if_neg z]
        by_cases q : y ≤ x
        · rw [if_pos q, if_pos q, g_X7_pace_114, iN_add (by omega)]
          obtain ⟨h2, a2, f2⟩ := ih (p + 1) m b x h1 (by omega) (by omega) (by omega) c1 E1
          exact ⟨h2, a2, f1.tr f2⟩
        · rw [if_neg q, if_neg q, g_X7_pace_106, g_X7_pace_114, iN_add (by omega)]
          obtain ⟨h2, a2, f2⟩ := ih (p + 1) m (iN p) y h1 (by omega) (by omega) (by omega) c1 E1
          exact ⟨h2, a2, f1.tr f2⟩
    by_cases z : c ≠ 0
    · rw [if_pos z, c_spread b1 Hq, Option.bind_some]
      exact go _ (by unfold wth; rw [if_pos z])
    · rw [if_neg z, b1.2.2.2.2.1]
      exact go _ (by unfold wth; rw [if_neg z])
theorem l_rpcs {σ : SS} {T : Nat → List Int32} {M Ln : Nat → Int32} {w wm : Int32} {t : Nat} {N : Nat} (hN : N ≤ 12) (hN2 : ∀ k, k < N → iN k < σ.1) {k : Int32} (hk : 0 ≤ k.toInt ∧ k.toInt ≤ 9) (c : Int32) (j : Nat) : ∀ (p m : Nat) (b : Int32) (x : Int64) (h : Hp), 1 ≤ p → p + j = 10 → j < m → EN σ T M Ln w wm t h → (b = 0 ↔ p = 1) → ∃ h', g_X8_pace_42 4000 m (iN N) k c b x (iN p) h = some (if p = 10 then b else pcs T w wm k c (gr0 σ T M Ln w wm (-1) N) j p b x, h') ∧ Fr SX h h' := by
  induction j with
  | zero =>
    intro p m b x h p1 ek hm E hb
    obtain ⟨m, rfl⟩ : ∃ z, m = z + 1 := ⟨m - 1, by omega⟩
    obtain rfl : p = 10 := by omega
    exact ⟨h, by rw [g_X8_pace_42, if_pos (by decide)]; rfl, Fr.rfl' _ _⟩
  | succ j ih =>
    intro p m b x h p1 ek hm E hb
    obtain ⟨m, rfl⟩ : ∃ z, m = z + 1 := ⟨m - 1, by omega⟩
    have H := EN_ok E 0 0 (-1) hN hN2
    obtain ⟨h1, h2, a1, a2, a3, b2, f2⟩ := r_try E hN hN2 hk (p19 p1 (by omega))
    obtain ⟨-, -, t1, t2⟩ := tenth_t H hk
    have Hq := (okP_draw (e := e0 T w wm) (x := allL (gr0 σ T M Ln w wm (-1) N) * k / 10) H ⟨t1, t2⟩ (p19 p1 (by omega))).1
    rw [g_X8_pace_42, if_neg (i9 (by omega)), a1, Option.bind_some, a2, Option.bind_some, a3, Option.bind_some, if_neg (c := p = 10) (by omega)]
    have nz : ¬ iN p = 0 := fun q => by have := (iN_eq (b := 0) (by omega) (by omega)).mp q; omega
    have ends : ∀ b' x', (if p + 1 = 10 then b' else pcs T w wm k c (gr0 σ T M Ln w wm (-1) N) j (p + 1) b' x') = pcs T w wm k c (gr0 σ T M Ln w wm (-1) N) j (p + 1) b' x' := by
      intro b' x'
      by_cases z : p + 1 = 10
      · obtain rfl : j = 0 := by omega
        rw [if_pos z]; rfl
      · rw [if_neg z]
    have go : ∀ y, y = wth c (sDraw (e0 T w wm) (allL (gr0 σ T M Ln w wm (-1) N) * k / 10) (iN p) (gr0 σ T M Ln w wm (-1) N)) → ∃ h', g_X8_pace_86 4000 (g_X8_pace_42 4000 m) (iN N) k c b x (iN p) y h2 = some (pcs T w wm k c (gr0 σ T M Ln w wm (-1) N) (j + 1) p b x, h') ∧ Fr SX h h' := by
      intro y hy
      rw [g_X8_pace_86]
      unfold pcs
      rw [← hy]
      by_cases z : p = 1
      · rw [if_pos (hb.mpr z), if_pos z, g_X8_pace_101, g_X8_pace_109, iN_add (by omega)]
        obtain ⟨h3, a4, f3⟩ := ih (p + 1) m (iN p) y h2 (by omega) (by omega) (by omega) (EN_fr f2 E) ⟨fun q => absurd q nz, fun q => by omega⟩
        rw [ends] at a4
        exact ⟨h3, a4, f2.tr f3⟩
      · have hb0 : ¬ b = 0 := fun q => z (hb.mp q)
        rw [if_neg hb0, if_neg z]
        by_cases q : y ≤ x
        · rw [if_pos q, if_pos q, g_X8_pace_109, iN_add (by omega)]
          obtain ⟨h3, a4, f3⟩ := ih (p + 1) m b x h2 (by omega) (by omega) (by omega) (EN_fr f2 E) ⟨fun q => absurd q hb0, fun q => by omega⟩
          rw [ends] at a4
          exact ⟨h3, a4, f2.tr f3⟩
        · rw [if_neg q, if_neg q, g_X8_pace_101, g_X8_pace_109, iN_add (by omega)]
          obtain ⟨h3, a4, f3⟩ := ih (p + 1) m (iN p) y h2 (by omega) (by omega) (by omega) (EN_fr f2 E) ⟨fun q => absurd q nz, fun q => by omega⟩
          rw [ends] at a4
          exact ⟨h3, a4, f2.tr f3⟩
    by_cases z : c ≠ 0
    · rw [if_pos z, r_spread b2 Hq, Option.bind_some]
      exact go _ (by unfold wth; rw [if_pos z])
    · rw [if_neg z, b2.2.2.2.2.1]
      exact go _ (by unfold wth; rw [if_neg z])
theorem pcs_1 (T : Nat → List Int32) (w wm k c : Int32) (r : RP) (b b' : Int32) (x x' : Int64) : pcs T w wm k c r 9 1 b x = pcs T w wm k c r 9 1 b' x' := by
  unfold pcs
  rw [if_pos rfl, if_pos rfl]
theorem r_paceRun {σ : SS} {T : Nat → List Int32} {M Ln : Nat → Int32} {w wm : Int32} {t : Nat} {N : Nat} (hN : N ≤ 12) (hN2 : ∀ k, k < N → iN k < σ.1) {k : Int32} (hk : 0 ≤ k.toInt ∧ k.toInt ≤ 9) (c : Int32) {h : Hp} (E : EN σ T M Ln w wm t h) (n : Nat) (hn : n = 4000) (y : Int32) (hy : y = pcs T w wm k c (gr0 σ T M Ln w wm (-1) N) 9 1 1 0) : ∃ h', g_X8_pace_42 n n (iN N) k c 0 0 1 h = some (y, h') ∧ Fr SX h h' := by
  have h9 : 9 < n := by omega
  subst hn
  obtain ⟨h4, e4, f4⟩ := l_rpcs hN hN2 hk c 9 1 4000 0 0 h (Nat.le_refl 1) rfl h9 E ⟨fun _ => rfl, fun _ => rfl⟩
  rw [if_neg (by decide), pcs_1 T w wm k c _ 0 1 0 0, ← hy] at e4
  exact ⟨h4, e4, f4⟩
theorem c_paceRun {T : Nat → List Int32} {w wm : Int32} {r : RP} (H : okP r) {k : Int32} (hk : 0 ≤ k.toInt ∧ k.toInt ≤ 9) (c : Int32) {h : Hp} (R : CR 82 r h) (E : CE (e0 T w wm) h) (n : Nat) (hn : n = 4000) (y : Int32) (hy : y = pcs T w wm k c r 9 1 1 0) : ∃ h', g_X7_pace_53 n n k c 1 0 1 h = some (y, h') ∧ Fr SX h h' := by
  have h9 : 9 < n := by omega
  subst hn
  obtain ⟨h2, e2, f2⟩ := l_cpcs H hk c 9 1 4000 1 0 h (Nat.le_refl 1) rfl h9 R E
  rw [← hy] at e2
  exact ⟨h2, e2, f2⟩
theorem pr_pace {L : Nat} {h : Hp} (R : Rel L h) (a b c : Int32) : Pair L (g_X7_pace 4000 a b c) (g_X8_pace 4000 a b c) h := by
  obtain ⟨σ, T, M, Ln, w, wm, t, E⟩ := EN_of R
  by_cases hn : 0 ≤ a ∧ a ≤ σ.1
  case neg => exact Pair.pure (-5) R (by simp [g_X7_pace_114, g_X7_pace_106, g_X7_pace_90, g_X7_pace_0, g_X7_pace, cAre E, if_neg hn]) (by simp [g_X8_pace_109, g_X8_pace_101, g_X8_pace_86, g_X8_pace_0, g_X8_pace, rAre E, if_neg hn])
  by_cases hb : 0 ≤ b ∧ b ≤ 9
  case neg => exact Pair.pure (-7) R (by simp [g_X7_pace_114, g_X7_pace_106, g_X7_pace_90, g_X7_pace_0, g_X7_pace, cAre E, if_pos hn, wC, if_neg hb]) (by simp [g_X8_pace_109, g_X8_pace_101, g_X8_pace_86, g_X8_pace_0, g_X8_pace, rAre E, if_pos hn, wI, if_neg hb])
  by_cases hc : 0 ≤ c ∧ c ≤ 1
  case neg => exact Pair.pure (-7) R (by simp [g_X7_pace_114, g_X7_pace_106, g_X7_pace_90, g_X7_pace_0, g_X7_pace, cAre E, if_pos hn, wC, if_pos hb, if_neg hc]) (by simp [g_X8_pace_109, g_X8_pace_101, g_X8_pace_86, g_X8_pace_0, g_X8_pace, rAre E, if_pos hn, wI, if_pos hb, if_neg hc])
  obtain ⟨N, hN, rfl, hN2⟩ := nOf E.1 hn
  have H := EN_ok E 0 0 (-1) hN hN2
  obtain ⟨h1, e1, c1, C1, f1⟩ := mkC E (-1) hN hN2
  obtain ⟨n, hn4⟩ : ∃ n : Nat, n = 4000 := ⟨_, rfl⟩
  obtain ⟨y, hy⟩ : ∃ y, y = pcs T w wm b c (gr0 σ T M Ln w wm (-1) N) 9 1 1 0 := ⟨_, rfl⟩
  obtain ⟨h2, e2, f2⟩ := c_paceRun H (b09 hb) c c1 C1 n hn4 y hy
  have E2 := EN_fr (f1.tr f2) E
  obtain ⟨h4, e4, f4⟩ := r_paceRun hN hN2 (b09 hb) c E2 n hn4 y hy
  clear hy
  rw [← hn4] at e1 ⊢
  clear hn4
  refine ⟨y, h2, h4, ?_, ?_, Rel_fr ((f1.tr f2).tr f4) R⟩
  · simp only [g_X7_pace_114, g_X7_pace_106, g_X7_pace_90, g_X7_pace_0, g_X7_pace, cAre E, if_pos hn, wC, if_pos hb, if_pos hc, Option.bind_some, ne10, eq10, ne_eq, not_false_eq_true, if_true, if_false, e1]
    exact e2
  · simp only [g_X8_pace_109, g_X8_pace_101, g_X8_pace_86, g_X8_pace_0, g_X8_pace, rAre E2, if_pos hn, wI, if_pos hb, if_pos hc, Option.bind_some, ne10, eq10, ne_eq, not_false_eq_true, if_true, if_false]
    exact e4
