/-! THE REFERENCE'S ROPE -/
noncomputable def RR (r : RP) (h : Hp) : Prop := (∀ k, k < 12 → gI h 115 k = rM r k ∧ gI h 116 k = rL r k ∧ gI h 117 k = rS r k) ∧ gI h 96 40 = rF r ∧ gI h 96 41 = rD r ∧ gI h 96 42 = rC r ∧ gL' h 96 43 = rW r ∧ gL' h 96 44 = rE r
noncomputable def RE (e : EV) (h : Hp) : Prop := ((e.1 = 0 ∧ gI h 96 45 = 0) ∨ (e.1 = 2 ∧ gI h 96 45 = 1)) ∧ gI h 96 2 = e.2.2.1 ∧ gI h 96 4 = e.2.2.2 ∧ okT e.2.1 ∧ ∃ t, t < 6 ∧ gI h 96 14 = iN t ∧ TxR t e.2.1 h
noncomputable def RO (e : EV) (l : Int64) (h : Hp) : Prop := e.1 ≠ 0 → gL' h 96 46 = l
noncomputable def SR (a k : Nat) : Prop := a = 113 ∨ a = 114 ∨ (115 ≤ a ∧ a ≤ 122) ∨ (a = 96 ∧ ((40 ≤ k ∧ k ≤ 44) ∨ k = 46))
theorem RE_fr {e : EV} {h h1 : Hp} (f : Fr SR h h1) (H : RE e h) : RE e h1 := by
  obtain ⟨a, b, c, O, t, ht, d, x⟩ := H
  refine ⟨?_, ?_, ?_, O, t, ht, ?_, TxR_c (fun a k q => f.i (by unfold SR; omega)) O x⟩
  · rw [f.i (by unfold SR; omega)]; exact a
  · rw [f.i (by unfold SR; omega)]; exact b
  · rw [f.i (by unfold SR; omega)]; exact c
  · rw [f.i (by unfold SR; omega)]; exact d
theorem RR_fr {S : Nat → Nat → Prop} {r : RP} {h h1 : Hp} (f : Fr S h h1) (hS : ∀ a k, ((115 ≤ a ∧ a ≤ 117) ∨ (a = 96 ∧ 40 ≤ k ∧ k ≤ 44)) → ¬ S a k) (H : RR r h) : RR r h1 := by
  obtain ⟨a, b, c, d, e, g⟩ := H
  refine ⟨fun k hk => ?_, ?_, ?_, ?_, ?_, ?_⟩
  · rw [f.i (hS _ _ (by omega)), f.i (hS _ _ (by omega)), f.i (hS _ _ (by omega))]; exact a k hk
  · rw [f.i (hS _ _ (by omega))]; exact b
  · rw [f.i (hS _ _ (by omega))]; exact c
  · rw [f.i (hS _ _ (by omega))]; exact d
  · rw [f.l (hS _ _ (by omega))]; exact e
  · rw [f.l (hS _ _ (by omega))]; exact g
theorem ne0_of {v : Int32} (h : 1 ≤ v.toInt) : ¬ v = 0 := by intro z; rw [z, k_0] at h; omega
theorem r_thick {r : RP} {h : Hp} (R : RR r h) (H : okP r) {c : Nat} (hc : c < 12) : g_X8_thickOf (iN c) h = some (thk r c, h) := by
  unfold g_X8_thickOf g_X8_thickOf_0
  rw [if_pos (iN_inb hc (by decide)), iN_ix (by omega), (R.1 c hc).1, (R.1 c hc).2.1, if_pos (ne0_of (H c hc).1.1)]
  rfl
noncomputable def SA (a k : Nat) : Prop := a = 113 ∨ a = 114
theorem r_ask {e : EV} {r : RP} {h : Hp} (R : RR r h) (E : RE e h) (H : okP r) {part c : Nat} (hp : part < 3) (hc : c < 12) (p : Int32) : ∃ h', g_X8_asks 4000 (iN part) (iN c) p h = some (ask e r part c p, h') ∧ Fr SA h h' := by
  obtain ⟨-, b, -, O, t, ht, d, x⟩ := E
  obtain ⟨h1, e1⟩ : ∃ h1, h1 = hsi (hsi (hsi (hsi (hsi (hsi h 114 0 (gI h 96 2)) 114 1 (thk r c)) 114 2 (gI h 117 c)) 114 3 p) 114 4 (gI h 96 40)) 114 5 (gI h 96 41) := ⟨_, rfl⟩
  have f1 : Fr SA h h1 := by
    rw [e1]
    refine ((((((Fr.rfl' _ _).si _ ?_).si _ ?_).si _ ?_).si _ ?_).si _ ?_).si _ ?_ <;> exact Or.inr rfl
  have hn : ∀ q, q < 6 → gI h1 114 q = nmv e.2.2.1 r c p q := by
    intro q hq
    rw [e1]
    simp only [gI_hsi]
    unfold nmv
    rw [b, (R.1 c hc).2.2, R.2.1, R.2.2.1]
    have : q = 0 ∨ q = 1 ∨ q = 2 ∨ q = 3 ∨ q = 4 ∨ q = 5 := by omega
    rcases this with rfl | rfl | rfl | rfl | rfl | rfl <;> simp
  obtain ⟨h', i1, f2⟩ := r_worth ht hp O (nm := nmv e.2.2.1 r c p) (h := h1) (by rw [f1.i (by unfold SA; omega)]; exact d) (TxR_c (fun a k q => f1.i (by unfold SA; omega)) O x) hn
  refine ⟨h', ?_, f1.tr (f2.mono (fun a k z => Or.inl z))⟩
  have R1 : RR r (hsi h 114 0 (gI h 96 2)) := RR_fr ((Fr.rfl' (fun a _ => a = 114) h).si _ rfl) (fun a k => by omega) R
  unfold g_X8_asks g_X8_asks_0 g_X8_asks_10
  rw [show ix 0 = 0 from rfl, show ix 1 = 1 from rfl, r_thick R1 H hc, Option.bind_some]
  unfold g_X8_asks_21 g_X8_asks_33 g_X8_asks_40 g_X8_asks_50 g_X8_asks_60
  rw [if_pos (iN_inb hc (by decide)), iN_ix (by omega), show ix 2 = 2 from rfl, show ix 3 = 3 from rfl, show ix 4 = 4 from rfl, show ix 5 = 5 from rfl]
  simp only [gI_hsi]
  simp only [Nat.reduceEqDiff, false_and, if_false]
  rw [← e1, i1]
  rfl
theorem r_within (v lo hi : Int32) (hl : lo ≤ hi) (h : Hp) : g_X8_within v lo hi h = some (clp v lo hi, h) := by
  simp only [g_X8_within_0, g_X8_within, clp]
  by_cases a : lo ≤ v
  · rw [if_pos a, if_neg (show ¬ v < lo by lia)]
    by_cases b : v ≤ hi
    · rw [if_pos b, if_neg (show ¬ hi < v by lia)]
    · rw [if_neg b, if_pos (show hi < v by lia)]
  · rw [if_neg a, if_pos (show v < lo by lia)]
/-- the next ease -/
theorem r_more {e : EV} {h : Hp} {l : Int64} (E : RE e h) (hl : RO e l h) (A : Int32) : ∃ h' d, g_X8_drawsMore h = some (d, h') ∧ clp (A + d) 1 99 = eas e.1 A (lotn l) ∧ Fr (fun a k => a = 96 ∧ k = 46) h h' ∧ RO e (lotn l) h' := by
  rcases E.1 with ⟨a, b⟩ | ⟨a, b⟩
  · refine ⟨h, 0, by simp [g_X8_drawsMore_25, g_X8_drawsMore_0, g_X8_drawsMore, b], ?_, Fr.rfl' _ _, fun z => absurd a z⟩
    unfold eas
    rw [if_pos a, Int32.add_zero]
  · have h0 := hl (by omega)
    refine ⟨hsl h 96 46 (lotn l), Int64.toInt32 (lt5 (lotn l)) - 2, ?_, ?_, (Fr.rfl' _ _).sl _ ⟨rfl, rfl⟩, fun _ => by rw [gL_hsl]; simp⟩
    · simp only [g_X8_drawsMore_25, g_X8_drawsMore_0, g_X8_drawsMore]
      rw [b, if_pos (by decide), h0]
      simp only [gL_hsl, and_self, if_true]
      rfl
    · unfold eas
      rw [if_neg (by omega), if_neg (by omega)]
theorem l_r5 {e : EV} {r : RP} (H : okP r) (x p : Int32) (j : Nat) : ∀ (k m : Nat) (h : Hp), k + j = 12 → j < m → RR r h → RE e h → RO e (lotk k (rO r)) h → (∀ i, i < k → gI h 118 i = ea e r p i) → ∃ h', g_X8_draws_5 4000 m x p (sumI (ea e r p) k) (iN k) h = g_X8_draws_60 4000 4000 x p (sumI (ea e r p) 12) x 0 h' ∧ Fr SR h h' ∧ RR r h' ∧ RO e (lotk 12 (rO r)) h' ∧ (∀ i, i < 12 → gI h' 118 i = ea e r p i) := by
  induction j with
  | zero =>
    intro k m h ek hm R E O hi
    obtain ⟨m, rfl⟩ : ∃ z, m = z + 1 := ⟨m - 1, by omega⟩
    obtain rfl : k = 12 := by omega
    exact ⟨h, by rw [g_X8_draws_5, if_pos i12e], Fr.rfl' _ _, R, O, hi⟩
  | succ j ih =>
    intro k m h ek hm R E O hi
    obtain ⟨m, rfl⟩ : ∃ z, m = z + 1 := ⟨m - 1, by omega⟩
    obtain ⟨h1, a1, f1⟩ := r_ask R E H (part := 0) (by omega) (c := k) (by omega) p
    have f1' : Fr SR h h1 := f1.mono (fun a k z => by unfold SA at z; unfold SR; omega)
    have O1 : RO e (lotk k (rO r)) h1 := fun z => by rw [f1.l (by unfold SA; omega)]; exact O z
    obtain ⟨h2, d, a2, a3, f2, O2⟩ := r_more (RE_fr f1' E) O1 (ask e r 0 k p)
    have f2' : Fr SR h1 h2 := f2.mono (fun a k z => by unfold SR; omega)
    obtain ⟨h3, e3⟩ : ∃ h3, h3 = hsi h2 118 k (ea e r p k) := ⟨_, rfl⟩
    have f3 : Fr SR h2 h3 := by rw [e3]; exact (Fr.rfl' _ _).si _ (by unfold SR; omega)
    have f := (f1'.tr f2').tr f3
    have R3 : RR r h3 := by
      rw [e3]
      exact RR_fr ((Fr.rfl' (fun a _ => a = 118) h2).si _ rfl) (fun a k => by omega) (RR_fr f2 (fun a k => by omega) (RR_fr f1 (fun a k => by unfold SA; omega) R))
    have g118 : ∀ i, gI h3 118 i = if i = k then ea e r p k else gI h 118 i := by
      intro i
      rw [e3, gI_hsi, f2.i (by omega), f1.i (by unfold SA; omega)]
      simp
    obtain ⟨h', b1, b2, b3, b4, b5⟩ := ih (k + 1) m h3 (by omega) (by omega) R3 (RE_fr f E) (fun z => by rw [e3, gL_hsi]; exact O2 z) (fun i hk => by
      rw [g118]
      by_cases z : i = k
      · rw [if_pos z, z]
      · rw [if_neg z]; exact hi i (by omega))
    refine ⟨h', ?_, f.tr b2, b3, b4, b5⟩
    rw [g_X8_draws_5, if_neg (i12 (by omega)), show (0 : Int32) = iN 0 from rfl, a1, Option.bind_some, a2, Option.bind_some, r_within _ _ _ (by decide), Option.bind_some, if_pos (iN_inb (by omega) (by decide)), iN_ix (by omega), g_X8_draws_38, if_pos (iN_inb (by omega) (by decide)), iN_ix (by omega), iN_add (by omega)]
    have e4 : clp (ask e r 0 k p + d) 1 99 = ea e r p k := a3
    rw [e4, ← e3, g118, if_pos rfl]
    exact b1
theorem hsi_hrw {h : Hp} {a b j o n : Nat} {x : Int32} {f : Nat → Int32} (hab : a ≠ b) : hsi (hrw h b o n f) a j x = hrw (hsi h a j x) b o n f := by
  show (h.1, _, h.2.2) = (h.1, _, h.2.2)
  congr 2
  funext q k
  show gI (hsi (hrw h b o n f) a j x) q k = gI (hrw (hsi h a j x) b o n f) q k
  rw [gI_hsi, gI_hrw, gI_hrw, gI_hsi]
  by_cases z : q = a
  · subst z
    rw [if_neg (c := q = b ∧ o ≤ k ∧ k < o + n) (by omega), if_neg (c := q = b ∧ o ≤ k ∧ k < o + n) (by omega)]
  · rw [if_neg (c := q = a ∧ k = j) (by omega), if_neg (c := q = a ∧ k = j) (by omega)]
theorem hrw_s0 (h : Hp) (a n : Nat) (f : Nat → Int32) {x : Int32} (hx : x = f n) : hsi (hrw h a 0 n f) a n x = hrw h a 0 (n + 1) f := by
  have := hrw_s h a 0 n f hx
  rwa [Nat.zero_add] at this
theorem l_r60 (x p : Int32) (f : Nat → Int32) (hA : 12 ≤ (sumI f 12).toInt) (h : Hp) (hf : ∀ i, i < 12 → gI h 118 i = f i) (j : Nat) : ∀ (k m : Nat), k + j = 12 → j < m → g_X8_draws_60 4000 m x p (sumI f 12) (subI x (sh0 x f) k) (iN k) (hrw h 119 0 k (sh0 x f)) = g_X8_draws_110 4000 4000 p (subI x (sh0 x f) 12) 0 (hrw h 119 0 12 (sh0 x f)) := by
  have h0 : ¬ Int32.toInt64 (sumI f 12) = 0 := by rw [e64, tw, K_0]; omega
  induction j with
  | zero =>
    intro k m ek hm
    obtain ⟨m, rfl⟩ : ∃ z, m = z + 1 := ⟨m - 1, by omega⟩
    obtain rfl : k = 12 := by omega
    rw [g_X8_draws_60, if_pos i12e]
  | succ j ih =>
    intro k m ek hm
    obtain ⟨m, rfl⟩ : ∃ z, m = z + 1 := ⟨m - 1, by omega⟩
    rw [g_X8_draws_60, if_neg (i12 (by omega)), if_pos (iN_inb (by omega) (by decide)), if_pos h0, iN_ix (by omega), g_X8_draws_89, if_pos (iN_inb (by omega) (by decide)), iN_ix (by omega), iN_add (by omega)]
    have e1 : gI (hrw h 119 0 k (sh0 x f)) 118 k = f k := by rw [gI_hrw, if_neg (by omega)]; exact hf k (by omega)
    rw [e1, hrw_s0 h 119 k (sh0 x f) (x := Int64.toInt32 (Int32.toInt64 x * Int32.toInt64 (f k) / Int32.toInt64 (sumI f 12))) rfl]
    have e2 : gI (hrw h 119 0 (k + 1) (sh0 x f)) 119 k = sh0 x f k := by rw [gI_hrw, if_pos (by omega)]; rfl
    rw [e2]
    exact ih (k + 1) m (by omega) (by omega)
theorem l_r110 (r : RP) (x p : Int32) (f : Nat → Int32) (h : Hp) (hs : ∀ i, i < 12 → gI h 119 i = sh0 x f i) (hl : ∀ i, i < 12 → gI h 116 i = rL r i) (j : Nat) : ∀ (k m : Nat), k + j = 12 → j < m → g_X8_draws_110 4000 m p (subI x (sh0 x f) 12) (iN k) (hrw (hrw h 119 0 k (shr x f)) 116 0 k (nL r (shr x f))) = g_X8_draws_186 4000 4000 p 0 (hrw (hrw h 119 0 12 (shr x f)) 116 0 12 (nL r (shr x f))) := by
  induction j with
  | zero =>
    intro k m ek hm
    obtain ⟨m, rfl⟩ : ∃ z, m = z + 1 := ⟨m - 1, by omega⟩
    obtain rfl : k = 12 := by omega
    rw [g_X8_draws_110, if_pos i12e]
  | succ j ih =>
    intro k m ek hm
    obtain ⟨m, rfl⟩ : ∃ z, m = z + 1 := ⟨m - 1, by omega⟩
    have hin := iN_inb (k := k) (n := 12) (by omega) (by decide)
    have hix := iN_ix (k := k) (by omega)
    obtain ⟨g, eg⟩ : ∃ g, g = hrw (hrw h 119 0 k (shr x f)) 116 0 k (nL r (shr x f)) := ⟨_, rfl⟩
    have e1 : gI g 119 k = sh0 x f k := by rw [eg, gI_hrw, if_neg (by omega), gI_hrw, if_neg (by omega)]; exact hs k (by omega)
    have e2 : gI g 116 k = rL r k := by rw [eg, gI_hrw, if_neg (by omega), gI_hrw, if_neg (by omega)]; exact hl k (by omega)
    have go : ∀ d, d = (if subI x (sh0 x f) 12 ≤ iN k then (0 : Int32) else 1) → g_X8_draws_137 4000 (g_X8_draws_110 4000 m) p (subI x (sh0 x f) 12) (iN k) 119 (iN k) (gI g 119 k) d g = g_X8_draws_186 4000 4000 p 0 (hrw (hrw h 119 0 12 (shr x f)) 116 0 12 (nL r (shr x f))) := by
      intro d hd
      have e3 : gI g 119 k + d = shr x f k := by rw [e1, hd]; rfl
      rw [g_X8_draws_137, if_pos hin, hix, e3, g_X8_draws_139, if_pos hin, hix]
      have g1 : gI (hsi g 119 k (shr x f k)) 116 k = rL r k := by rw [gI_hsi, if_neg (by omega)]; exact e2
      have g2 : gI (hsi g 119 k (shr x f k)) 119 k = shr x f k := by rw [gI_hsi, if_pos ⟨rfl, rfl⟩]
      rw [g1, g2]
      have fin' : ∀ v, v = nL r (shr x f) k → g_X8_draws_176 4000 (g_X8_draws_110 4000 m) p (subI x (sh0 x f) 12) (iN k) 116 (iN k) v (hsi g 119 k (shr x f k)) = g_X8_draws_186 4000 4000 p 0 (hrw (hrw h 119 0 12 (shr x f)) 116 0 12 (nL r (shr x f))) := by
        intro v hv
        rw [g_X8_draws_176, if_pos hin, hix, iN_add (by omega), ← ih (k + 1) m (by omega) (by omega), eg, hsi_hrw (by omega), hrw_s0 h 119 k (shr x f) rfl, hrw_s0 _ 116 k _ hv]
      by_cases c : rL r k + shr x f k ≤ 1000000
      · rw [if_pos c]; exact fin' _ (by unfold nL; rw [if_pos c])
      · rw [if_neg c]; exact fin' _ (by unfold nL; rw [if_neg c])
    rw [← eg, g_X8_draws_110, if_neg (i12 (by omega)), if_pos hin, hix]
    by_cases c : subI x (sh0 x f) 12 ≤ iN k
    · rw [if_pos c]; exact go 0 (by rw [if_pos c])
    · rw [if_neg c]; exact go 1 (by rw [if_neg c])
theorem l_r186 (r : RP) (p : Int32) (s : Nat → Int32) (h : Hp) (hL : ∀ i, i < 12 → 1 ≤ (nL r s i).toInt) (h1 : ∀ i, i < 12 → gI h 116 i = nL r s i) (h2 : ∀ i, i < 12 → gI h 117 i = rS r i) (h3 : ∀ i, i < 12 → gI h 119 i = s i) (j : Nat) : ∀ (k m : Nat), k + j = 12 → j < m → g_X8_draws_186 4000 m p (iN k) (hrw h 117 0 k (nS r s p)) = g_X8_draws_258 4000 4000 p 0 (hrw h 117 0 12 (nS r s p)) := by
  induction j with
  | zero =>
    intro k m ek hm
    obtain ⟨m, rfl⟩ : ∃ z, m = z + 1 := ⟨m - 1, by omega⟩
    obtain rfl : k = 12 := by omega
    rw [g_X8_draws_186, if_pos i12e]
  | succ j ih =>
    intro k m ek hm
    obtain ⟨m, rfl⟩ : ∃ z, m = z + 1 := ⟨m - 1, by omega⟩
    have hin := iN_inb (k := k) (n := 12) (by omega) (by decide)
    have hix := iN_ix (k := k) (by omega)
    have g1 : gI (hrw h 117 0 k (nS r s p)) 116 k = nL r s k := by rw [gI_hrw, if_neg (by omega)]; exact h1 k (by omega)
    have g2 : gI (hrw h 117 0 k (nS r s p)) 117 k = rS r k := by rw [gI_hrw, if_neg (by omega)]; exact h2 k (by omega)
    have g3 : gI (hrw h 117 0 k (nS r s p)) 119 k = s k := by rw [gI_hrw, if_neg (by omega)]; exact h3 k (by omega)
    rw [g_X8_draws_186, if_neg (i12 (by omega)), if_pos hin, hix, g1, g2, g3, if_pos (by rw [e64, tw, K_0]; have := hL k (by omega); omega), g_X8_draws_228]
    show (if nS0 r s p k ≤ 99 then _ else _) = _
    have fin' : ∀ v, v = nS r s p k → g_X8_draws_248 4000 (g_X8_draws_186 4000 m) p (iN k) 117 (iN k) v (hrw h 117 0 k (nS r s p)) = g_X8_draws_258 4000 4000 p 0 (hrw h 117 0 12 (nS r s p)) := by
      intro v hv
      rw [g_X8_draws_248, if_pos hin, hix, iN_add (by omega), hrw_s0 h 117 k _ hv]
      exact ih (k + 1) m (by omega) (by omega)
    by_cases c : nS0 r s p k ≤ 99
    · rw [if_pos c]; exact fin' _ (by unfold nS; rw [if_pos c]; rfl)
    · rw [if_neg c]; exact fin' _ (by unfold nS; rw [if_neg c])
/-- a rope with another whole -/
noncomputable def wW (r : RP) (w : Int64) : RP := (r.1, r.2.1, r.2.2.1, r.2.2.2.1, (w, r.2.2.2.2.1.2), r.2.2.2.2.2)
theorem ask_wW (e : EV) (r : RP) (w : Int64) (part c : Nat) (p : Int32) : ask e (wW r w) part c p = ask e r part c p := rfl
theorem l_r258 {e : EV} {r : RP} (H : okP r) (p : Int32) (j : Nat) : ∀ (k m : Nat) (h : Hp), k + j = 12 → j < m → RR (wW r (wfo e r p k)) h → RE e h → ∃ h', g_X8_draws_258 4000 m p (iN k) h = some h' ∧ Fr (fun a k => SA a k ∨ (a = 96 ∧ k = 43)) h h' ∧ RR (wW r (wfo e r p 12)) h' := by
  induction j with
  | zero =>
    intro k m h ek hm R E
    obtain ⟨m, rfl⟩ : ∃ z, m = z + 1 := ⟨m - 1, by omega⟩
    obtain rfl : k = 12 := by omega
    exact ⟨h, by rw [g_X8_draws_258, if_pos i12e], Fr.rfl' _ _, R⟩
  | succ j ih =>
    intro k m h ek hm R E
    obtain ⟨m, rfl⟩ : ∃ z, m = z + 1 := ⟨m - 1, by omega⟩
    obtain ⟨h1, a1, f1⟩ := r_ask R E (show okP (wW r (wfo e r p k)) from H) (part := 1) (by omega) (c := k) (by omega) p
    have R1 := RR_fr f1 (fun a k => by unfold SA; omega) R
    obtain ⟨h2, e2⟩ : ∃ h2, h2 = hsl h1 96 43 (wfo e r p (k + 1)) := ⟨_, rfl⟩
    have f2 : Fr (fun a k => SA a k ∨ (a = 96 ∧ k = 43)) h h2 := by
      rw [e2]; exact (f1.mono (fun a k z => Or.inl z)).sl _ (Or.inr ⟨rfl, rfl⟩)
    have f2' : Fr SR h h2 := f2.mono (fun a k z => by unfold SA at z; unfold SR; omega)
    have R2 : RR (wW r (wfo e r p (k + 1))) h2 := by
      rw [e2]
      obtain ⟨q1, q2, q3, q4, q5, q6⟩ := R1
      exact ⟨q1, q2, q3, q4, by rw [gL_hsl]; simp [wW], by rw [gL_hsl, if_neg (by omega)]; exact q6⟩
    obtain ⟨h', b1, b2, b3⟩ := ih (k + 1) m h2 (by omega) (by omega) R2 (RE_fr f2' E)
    refine ⟨h', ?_, f2.tr b2, b3⟩
    have hw : gL' h 96 43 = wfo e r p k := R.2.2.2.2.1
    rw [g_X8_draws_258, if_neg (i12 (by omega)), show (1 : Int32) = iN 1 from rfl, a1, Option.bind_some, r_within _ _ _ (by decide), Option.bind_some]
    rw [show iN 1 = (1 : Int32) from rfl, iN_add (by omega), hw]
    rw [e2] at b1
    exact b1
theorem r_draw {e : EV} {r : RP} {h : Hp} (R : RR r h) (E : RE e h) (O : RO e (rO r) h) (H : okP r) {x p : Int32} (hx : 0 ≤ x.toInt ∧ x.toInt ≤ 12000000) (hp : 1 ≤ p.toInt ∧ p.toInt ≤ 9) : ∃ h', g_X8_draws 4000 x p h = some h' ∧ RR (sDraw e x p r) h' ∧ RO e (rO (sDraw e x p r)) h' ∧ Fr SR h h' := by
  obtain ⟨h1, a1, f1, R1, O1, q1⟩ := l_r5 H x p 12 0 4000 h rfl (by omega) R E O (fun i hi => by omega)
  obtain ⟨c1, -, -, -⟩ := sh_facts (f := ea e r p) hx (fun c hc => ea_b e r p c)
  have a2 := l_r60 x p (ea e r p) c1.1 h1 q1 12 0 4000 rfl (by omega)
  rw [hrw_0] at a2
  have a3 := l_r110 r x p (ea e r p) (hrw h1 119 0 12 (sh0 x (ea e r p))) (fun i hi => by rw [gI_hrw, if_pos (by omega)]; rfl) (fun i hi => by rw [gI_hrw, if_neg (by omega)]; exact (R1.1 i hi).2.1) 12 0 4000 rfl (by omega)
  rw [hrw_0, hrw_0] at a3
  obtain ⟨h3, e3⟩ : ∃ h3, h3 = hrw (hrw (hrw h1 119 0 12 (sh0 x (ea e r p))) 119 0 12 (shr x (ea e r p))) 116 0 12 (nL r (shr x (ea e r p))) := ⟨_, rfl⟩
  rw [← e3] at a3
  have dr := dr_facts (e := e) H hx hp _ rfl
  have a4 := l_r186 r p (shr x (ea e r p)) h3 (fun i hi => (dr i hi).2.2.1.1) (fun i hi => by rw [e3, gI_hrw, if_pos (by omega)]; rfl) (fun i hi => by rw [e3, gI_hrw, if_neg (by omega), gI_hrw, if_neg (by omega), gI_hrw, if_neg (by omega)]; exact (R1.1 i hi).2.2) (fun i hi => by rw [e3, gI_hrw, if_neg (by omega), gI_hrw, if_pos (by omega)]; rfl) 12 0 4000 rfl (by omega)
  rw [hrw_0] at a4
  obtain ⟨h4, e4⟩ : ∃ h4, h4 = hrw h3 117 0 12 (nS r (shr x (ea e r p)) p) := ⟨_, rfl⟩
  rw [← e4] at a4
  have f4 : Fr (fun a _ => a = 116 ∨ a = 117 ∨ a = 119) h1 h4 := by
    rw [e4, e3]
    refine ((((Fr.rfl' _ _).rw' _ (fun k _ _ => ?_)).rw' _ (fun k _ _ => ?_)).rw' _ (fun k _ _ => ?_)).rw' _ (fun k _ _ => ?_) <;> omega
  have f4' : Fr SR h h4 := f1.tr (f4.mono (fun a k z => by unfold SR; omega))
  have R4 : RR (wW (dr1 e x p r) (wfo e (dr1 e x p r) p 0)) h4 := by
    obtain ⟨q1, q2, q3, q4, q5, q6⟩ := R1
    refine ⟨fun k hk => ⟨?_, ?_, ?_⟩, ?_, ?_, ?_, ?_, ?_⟩
    · rw [f4.i (by omega)]; exact (q1 k hk).1
    · rw [e4, gI_hrw, if_neg (by omega), e3, gI_hrw, if_pos (by omega)]; rfl
    · rw [e4, gI_hrw, if_pos (by omega)]; rfl
    · rw [f4.i (by omega)]; exact q2
    · rw [f4.i (by omega)]; exact q3
    · rw [f4.i (by omega)]; exact q4
    · rw [f4.l (by omega)]; exact q5
    · rw [f4.l (by omega)]; exact q6
  obtain ⟨h5, a5, f5, R5⟩ := l_r258 (e := e) (okP_draw (e := e) H hx hp).2 p 12 0 4000 h4 rfl (by omega) R4 (RE_fr f4' E)
  refine ⟨h5, ?_, R5, fun z => ?_, f4'.tr (f5.mono (fun a k z => by unfold SA at z; unfold SR; omega))⟩
  · unfold g_X8_draws g_X8_draws_0
    exact a1.trans (a2.trans (a3.trans (a4.trans a5)))
  · rw [f5.l (by unfold SA; omega), f4.l (by omega), O1 z]
    show lotk 12 (rO r) = if e.1 = 0 then rO r else lotk 12 (rO r)
    rw [if_neg z]
/-! its other steps -/
theorem l_rkeep (n j : Nat) (h : Hp) : ∀ (k m : Nat), k + j = 12 → j < m → g_X8_keepsRow_2 n m (iN k) (hrw (hrw (hrw h 120 0 k (gI h 115)) 121 0 k (gI h 116)) 122 0 k (gI h 117)) = some (hrw (hrw (hrw h 120 0 12 (gI h 115)) 121 0 12 (gI h 116)) 122 0 12 (gI h 117)) := by
  induction j with
  | zero =>
    intro k m ek hm
    obtain ⟨m, rfl⟩ : ∃ z, m = z + 1 := ⟨m - 1, by omega⟩
    obtain rfl : k = 12 := by omega
    rw [g_X8_keepsRow_2, if_pos i12e]
  | succ j ih =>
    intro k m ek hm
    obtain ⟨m, rfl⟩ : ∃ z, m = z + 1 := ⟨m - 1, by omega⟩
    have hin := iN_inb (k := k) (n := 12) (by omega) (by decide)
    have hix := iN_ix (k := k) (by omega)
    obtain ⟨g, eg⟩ : ∃ g, g = hrw (hrw (hrw h 120 0 k (gI h 115)) 121 0 k (gI h 116)) 122 0 k (gI h 117) := ⟨_, rfl⟩
    have e : ∀ a, a ≠ 120 → a ≠ 121 → a ≠ 122 → ∀ q, gI g a q = gI h a q := fun a z1 z2 z3 q => by
      rw [eg, gI_hrw, if_neg (by omega), gI_hrw, if_neg (by omega), gI_hrw, if_neg (by omega)]
    rw [← eg, g_X8_keepsRow_2, if_neg (i12 (by omega)), if_pos hin, hix, g_X8_keepsRow_20, if_pos hin, hix, g_X8_keepsRow_32, if_pos hin, hix, iN_add (by omega)]
    have g1 : gI (hsi g 120 k (gI g 115 k)) 116 k = gI h 116 k := by rw [gI_hsi, if_neg (by omega)]; exact e _ (by omega) (by omega) (by omega) _
    have g2 : gI (hsi (hsi g 120 k (gI g 115 k)) 121 k (gI (hsi g 120 k (gI g 115 k)) 116 k)) 117 k = gI h 117 k := by rw [gI_hsi, if_neg (by omega), gI_hsi, if_neg (by omega)]; exact e _ (by omega) (by omega) (by omega) _
    rw [g2, g1, e 115 (by omega) (by omega) (by omega), eg, hsi_hrw (a := 120) (b := 122) (by omega), hsi_hrw (a := 120) (b := 121) (by omega), hrw_s0 h 120 k _ rfl, hsi_hrw (a := 121) (b := 122) (by omega), hrw_s0 _ 121 k _ rfl, hrw_s0 _ 122 k _ rfl]
    exact ih (k + 1) m (by omega) (by omega)
noncomputable def hkp (h : Hp) : Hp := hrw (hrw (hrw h 120 0 12 (gI h 115)) 121 0 12 (gI h 116)) 122 0 12 (gI h 117)
theorem r_keep (h : Hp) : g_X8_keepsRow 4000 h = some (hkp h) := by
  have := l_rkeep 4000 12 h 0 4000 rfl (by omega)
  rw [hrw_0, hrw_0, hrw_0] at this
  exact this
theorem gI_hkp (h : Hp) (a k : Nat) (hk : k < 12) : gI (hkp h) a k = if a = 122 then gI h 117 k else if a = 121 then gI h 116 k else if a = 120 then gI h 115 k else gI h a k := by
  unfold hkp
  rw [gI_hrw, gI_hrw, gI_hrw]
  by_cases z1 : a = 122
  · rw [if_pos (by omega), if_pos z1]; rfl
  · rw [if_neg (by omega), if_neg z1]
    by_cases z2 : a = 121
    · rw [if_pos (by omega), if_pos z2]; rfl
    · rw [if_neg (by omega), if_neg z2]
      by_cases z3 : a = 120
      · rw [if_pos (by omega), if_pos z3]; rfl
      · rw [if_neg (by omega), if_neg z3]
theorem Fr_hkp (h : Hp) : Fr (fun a _ => a = 120 ∨ a = 121 ∨ a = 122) h (hkp h) := by
  refine (((Fr.rfl' _ _).rw' _ (fun k _ _ => ?_)).rw' _ (fun k _ _ => ?_)).rw' _ (fun k _ _ => ?_) <;> omega
theorem i11 {c : Nat} (hc : c < 12) : (11 : Int32) - iN c = iN (11 - c) := by
  have k11 : (11 : Int32).toInt = 11 := rfl
  rw [e32, ts] <;> rw [k11, iN_t (by omega)] <;> (try rw [iN_t (by omega)]) <;> omega
theorem l_rbounce (r : RP) (n j : Nat) (h : Hp) (hL : ∀ i, i < 12 → gI h 121 i = rL r i) : ∀ (k m : Nat), k + j = 12 → j < m → g_X8_bounces_6 n m (iN k) (hrw h 116 0 k (rL (sBounce r))) = some (hrw h 116 0 12 (rL (sBounce r))) := by
  induction j with
  | zero =>
    intro k m ek hm
    obtain ⟨m, rfl⟩ : ∃ z, m = z + 1 := ⟨m - 1, by omega⟩
    obtain rfl : k = 12 := by omega
    rw [g_X8_bounces_6, if_pos i12e]
  | succ j ih =>
    intro k m ek hm
    obtain ⟨m, rfl⟩ : ∃ z, m = z + 1 := ⟨m - 1, by omega⟩
    have hin := iN_inb (k := k) (n := 12) (by omega) (by decide)
    have hix := iN_ix (k := k) (by omega)
    have e : ∀ q, q < 12 → gI (hrw h 116 0 k (rL (sBounce r))) 121 q = rL r q := fun q hq => by
      rw [gI_hrw, if_neg (by omega)]; exact hL q hq
    have fin' : ∀ q, q = (if k = 11 then 11 else k + 1) → g_X8_bounces_47 n (g_X8_bounces_6 n m) (iN k) (rL r (k - 1)) 121 (iN q) (hrw h 116 0 k (rL (sBounce r))) = some (hrw h 116 0 12 (rL (sBounce r))) := by
      intro q hq
      have hq12 : q < 12 := by rw [hq]; split <;> omega
      rw [g_X8_bounces_47, if_pos (iN_inb hq12 (by decide)), if_pos hin, hix, iN_ix (by omega), e k (by omega), e q hq12, iN_add (by omega), hrw_s0 h 116 k _ (by show _ = (2 * rL r k + rL r (k - 1) + rL r (if k = 11 then 11 else k + 1)) / 4; rw [hq])]
      exact ih (k + 1) m (by omega) (by omega)
    have mid : ∀ q, q = k - 1 → g_X8_bounces_27 n (g_X8_bounces_6 n m) (iN k) 121 (iN q) (hrw h 116 0 k (rL (sBounce r))) = some (hrw h 116 0 12 (rL (sBounce r))) := by
      intro q hq
      rw [g_X8_bounces_27, if_pos (iN_inb (show q < 12 by omega) (by decide)), iN_ix (by omega), e q (by omega), hq]
      by_cases z : k = 11
      · rw [if_neg (by rw [z]; decide)]
        exact fin' 11 (by rw [if_pos z])
      · rw [if_pos (by intro w; exact z ((iN_eq (b := 11) (by omega) (by omega)).mp w)), iN_add (by omega)]
        exact fin' (k + 1) (by rw [if_neg z])
    rw [g_X8_bounces_6, if_neg (i12 (by omega))]
    by_cases z : k = 0
    · rw [if_neg (by rw [z]; decide)]
      exact mid 0 (by omega)
    · rw [if_pos (by intro w; exact z ((iN_eq (b := 0) (by omega) (by omega)).mp w)), iN_sub (by omega) (by omega)]
      exact mid (k - 1) rfl
theorem r_bounce {r : RP} {h : Hp} (R : RR r h) : ∃ h', g_X8_bounces 4000 h = some h' ∧ RR (sBounce r) h' ∧ Fr (fun a _ => a = 116 ∨ a = 120 ∨ a = 121 ∨ a = 122) h h' := by
  have f1 := Fr_hkp h
  have a1 := l_rbounce r 4000 12 (hkp h) (fun i hi => by rw [gI_hkp h _ _ hi]; simp; exact (R.1 i hi).2.1) 0 4000 rfl (by omega)
  rw [hrw_0] at a1
  refine ⟨_, ?_, ?_, (f1.mono (fun a k z => by omega)).rw' (rL (sBounce r)) (a := 116) (o := 0) (n := 12) (fun k _ _ => by omega)⟩
  · unfold g_X8_bounces g_X8_bounces_0
    rw [r_keep, Option.bind_some]
    exact a1
  · obtain ⟨q1, q2, q3, q4, q5, q6⟩ := R
    refine ⟨fun k hk => ⟨?_, ?_, ?_⟩, ?_, ?_, ?_, ?_, ?_⟩
    · rw [gI_hrw, if_neg (by omega), f1.i (by omega)]; exact (q1 k hk).1
    · rw [gI_hrw, if_pos (by omega)]; rfl
    · rw [gI_hrw, if_neg (by omega), f1.i (by omega)]; exact (q1 k hk).2.2
    · rw [gI_hrw, if_neg (by omega), f1.i (by omega)]; exact q2
    · rw [gI_hrw, if_neg (by omega), f1.i (by omega)]; exact q3
    · rw [gI_hrw, if_neg (by omega), f1.i (by omega)]; exact q4
    · rw [gL_hrw, f1.l (by omega)]; exact q5
    · rw [gL_hrw, f1.l (by omega)]; exact q6
theorem l_rdoub (r : RP) (n j : Nat) (h : Hp) (h0 : ∀ i, i < 12 → gI h 120 i = rM r i ∧ gI h 121 i = rL r i ∧ gI h 122 i = rS r i) : ∀ (k m : Nat), k + j = 12 → j < m → g_X8_doubles_6 n m (iN k) (hrw (hrw (hrw h 115 0 k (rM (fo1 r))) 116 0 k (rL (fo1 r))) 117 0 k (rS (fo1 r))) = g_X8_doubles_114 n (hsi (hrw (hrw (hrw h 115 0 12 (rM (fo1 r))) 116 0 12 (rL (fo1 r))) 117 0 12 (rS (fo1 r))) 96 40 (gI h 96 40 + 1)) := by
  induction j with
  | zero =>
    intro k m ek hm
    obtain ⟨m, rfl⟩ : ∃ z, m = z + 1 := ⟨m - 1, by omega⟩
    obtain rfl : k = 12 := by omega
    rw [g_X8_doubles_6, if_pos i12e, gI_hrw, if_neg (by omega), gI_hrw, if_neg (by omega), gI_hrw, if_neg (by omega)]
  | succ j ih =>
    intro k m ek hm
    obtain ⟨m, rfl⟩ : ∃ z, m = z + 1 := ⟨m - 1, by omega⟩
    have hin := iN_inb (k := k) (n := 12) (by omega) (by decide)
    have hix := iN_ix (k := k) (by omega)
    have hin1 := iN_inb (k := k / 2) (n := 12) (by omega) (by decide)
    have hix1 := iN_ix (k := k / 2) (by omega)
    have hin2 := iN_inb (k := 11 - k / 2) (n := 12) (by omega) (by decide)
    have hix2 := iN_ix (k := 11 - k / 2) (by omega)
    obtain ⟨g, eg⟩ : ∃ g, g = hrw (hrw (hrw h 115 0 k (rM (fo1 r))) 116 0 k (rL (fo1 r))) 117 0 k (rS (fo1 r)) := ⟨_, rfl⟩
    have e : ∀ a, a ≠ 115 → a ≠ 116 → a ≠ 117 → ∀ q, gI g a q = gI h a q := fun a z1 z2 z3 q => by
      rw [eg, gI_hrw, if_neg (by omega), gI_hrw, if_neg (by omega), gI_hrw, if_neg (by omega)]
    have w1 := h0 (k / 2) (by omega)
    have w2 := h0 (11 - k / 2) (by omega)
    rw [← eg, g_X8_doubles_6, if_neg (i12 (by omega)), i2d (by omega), i11 (by omega), if_pos hin1, if_pos hin2, if_pos hin, hix, hix1, hix2, e 120 (by omega) (by omega) (by omega), e 120 (by omega) (by omega) (by omega), w1.1, w2.1]
    rw [g_X8_doubles_42, if_pos hin1, if_pos hin2, hix1, hix2]
    obtain ⟨g1, eg1⟩ : ∃ g1, g1 = hsi g 115 k ((rM r (k / 2) + rM r (11 - k / 2)) / 4) := ⟨_, rfl⟩
    have e1 : ∀ a, a ≠ 115 → a ≠ 116 → a ≠ 117 → ∀ q, gI g1 a q = gI h a q := fun a z1 z2 z3 q => by
      rw [eg1, gI_hsi, if_neg (by omega)]; exact e a z1 z2 z3 q
    rw [← eg1, e1 121 (by omega) (by omega) (by omega), e1 121 (by omega) (by omega) (by omega), w1.2.1, w2.2.1, g_X8_doubles_59]
    show (if 1 ≤ hf (rL r) 4 k then _ else _) = _
    have fin' : ∀ v, v = rL (fo1 r) k → g_X8_doubles_76 n (g_X8_doubles_6 n m) (iN k) (iN (k / 2)) (iN (11 - k / 2)) 116 (iN k) v g1 = g_X8_doubles_114 n (hsi (hrw (hrw (hrw h 115 0 12 (rM (fo1 r))) 116 0 12 (rL (fo1 r))) 117 0 12 (rS (fo1 r))) 96 40 (gI h 96 40 + 1)) := by
      intro v hv
      rw [g_X8_doubles_76, if_pos hin, hix, g_X8_doubles_77, if_pos hin1, if_pos hin2, if_pos hin, hix, hix1, hix2, gI_hsi, if_neg (by omega), gI_hsi, if_neg (by omega), e1 122 (by omega) (by omega) (by omega), e1 122 (by omega) (by omega) (by omega), w1.2.2, w2.2.2, iN_add (by omega)]
      rw [eg1, eg, hsi_hrw (a := 115) (b := 117) (by omega), hsi_hrw (a := 115) (b := 116) (by omega), hrw_s0 h 115 k (rM (fo1 r)) (x := (rM r (k / 2) + rM r (11 - k / 2)) / 4) rfl, hsi_hrw (a := 116) (b := 117) (by omega), hrw_s0 _ 116 k _ hv, hrw_s0 _ 117 k (rS (fo1 r)) (x := (rS r (k / 2) + rS r (11 - k / 2)) / 2) rfl]
      exact ih (k + 1) m (by omega) (by omega)
    by_cases c : 1 ≤ hf (rL r) 4 k
    · rw [if_pos c]; exact fin' _ (by show _ = if 1 ≤ hf (rL r) 4 k then hf (rL r) 4 k else 1; rw [if_pos c]; rfl)
    · rw [if_neg c]; exact fin' _ (by show _ = if 1 ≤ hf (rL r) 4 k then hf (rL r) 4 k else 1; rw [if_neg c])
theorem r_fold {e : EV} {r : RP} {h : Hp} (R : RR r h) (E : RE e h) (H : okP r) : ∃ h', g_X8_doubles 4000 h = some h' ∧ RR (sFold e r) h' ∧ Fr (fun a k => SR a k ∧ ¬ (a = 96 ∧ k = 46)) h h' := by
  have f1 := Fr_hkp h
  have a1 := l_rdoub r 4000 12 (hkp h) (fun i hi => by rw [gI_hkp h _ _ hi, gI_hkp h _ _ hi, gI_hkp h _ _ hi]; simp; exact R.1 i hi) 0 4000 rfl (by omega)
  rw [hrw_0, hrw_0, hrw_0] at a1
  obtain ⟨h2, e2⟩ : ∃ h2, h2 = hsi (hrw (hrw (hrw (hkp h) 115 0 12 (rM (fo1 r))) 116 0 12 (rL (fo1 r))) 117 0 12 (rS (fo1 r))) 96 40 (gI (hkp h) 96 40 + 1) := ⟨_, rfl⟩
  rw [← e2] at a1
  have f2 : Fr (fun a k => (115 ≤ a ∧ a ≤ 117) ∨ (120 ≤ a ∧ a ≤ 122) ∨ (a = 96 ∧ k = 40)) h h2 := by
    rw [e2]
    refine ((((f1.mono (fun a k z => by omega)).rw' _ (fun k _ _ => ?_)).rw' _ (fun k _ _ => ?_)).rw' _ (fun k _ _ => ?_)).si _ ?_ <;> omega
  have R2 : RR (fo1 r) h2 := by
    obtain ⟨q1, q2, q3, q4, q5, q6⟩ := R
    refine ⟨fun k hk => ⟨?_, ?_, ?_⟩, ?_, ?_, ?_, ?_, ?_⟩
    · rw [e2, gI_hsi, if_neg (by omega), gI_hrw, if_neg (by omega), gI_hrw, if_neg (by omega), gI_hrw, if_pos (by omega)]; rfl
    · rw [e2, gI_hsi, if_neg (by omega), gI_hrw, if_neg (by omega), gI_hrw, if_pos (by omega)]; rfl
    · rw [e2, gI_hsi, if_neg (by omega), gI_hrw, if_pos (by omega)]; rfl
    · rw [e2, gI_hsi, if_pos ⟨rfl, rfl⟩, f1.i (by omega), q2]; rfl
    · rw [f2.i (by omega)]; exact q3
    · rw [f2.i (by omega)]; exact q4
    · rw [f2.l (by omega)]; exact q5
    · rw [f2.l (by omega)]; exact q6
  obtain ⟨h3, a3, f3⟩ := r_ask R2 (RE_fr (f2.mono (fun a k z => by unfold SR; omega)) E) (okP_fo1 H) (part := 2) (by omega) (c := 0) (by omega) 0
  have R3 := RR_fr f3 (fun a k => by unfold SA; omega) R2
  have hE : gL' h2 96 44 = rE r := R2.2.2.2.2.2
  refine ⟨hsl h3 96 44 (rE (sFold e r)), ?_, ?_, ?_⟩
  · unfold g_X8_doubles g_X8_doubles_0
    rw [r_keep, Option.bind_some]
    refine a1.trans ?_
    unfold g_X8_doubles_114
    rw [show g_X8_asks 4000 2 0 0 h2 = some (ask e (fo1 r) 2 0 0, h3) from a3, Option.bind_some, r_within _ _ _ (by decide), Option.bind_some, hE]
    rfl
  · obtain ⟨q1, q2, q3, q4, q5, q6⟩ := R3
    exact ⟨q1, q2, q3, q4, by rw [gL_hsl, if_neg (by omega)]; exact q5, by rw [gL_hsl, if_pos ⟨rfl, rfl⟩]⟩
  · refine (f2.mono (fun a k z => by unfold SR; omega)).tr ((f3.mono (fun a k z => by unfold SA at z; unfold SR; omega)).sl _ (by unfold SR; omega))
theorem r_cut {r : RP} {h : Hp} (R : RR r h) {c : Nat} (hc : c < 12) (k : Int32) : ∃ h', g_X8_cuts (iN c) k h = some h' ∧ RR (sCut c k r) h' ∧ Fr (fun a k => a = 115 ∨ a = 116 ∨ (a = 96 ∧ k = 42)) h h' := by
  have hin := iN_inb (k := c) (n := 12) hc (by decide)
  have hix := iN_ix (k := c) (by omega)
  obtain ⟨q1, q2, q3, q4, q5, q6⟩ := R
  have qc := q1 c hc
  obtain ⟨h', e1⟩ : ∃ h', h' = hsi (hsi (hsi h 96 42 (rC r + rM r c * k / 10)) 115 c (ct1 (rM r c) (rM r c * k / 10))) 116 c (ct1 (rL r c) (rL r c * k / 10)) := ⟨_, rfl⟩
  have f : Fr (fun a k => a = 115 ∨ a = 116 ∨ (a = 96 ∧ k = 42)) h h' := by
    rw [e1]; refine (((Fr.rfl' _ _).si _ ?_).si _ ?_).si _ ?_ <;> omega
  refine ⟨h', ?_, ⟨fun i hi => ⟨?_, ?_, ?_⟩, ?_, ?_, ?_, ?_, ?_⟩, f⟩
  · unfold g_X8_cuts g_X8_cuts_0
    rw [if_pos hin, hix, qc.1, q4]
    unfold g_X8_cuts_22
    rw [if_pos hin, hix, gI_hsi, if_neg (c := 115 = 96 ∧ c = 42) (by omega), qc.1]
    have last : ∀ v g, gI g 116 c = rL r c → g = hsi h 96 42 (rC r + rM r c * k / 10) → v = ct1 (rM r c) (rM r c * k / 10) → g_X8_cuts_51 (iN c) k 115 (iN c) v g = some h' := by
      intro v g hg hg2 hv
      unfold g_X8_cuts_51 g_X8_cuts_52
      rw [if_pos hin, if_pos hin, hix, gI_hsi, if_neg (by omega), hg]
      unfold g_X8_cuts_72 g_X8_cuts_89
      rw [e1, hv, ← hg2]
      by_cases z : 1 ≤ rL r c - rL r c * k / 10
      · rw [if_pos z, if_pos hin, hix]; congr 2; unfold ct1; rw [if_pos z]
      · rw [if_neg z, if_pos hin, hix]; congr 2; unfold ct1; rw [if_neg z]
    by_cases z : 1 ≤ rM r c - rM r c * k / 10
    · rw [if_pos z]; exact last _ _ (by rw [gI_hsi, if_neg (by omega)]; exact qc.2.1) rfl (by unfold ct1; rw [if_pos z])
    · rw [if_neg z]; exact last _ _ (by rw [gI_hsi, if_neg (by omega)]; exact qc.2.1) rfl (by unfold ct1; rw [if_neg z])
  · show gI h' 115 i = upn (rM r) c _ i
    rw [e1, gI_hsi, if_neg (by omega), gI_hsi, gI_hsi, if_neg (c := 115 = 96 ∧ i = 42) (by omega)]
    unfold upn
    by_cases z : i = c
    · rw [if_pos ⟨rfl, z⟩, if_pos z]
    · rw [if_neg (fun w => z w.2), if_neg z]; exact (q1 i hi).1
  · show gI h' 116 i = upn (rL r) c _ i
    rw [e1, gI_hsi, gI_hsi, if_neg (c := 116 = 115 ∧ i = c) (by omega), gI_hsi, if_neg (c := 116 = 96 ∧ i = 42) (by omega)]
    unfold upn
    by_cases z : i = c
    · rw [if_pos ⟨rfl, z⟩, if_pos z]
    · rw [if_neg (fun w => z w.2), if_neg z]; exact (q1 i hi).2.1
  · rw [f.i (by omega)]; exact (q1 i hi).2.2
  · rw [f.i (by omega)]; exact q2
  · rw [f.i (by omega)]; exact q3
  · rw [e1, gI_hsi, if_neg (by omega), gI_hsi, if_neg (by omega), gI_hsi, if_pos ⟨rfl, rfl⟩]; rfl
  · rw [f.l (by omega)]; exact q5
  · rw [f.l (by omega)]; exact q6
theorem l_rrest (r : RP) (w m0 : Int32) (n j : Nat) (h : Hp) (hw : gI h 96 4 = w) (hS : ∀ i, i < 12 → gI h 117 i = rS r i) : ∀ (k m : Nat), k + j = 12 → j < m → g_X8_rests_2 n m m0 (iN k) (hrw h 117 0 k (rS (sRest w m0 r))) = some (hrw h 117 0 12 (rS (sRest w m0 r))) := by
  induction j with
  | zero =>
    intro k m ek hm
    obtain ⟨m, rfl⟩ : ∃ z, m = z + 1 := ⟨m - 1, by omega⟩
    obtain rfl : k = 12 := by omega
    rw [g_X8_rests_2, if_pos i12e]
  | succ j ih =>
    intro k m ek hm
    obtain ⟨m, rfl⟩ : ∃ z, m = z + 1 := ⟨m - 1, by omega⟩
    have hin := iN_inb (k := k) (n := 12) (by omega) (by decide)
    have hix := iN_ix (k := k) (by omega)
    have g1 : gI (hrw h 117 0 k (rS (sRest w m0 r))) 117 k = rS r k := by rw [gI_hrw, if_neg (by omega)]; exact hS k (by omega)
    have g2 : gI (hrw h 117 0 k (rS (sRest w m0 r))) 96 4 = w := by rw [gI_hrw, if_neg (by omega)]; exact hw
    rw [g_X8_rests_2, if_neg (i12 (by omega)), if_pos hin, hix, g1, g2, g_X8_rests_24]
    have fin' : ∀ v, v = rS (sRest w m0 r) k → g_X8_rests_38 n (g_X8_rests_2 n m) m0 (iN k) 117 (iN k) v (hrw h 117 0 k (rS (sRest w m0 r))) = some (hrw h 117 0 12 (rS (sRest w m0 r))) := by
      intro v hv
      rw [g_X8_rests_38, if_pos hin, hix, iN_add (by omega), hrw_s0 h 117 k _ hv]
      exact ih (k + 1) m (by omega) (by omega)
    by_cases c : 0 ≤ rS r k - m0 * (w + 1)
    · rw [if_pos c]; exact fin' _ (by show _ = if _ then _ else _; rw [if_pos c])
    · rw [if_neg c]; exact fin' _ (by show _ = if _ then _ else _; rw [if_neg c])
theorem r_rest {r : RP} {h : Hp} {w : Int32} (R : RR r h) (hw : gI h 96 4 = w) (m0 : Int32) : ∃ h', g_X8_rests 4000 m0 h = some h' ∧ RR (sRest w m0 r) h' ∧ Fr (fun a _ => a = 117) h h' := by
  have a1 := l_rrest r w m0 4000 12 h hw (fun i hi => (R.1 i hi).2.2) 0 4000 rfl (by omega)
  rw [hrw_0] at a1
  refine ⟨_, a1, ?_, (Fr.rfl' _ _).rw' _ (fun k _ _ => rfl)⟩
  obtain ⟨q1, q2, q3, q4, q5, q6⟩ := R
  refine ⟨fun k hk => ⟨?_, ?_, ?_⟩, ?_, ?_, ?_, q5, q6⟩
  · rw [gI_hrw, if_neg (by omega)]; exact (q1 k hk).1
  · rw [gI_hrw, if_neg (by omega)]; exact (q1 k hk).2.1
  · rw [gI_hrw, if_pos (by omega)]; rfl
  · rw [gI_hrw, if_neg (by omega)]; exact q2
  · rw [gI_hrw, if_neg (by omega)]; exact q3
  · rw [gI_hrw, if_neg (by omega)]; exact q4
theorem r_dust {r : RP} {h : Hp} (R : RR r h) (k : Int32) : ∃ h', g_X8_dusts k h = some h' ∧ RR (sDust k r) h' ∧ Fr (fun a k => a = 96 ∧ k = 41) h h' := by
  obtain ⟨q1, q2, q3, q4, q5, q6⟩ := R
  refine ⟨hsi h 96 41 (if rD r + k ≤ 99 then rD r + k else 99), ?_, ⟨fun i hi => ⟨?_, ?_, ?_⟩, ?_, ?_, ?_, q5, q6⟩, (Fr.rfl' _ _).si _ ⟨rfl, rfl⟩⟩
  · simp only [g_X8_dusts_23, g_X8_dusts_0, g_X8_dusts, q3]
    by_cases c : rD r + k ≤ 99
    · rw [if_pos c, if_pos c]
    · rw [if_neg c, if_neg c]
  · rw [gI_hsi, if_neg (by omega)]; exact (q1 i hi).1
  · rw [gI_hsi, if_neg (by omega)]; exact (q1 i hi).2.1
  · rw [gI_hsi, if_neg (by omega)]; exact (q1 i hi).2.2
  · rw [gI_hsi, if_neg (by omega)]; exact q2
  · rw [gI_hsi, if_pos ⟨rfl, rfl⟩]; rfl
  · rw [gI_hsi, if_neg (by omega)]; exact q4
theorem l_rall (r : RP) (n j : Nat) (h : Hp) (hL : ∀ i, i < 12 → gI h 116 i = rL r i) : ∀ (k m : Nat), k + j = 12 → j < m → g_X8_allLength_4 n m (sumI (rL r) k) (iN k) h = some (allL r, h) := by
  induction j with
  | zero =>
    intro k m ek hm
    obtain ⟨m, rfl⟩ : ∃ z, m = z + 1 := ⟨m - 1, by omega⟩
    obtain rfl : k = 12 := by omega
    rw [g_X8_allLength_4, if_pos i12e]; rfl
  | succ j ih =>
    intro k m ek hm
    obtain ⟨m, rfl⟩ : ∃ z, m = z + 1 := ⟨m - 1, by omega⟩
    rw [g_X8_allLength_4, if_neg (i12 (by omega)), if_pos (iN_inb (by omega) (by decide)), iN_ix (by omega), hL k (by omega), iN_add (by omega)]
    exact ih (k + 1) m (by omega) (by omega)
theorem r_all {r : RP} {h : Hp} (R : RR r h) : g_X8_allLength 4000 h = some (allL r, h) := l_rall r 4000 12 h (fun i hi => (R.1 i hi).2.1) 0 4000 rfl (by omega)
