/-! THE REFERENCE is the machine -/
noncomputable def KL : List Int32 := [0, 1, 2, 3, 10, 11, 12, 13, 14, 15, 40, 41, 59, 43, 45, 42, 60, 61]
theorem kw_KL : ∀ w, w < 13 → kw w ∈ KL := by decide +kernel
theorem kd_KL (B : Nat → Int32) (n p : Nat) : kd B n p ∈ KL := by
  unfold kd kd0
  by_cases c : st B n p < n
  · rw [if_pos c]
    by_cases d : isLt (B (st B n p)) = true
    · rw [if_pos d]; exact kw_KL _ (wix_lt _ _ _)
    · rw [if_neg d]
      by_cases g : isDg (B (st B n p)) = true
      · rw [if_pos g]
        by_cases w : upto B n isDg (st B n p) - st B n p ≤ 4
        · rw [if_pos w]; decide
        · rw [if_neg w]; decide
      · rw [if_neg g]
        by_cases t : isS (B (st B n p)) = true
        · rw [if_pos t]
          unfold isS at t
          simp only [Bool.or_eq_true, beq_iff_eq] at t
          rcases t with ((((((t | t) | t) | t) | t) | t) | t) | t <;> rw [t] <;> decide
        · rw [if_neg t]; decide
  · rw [if_neg c]; decide
noncomputable def sgn (k : Int32) : Int32 := if k = 13 then 11 else if k = 14 then 12 else if k = 60 then 14 else if k = 61 then 15 else if k = 43 then 16 else if k = 45 then 17 else if k = 42 then 18 else -1
noncomputable def sgr (v : Int32) : Int32 := if v ≠ 4 then (if v ≠ 5 then (if v ≠ 60 then (if v ≠ 61 then (if v ≠ 43 then (if v ≠ 45 then (if v ≠ 42 then -1 else 18) else 17) else 16) else 15) else 14) else 12) else 11
theorem sgr_eq : ∀ k ∈ KL, sgr (rkd k) = sgn k := by decide +kernel
theorem kf1 : ∀ k ∈ KL, (rkd k = 59 ↔ k = 59) := by decide +kernel
theorem kf2 : ∀ k ∈ KL, (rkd k = 41 ↔ k = 41) := by decide +kernel
theorem kf3 : ∀ k ∈ KL, (rkd k = 1 ↔ k = 2) := by decide +kernel
theorem kf4 : ∀ k ∈ KL, (rkd k = 2 ↔ k = 3) := by decide +kernel
theorem kf5 : ∀ k ∈ KL, (rkd k = 6 ↔ k = 15) := by decide +kernel
theorem kf6 : ∀ k ∈ KL, (rkd k = 45 ↔ k = 45) := by decide +kernel
theorem kf7 : ∀ k ∈ KL, (rkd k = 40 ↔ k = 40) := by decide +kernel
theorem r_sign {h : Hp} {k : Int32} (hk : k ∈ KL) (q : gI h 96 28 = rkd k) : g_X8_signOf h = some (sgn k, h) := by
  rw [← sgr_eq k hk]
  unfold g_X8_signOf g_X8_signOf_0 sgr
  rw [q]
  generalize rkd k = v
  by_cases c1 : v ≠ 4
  · rw [if_pos c1, if_pos c1]
    by_cases c2 : v ≠ 5
    · rw [if_pos c2, if_pos c2]
      by_cases c3 : v ≠ 60
      · rw [if_pos c3, if_pos c3]
        by_cases c4 : v ≠ 61
        · rw [if_pos c4, if_pos c4]
          by_cases c5 : v ≠ 43
          · rw [if_pos c5, if_pos c5]
            by_cases c6 : v ≠ 45
            · rw [if_pos c6, if_pos c6]
              by_cases c7 : v ≠ 42
              · rw [if_pos c7, if_pos c7]
              · rw [if_neg c7, if_neg c7]
            · rw [if_neg c6, if_neg c6]
          · rw [if_neg c5, if_neg c5]
        · rw [if_neg c4, if_neg c4]
      · rw [if_neg c3, if_neg c3]
    · rw [if_neg c2, if_neg c2]
  · rw [if_neg c1, if_neg c1]
noncomputable def bw (sg : Int32) : Nat := if rnk sg = 4 then 5 else rnk sg
noncomputable def top4 : List Int32 → Bool
  | [] => false
  | x :: _ => rnk x == 4
noncomputable def mrun (B : Nat → Int32) (n : Nat) : Nat → Bool → Bool → List Int32 → List Int32 → Int32 → Nat → Option (Option (List Int32) × Nat)
  | 0, _, _, _, _, _, _ => none
  | m + 1, f, g, s, o, c, p =>
    if f = false then
      if kd B n p = 59 then (if (uw 1 s o c).1 = [] then some (some (uw 1 s o c).2.1, p) else some (none, p))
      else if kd B n p = 41 then (if (uw 1 s o c).1 = [] then some (none, p) else mrun B n m false g (uw 7 (uw 1 s o c).1.tail (uw 1 s o c).2.1 ((uw 1 s o c).2.2 - 1)).1 (uw 7 (uw 1 s o c).1.tail (uw 1 s o c).2.1 ((uw 1 s o c).2.2 - 1)).2.1 (uw 7 (uw 1 s o c).1.tail (uw 1 s o c).2.1 ((uw 1 s o c).2.2 - 1)).2.2 (en B n p))
      else if sgn (kd B n p) = -1 then some (none, p)
      else if rnk (sgn (kd B n p)) = 4 ∧ top4 (uw (bw (sgn (kd B n p))) s o c).1 = true then some (none, p)
      else mrun B n m true (decide (¬ 12 < sgn (kd B n p))) (sgn (kd B n p) :: (uw (bw (sgn (kd B n p))) s o c).1) (uw (bw (sgn (kd B n p))) s o c).2.1 (uw (bw (sgn (kd B n p))) s o c).2.2 (en B n p)
    else
      if kd B n p = 2 then mrun B n m false g (uw 7 s (o ++ [100000 + vl B n p]) c).1 (uw 7 s (o ++ [100000 + vl B n p]) c).2.1 (uw 7 s (o ++ [100000 + vl B n p]) c).2.2 (en B n p)
      else if kd B n p = 3 then mrun B n m false g (uw 7 s (o ++ [vl B n p]) c).1 (uw 7 s (o ++ [vl B n p]) c).2.1 (uw 7 s (o ++ [vl B n p]) c).2.2 (en B n p)
      else if kd B n p = 15 ∧ g = true then (if c = 5 then some (none, p) else mrun B n m true g (13 :: s) o (c + 1) (en B n p))
      else if kd B n p = 45 then (if c = 5 then some (none, p) else mrun B n m true false (19 :: s) o (c + 1) (en B n p))
      else if kd B n p = 40 then (if c = 5 then some (none, p) else mrun B n m true true (0 :: s) o (c + 1) (en B n p))
      else some (none, p)
theorem iN_eq4 {k : Nat} (h : k < 100) : (iN k ≠ 4) ↔ k ≠ 4 := by
  rw [show (4 : Int32) = iN 4 from rfl, ne_eq, iN_eq (by omega) (by omega)]
theorem r_btw {t : Nat} {s o : List Int32} {c sg : Int32} {h : Hp} (ht : t < 6) (hl : s.length + o.length ≤ 160) (M : MS t s o c h) : ∃ h', g_X8_between 4000 sg h = some (if rnk sg = 4 ∧ top4 (uw (bw sg) s o c).1 = true then 0 else 1, h') ∧ (¬ (rnk sg = 4 ∧ top4 (uw (bw sg) s o c).1 = true) → MS t (sg :: (uw (bw sg) s o c).1) (uw (bw sg) s o c).2.1 (uw (bw sg) s o c).2.2 h') ∧ Fr (SMc t) h h' := by
  have hr := rnk_le sg
  have key : ∀ r, r = bw sg → ∃ h', g_X8_between_17 4000 sg (iN r) h = some (if rnk sg = 4 ∧ top4 (uw (bw sg) s o c).1 = true then 0 else 1, h') ∧ (¬ (rnk sg = 4 ∧ top4 (uw (bw sg) s o c).1 = true) → MS t (sg :: (uw (bw sg) s o c).1) (uw (bw sg) s o c).2.1 (uw (bw sg) s o c).2.2 h') ∧ Fr (SMc t) h h' := by
    intro r er
    have hb : bw sg < 100 := by unfold bw; split <;> omega
    obtain ⟨h1, a1, M1, f1⟩ := r_unw (r := r) ht (by omega) hl M
    rw [er] at M1
    have ll := uw_len (bw sg) s o c
    obtain ⟨u, hu⟩ : ∃ u, u = uw (bw sg) s o c := ⟨_, rfl⟩
    rw [← hu] at M1 ll ⊢
    have hold : ∃ h', g_X8_between_55 4000 sg h1 = some (1, h') ∧ MS t (sg :: u.1) u.2.1 u.2.2 h' ∧ Fr (SMc t) h h' := by
      obtain ⟨h2, a2, M2, f2⟩ := r_holds (by omega) sg M1
      unfold g_X8_between_55
      rw [a2, Option.bind_some]
      exact ⟨h2, rfl, M2, f1.tr f2⟩
    unfold g_X8_between_17
    rw [a1, Option.bind_some, r_rank, Option.bind_some]
    by_cases c4 : rnk sg = 4
    · rw [if_neg (fun z => (iN_eq4 (by omega)).mp z c4)]
      cases hs : u.1 with
      | nil =>
        have m1 := M1.1
        rw [hs] at m1 hold
        rw [show gI h1 96 32 = 0 from m1, if_pos (by decide), if_neg (fun z => absurd z.2 (by decide))]
        obtain ⟨h2, b1, b2, b3⟩ := hold
        exact ⟨h2, b1, fun _ => b2, b3⟩
      | cons x s' =>
        have m1 := M1.1
        have m2 := M1.2.1
        rw [hs] at m1 m2 hold ll
        have m1' : gI h1 96 32 = iN (s'.length + 1) := m1
        have ll' : s'.length + 1 + u.2.1.length = s.length + o.length := by simpa using ll
        rw [m1', if_neg (show ¬ iN (s'.length + 1) ≤ 0 by rw [show (0 : Int32) = iN 0 from rfl, iN_le (by omega) (by omega)]; omega), iN_sub (by omega) (by omega), Nat.add_sub_cancel, if_pos (iN_inb (by omega) (by decide)), iN_ix (by omega), m2.1, r_rank, Option.bind_some]
        have hx := rnk_le x
        by_cases x4 : rnk x = 4
        · rw [if_neg (fun z => (iN_eq4 (by omega)).mp z x4), if_pos ⟨c4, show (rnk x == 4) = true by rw [x4]; rfl⟩]
          exact ⟨h1, rfl, fun z => absurd ⟨c4, show (rnk x == 4) = true by rw [x4]; rfl⟩ z, f1⟩
        · rw [if_pos ((iN_eq4 (by omega)).mpr x4), if_neg (fun z => x4 (eq_of_beq z.2))]
          obtain ⟨h2, b1, b2, b3⟩ := hold
          exact ⟨h2, b1, fun _ => b2, b3⟩
    · rw [if_pos ((iN_eq4 (by omega)).mpr c4), if_neg (fun z => c4 z.1)]
      obtain ⟨h2, b1, b2, b3⟩ := hold
      exact ⟨h2, b1, fun _ => b2, b3⟩
  unfold g_X8_between g_X8_between_0
  rw [r_rank, Option.bind_some]
  by_cases c4 : rnk sg = 4
  · rw [if_neg (fun z => (iN_eq4 (by omega)).mp z c4)]
    exact key 5 (by unfold bw; rw [if_pos c4])
  · rw [if_pos ((iN_eq4 (by omega)).mpr c4), r_rank, Option.bind_some]
    exact key _ (by unfold bw; rw [if_neg c4])
theorem r_opens {t : Nat} {s o : List Int32} {c : Int32} {h : Hp} (hl : s.length < 200) (x : Int32) (M : MS t s o c h) : ∃ h', g_X8_opensOne x h = some (if c = 5 then 0 else 1, h') ∧ (c ≠ 5 → MS t (x :: s) o (c + 1) h') ∧ Fr (SMc t) h h' := by
  obtain ⟨m1, m2, m3, m4, m5, m6⟩ := id M
  unfold g_X8_opensOne g_X8_opensOne_0 g_X8_opensOne_20
  rw [m3]
  by_cases c5 : c = 5
  · rw [if_neg (fun z => z c5), if_pos c5]
    exact ⟨h, rfl, fun z => absurd c5 z, Fr.rfl' _ _⟩
  · rw [if_pos c5, if_neg c5]
    have f0 : Fr (SMc t) h (hsi h 96 33 (c + 1)) := (Fr.rfl' _ _).si _ (by unfold SMc; omega)
    have M0 : MS t s o (c + 1) (hsi h 96 33 (c + 1)) := by
      refine ⟨?_, stk_c (fun k hk => by rw [gI_hsi, if_neg (by omega)]) m2, ?_, ?_, fun i hi => ?_, ?_⟩
      · rw [gI_hsi, if_neg (by omega)]; exact m1
      · rw [gI_hsi, if_pos ⟨rfl, rfl⟩]
      · rw [gI_hsi, if_neg (by omega)]; exact m4
      · rw [gI_hsi, if_neg (by omega)]; exact m5 i hi
      · rw [gI_hsi, if_neg (by omega)]; exact m6
    obtain ⟨h1, a1, M1, f1⟩ := r_holds hl x M0
    rw [a1, Option.bind_some]
    exact ⟨h1, rfl, fun _ => M1, f0.tr f1⟩
