theorem low_sgn : ∀ k ∈ KL, sgn k ≠ -1 → rnk (sgn k) ≤ 6 ∧ rnk (sgn k) ≠ 3 ∧ (rnk (sgn k) = 4 ↔ (k = 60 ∨ k = 61)) ∧ ((k = 60 ∨ k = 61) → 12 < sgn k ∧ (if k ≠ 60 then (-15 : Int32) else -14) = -(sgn k)) := by decide +kernel
theorem fail_of {B : Nat → Int32} {n tg tg' d d' p q : Nat} {o o' : List Int32} {p' : Nat} (hs : ∀ g s, Pr B n tg g s p → ∃ (k : Nat) (g' : Bool) (s' : List Int32), k + p ≤ q ∧ Pr B n tg' g' s' q ∧ ∀ m, mrun B n (m + k) true g s o (iN d) p = mrun B n m true g' s' o' (iN d') q) (F : Fl B n tg' d' q o' p') : Fl B n tg d p o p' := by
  intro g s P
  obtain ⟨k, g', s', a1, a2, a3⟩ := hs g s P
  obtain ⟨k2, b1, b2'⟩ := F g' s' a2
  refine ⟨k + k2, by omega, fun m => ?_⟩
  rw [show m + (k + k2) + 1 = (m + k2 + 1) + k by omega, a3]
  exact b2' m
theorem cl_cmp {B : Nat → Int32} {n t L : Nat} (O : okB2 B n) {d : Nat} {S : Nat → Nat → Int32 → Hp → Option (Int32 × Hp)} (hS : CL B n t L (S 17 (48 + 4 * t) (iN d)) 17 d) : CL B n t L (g_X2_readCompared 4000 S (48 + 4 * t) (iN d)) 16 d := by
  intro h p o H A C hp hl
  have h160 := O.1
  obtain ⟨b, h1, p1, r1, f1, A1, l1, l2, bF, bT⟩ := hS h p o H A C hp hl
  unfold g_X2_readCompared g_X2_readCompared_0
  rw [r1, Option.bind_some]
  cases b with
  | false =>
    rw [if_neg (fun z => z rfl)]
    exact ⟨false, h1, p1, rfl, f1, A1, l1, l2, fun _ g s P => bF rfl g s (Pr_up (by omega) (by omega) P), fun z => absurd z (by decide)⟩
  | true =>
    rw [if_pos (show b2 true ≠ 0 by decide)]
    obtain ⟨cs, C1, K1⟩ := bT rfl
    have hk := kd_KL B n p1
    by_cases op : kd B n p1 = 60 ∨ kd B n p1 = 61
    case neg =>
      have e : (if gI h1 31 3 = 60 then g_X2_readCompared_31 4000 S (48 + 4 * t) (iN d) h1 else if gI h1 31 3 = 61 then g_X2_readCompared_31 4000 S (48 + 4 * t) (iN d) h1 else some (1, h1)) = some (1, h1) := by
        rw [A1.2.1, if_neg (fun z => op (Or.inl z)), if_neg (fun z => op (Or.inr z))]
      dsimp only
      rw [e]
      refine ⟨true, h1, p1, rfl, f1, A1, l1, l2, fun z => absurd z (by decide), fun _ => ⟨cs, C1, K1.1, hP_mono K1.2.1 (by unfold BND; simp), fun g s P => ?_⟩⟩
      obtain ⟨k, g1, s1, o1, c1, a1, a2, a3, a4⟩ := K1.2.2 g s (Pr_up (by omega) (by omega) P)
      refine ⟨k, g1, s1, o1, c1, a1, a2, uw_low (by omega) a3, fun z1 z2 => a4 z1 ?_⟩
      have := mt (low_sgn _ hk z1).2.2.1.mp op
      omega
    have x1 : sgn (kd B n p1) ≠ -1 := by rcases op with e | e <;> rw [e] <;> decide
    obtain ⟨r6, r3, r4, r5⟩ := low_sgn _ hk x1
    have x2 : rnk (sgn (kd B n p1)) = 4 := r4.mpr op
    obtain ⟨k12, kc⟩ := r5 op
    obtain ⟨y1, y2, y3, y4⟩ := sgn_ok _ hk x1
    have e : (if gI h1 31 3 = 60 then g_X2_readCompared_31 4000 S (48 + 4 * t) (iN d) h1 else if gI h1 31 3 = 61 then g_X2_readCompared_31 4000 S (48 + 4 * t) (iN d) h1 else some (1, h1)) = g_X2_readCompared_47 4000 S (48 + 4 * t) (iN d) (-(sgn (kd B n p1))) h1 := by
      have e31 : g_X2_readCompared_31 4000 S (48 + 4 * t) (iN d) h1 = g_X2_readCompared_47 4000 S (48 + 4 * t) (iN d) (-(sgn (kd B n p1))) h1 := by
        unfold g_X2_readCompared_31
        rw [A1.2.1, ← kc]
        by_cases z : kd B n p1 ≠ 60
        · rw [if_pos z, if_pos z]
        · rw [if_neg z, if_neg z]
      rw [A1.2.1]
      by_cases z : kd B n p1 = 60
      · rw [if_pos z]; exact e31
      · rw [if_neg z, if_pos (op.resolve_left z)]; exact e31
    dsimp only
    rw [e]
    have k0 := (sgn_ne x1).2.2
    have es := en_s O l2 k0
    have eb := en_b O l2
    obtain ⟨h2, a2, A2, f2⟩ := c_adv O (TPc_s f1 H) eb.2.2 A1.1
    have f2' : Fr (SCd t) h1 h2 := f2.mono (fun a k z => Or.inl z)
    have H2 := TPc_s f2' (TPc_s f1 H)
    have C2 := CC_fr f2 C1
    have hlen : (o ++ cs).length ≤ p1 := by rw [List.length_append]; have := K1.1; omega
    obtain ⟨b, h3, p3, q1, f3, A3, m1, m2, cF, cT⟩ := hS h2 (en B n p1) (o ++ cs) H2 A2 C2 eb.2.2 (by omega)
    have step : ∀ g s, Pr B n 16 g s p → ∃ (k : Nat) (g' : Bool) (s' : List Int32), k + p ≤ en B n p1 ∧ Pr B n 17 g' s' (en B n p1) ∧ ∀ m, mrun B n (m + k) true g s o (iN d) p = mrun B n m true g' s' (o ++ cs) (iN d) (en B n p1) := by
      intro g s P
      obtain ⟨k, g1, s1, o1, c1, u1, u2, u3, u4⟩ := K1.2.2 g s (Pr_up (by omega) (by omega) P)
      have ht : topr 4 s := P.1 (by omega)
      have t4 : ¬ (top4 s = true) := by
        cases s with
        | nil => exact fun z => absurd z (by decide)
        | cons x s' =>
          have := ht x s' rfl
          show ¬ ((rnk x == 4) = true)
          rw [beq_iff_eq]; omega
      refine ⟨k + 1, decide (¬ 12 < sgn (kd B n p1)), sgn (kd B n p1) :: s, by omega, ⟨fun _ => topr_cons (by rw [x2]; decide), fun _ => Or.inl (decide_eq_false (fun w => w k12)), fun z => absurd z (by decide)⟩, fun m => ?_⟩
      rw [show m + (k + 1) = (m + 1) + k by omega, u2]
      refine m_op x1 ?_ (fun z => t4 z.2) m
      have hb : bw (sgn (kd B n p1)) = 5 := by unfold bw; rw [if_pos x2]
      rw [hb]
      exact u3.trans (uw_top (topr_mono (by omega) ht))
    unfold g_X2_readCompared_47
    rw [a2, Option.bind_some, q1, Option.bind_some]
    cases b with
    | false =>
      rw [if_neg (fun z => z rfl)]
      exact ⟨false, h3, p3, rfl, (f1.tr f2').tr f3, A3, by omega, m2, fun _ => fail_of step (cF rfl), fun z => absurd z (by decide)⟩
    | true =>
      rw [if_pos (show b2 true ≠ 0 by decide)]
      obtain ⟨cs2, C3, K3⟩ := cT rfl
      have len3 : ((o ++ cs) ++ cs2).length < 160 := by
        rw [List.length_append]; have := K3.1; omega
      obtain ⟨h4, a4, C4, A4, f4⟩ := c_add len3 C3 A3 (sgn (kd B n p1)) y4
      dsimp only
      rw [a4, Option.bind_some]
      refine ⟨true, h4, p3, rfl, ((f1.tr f2').tr f3).tr f4, A4, by omega, m2, fun z => absurd z (by decide), fun _ => ⟨cs ++ cs2 ++ [sgn (kd B n p1)], by rw [← List.append_assoc, ← List.append_assoc]; exact C4, ?_, ?_, fun g s P => ?_⟩⟩
      · rw [List.length_append, List.length_append]
        have := K1.1; have := K3.1
        show cs.length + cs2.length + 1 + p ≤ p3
        omega
      · refine hP_bin (hP_mono K1.2.1 (by unfold BND; simp)) K3.2.1 ?_ y1 y2 y3
        unfold BND
        simp
      · -- the machine's own stack at the second operand
        obtain ⟨k, g1, s1, o1, c1, u1, u2, u3, u4⟩ := K1.2.2 g s (Pr_up (by omega) (by omega) P)
        have ht : topr 4 s := P.1 (by omega)
        have t4 : ¬ (top4 s = true) := by
          cases s with
          | nil => exact fun z => absurd z (by decide)
          | cons x s' =>
            have := ht x s' rfl
            show ¬ ((rnk x == 4) = true)
            rw [beq_iff_eq]; omega
        have hb : bw (sgn (kd B n p1)) = 5 := by unfold bw; rw [if_pos x2]
        have hop := fun m => m_op (g := g1) (s1 := s1) (o1 := o1) (c1 := c1) (s := s) (o := o ++ cs) (c := iN d) x1 (by rw [hb]; exact u3.trans (uw_top (topr_mono (by omega) ht))) (fun z => t4 z.2) m
        obtain ⟨k2, g2, s2, o2, c2, w1, w2, w3, w4⟩ := K3.2.2 (decide (¬ 12 < sgn (kd B n p1))) (sgn (kd B n p1) :: s) ⟨fun _ => topr_cons (by rw [x2]; decide), fun _ => Or.inl (decide_eq_false (fun w => w k12)), fun z => absurd z (by decide)⟩
        refine ⟨k + 1 + k2, g2, s2, o2, c2, by omega, fun m => ?_, ?_, fun z1 z2 => ?_⟩
        · rw [show m + (k + 1 + k2) = (m + k2 + 1) + k by omega, u2, hop]
          exact w2 m
        · rw [uw_low (r := 16 - 12) (by omega) w3, uw, if_neg (by omega), if_neg y3, ← List.append_assoc, ← List.append_assoc]
        · by_cases z4 : rnk (sgn (kd B n p3)) = 4
          · refine ⟨z4, ?_⟩
            have w3' : uw 5 s2 o2 c2 = uw 5 (sgn (kd B n p1) :: s) (o ++ cs ++ cs2) (iN d) := w3
            rw [w3', uw_top (topr_cons (by omega))]
            show (rnk (sgn (kd B n p1)) == 4) = true
            rw [x2]; rfl
          · exact w4 z1 (by omega)
