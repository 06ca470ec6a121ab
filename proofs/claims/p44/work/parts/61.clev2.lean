theorem iN_lt5 {d : Nat} (hd : d ≤ 5) : (iN d < 5) ↔ d < 5 := by
  rw [show (5 : Int32) = iN 5 from rfl, iN_lt (by omega) (by omega)]
theorem iN_ne5 {d : Nat} (hd : d < 5) : iN d ≠ 5 := by
  intro z; rw [show (5 : Int32) = iN 5 from rfl, iN_eq (by omega) (by omega)] at z; omega
theorem cl_not {B : Nat → Int32} {n t L : Nat} (O : okB2 B n) {d : Nat} (hd : d ≤ 5) {S : Nat → Nat → Int32 → Hp → Option (Int32 × Hp)} (hS : CL B n t L (S 16 (48 + 4 * t) (iN d)) 16 d) (hN : d < 5 → CL B n t L (S 15 (48 + 4 * t) (iN (d + 1))) 15 (d + 1)) : CL B n t L (g_X2_readNot 4000 S (48 + 4 * t) (iN d)) 15 d := by
  intro h p o H A C hp hl
  have h160 := O.1
  have hk := kd_KL B n p
  unfold g_X2_readNot g_X2_readNot_0
  rw [A.2.1]
  by_cases k15 : kd B n p = 15
  case neg =>
    obtain ⟨b, h1, p1, r1, f1, A1, l1, l2, bF, bT⟩ := hS h p o H A C hp hl
    have pr : ∀ g s, Pr B n 15 g s p → Pr B n 16 g s p := fun g s P => ⟨fun _ => P.1 (by omega), fun _ => Or.inr k15, fun z => absurd z (by decide)⟩
    rw [if_neg k15, r1, Option.bind_some]
    have bb : b2 b = 0 ∨ b2 b = 1 := by cases b; exact Or.inl rfl; exact Or.inr rfl
    rw [if_pos bb]
    refine ⟨b, h1, p1, rfl, f1, A1, l1, l2, fun z g s P => bF z g s (pr g s P), fun z => ?_⟩
    obtain ⟨cs, C1, K1⟩ := bT z
    refine ⟨cs, C1, K1.1, hP_mono K1.2.1 (by unfold BND; simp), fun g s P => ?_⟩
    obtain ⟨k, g1, s1, o1, c1, a1, a2, a3, a4⟩ := K1.2.2 g s (pr g s P)
    refine ⟨k, g1, s1, o1, c1, a1, a2, uw_low (by omega) a3, fun z1 z2 => a4 z1 ?_⟩
    have := (low_sgn _ (kd_KL B n p1) z1).2.1
    omega
  rw [if_pos k15]
  by_cases d5 : d < 5
  case neg =>
    rw [if_neg (fun z => d5 ((iN_lt5 hd).mp z))]
    refine ⟨false, h, p, rfl, Fr.rfl' _ _, A, Nat.le_refl _, hp, fun _ g s P => ⟨0, by omega, fun m => ?_⟩, fun z => absurd z (by decide)⟩
    have hg : g = true := P.2.2 (by omega)
    obtain rfl : d = 5 := by omega
    rw [mrun, if_neg (by decide), if_neg (by rw [k15]; decide), if_neg (by rw [k15]; decide), if_pos ⟨k15, hg⟩, if_pos (show iN 5 = 5 from rfl)]
  rw [if_pos ((iN_lt5 hd).mpr d5)]
  have k0 : kd B n p ≠ 0 := by rw [k15]; decide
  have es := en_s O hp k0
  have eb := en_b O hp
  obtain ⟨h2, a2, A2, f2⟩ := c_adv O H eb.2.2 A.1
  have f2' : Fr (SCd t) h h2 := f2.mono (fun a k z => Or.inl z)
  have C2 := CC_fr f2 C
  obtain ⟨b, h3, p3, q1, f3, A3, m1, m2, cF, cT⟩ := hN d5 h2 (en B n p) o (TPc_s f2' H) A2 C2 eb.2.2 (by omega)
  have step : ∀ g s, Pr B n 15 g s p → ∃ (k : Nat) (g' : Bool) (s' : List Int32), k + p ≤ en B n p ∧ Pr B n 15 g' s' (en B n p) ∧ ∀ m, mrun B n (m + k) true g s o (iN d) p = mrun B n m true g' s' o (iN (d + 1)) (en B n p) := by
    intro g s P
    have hg : g = true := P.2.2 (by omega)
    refine ⟨1, true, 13 :: s, by omega, ⟨fun _ => topr_cons (by decide), fun z => absurd z (by decide), fun _ => rfl⟩, fun m => ?_⟩
    rw [mrun, if_neg (by decide), if_neg (by rw [k15]; decide), if_neg (by rw [k15]; decide), if_pos ⟨k15, hg⟩, if_neg (iN_ne5 d5), iN_add (by omega), hg]
  rw [a2, Option.bind_some, iN_add (by omega), q1, Option.bind_some]
  cases b with
  | false =>
    rw [if_neg (fun z => z rfl)]
    exact ⟨false, h3, p3, rfl, f2'.tr f3, A3, by omega, m2, fun _ => fail_of step (cF rfl), fun z => absurd z (by decide)⟩
  | true =>
    rw [if_pos (show b2 true ≠ 0 by decide)]
    obtain ⟨cs2, C3, K3⟩ := cT rfl
    have len3 : (o ++ cs2).length < 160 := by
      rw [List.length_append]; have := K3.1; omega
    obtain ⟨h4, a4, C4, A4, f4⟩ := c_add (v := -13) len3 C3 A3 13 (by decide)
    dsimp only
    rw [a4, Option.bind_some]
    refine ⟨true, h4, p3, rfl, (f2'.tr f3).tr f4, A4, by omega, m2, fun z => absurd z (by decide), fun _ => ⟨cs2 ++ [13], by rw [← List.append_assoc]; exact C4, ?_, ?_, fun g s P => ?_⟩⟩
    · rw [List.length_append]
      have := K3.1
      show cs2.length + 1 + p ≤ p3
      omega
    · refine hP_un (hP_mono K3.2.1 ?_) (Or.inr (Or.inr (by decide))) (by decide) (Or.inl rfl)
      unfold BND
      simp; omega
    · have hg : g = true := P.2.2 (by omega)
      obtain ⟨k2, g2, s2, o2, c2, w1, w2, w3, w4⟩ := K3.2.2 true (13 :: s) ⟨fun _ => topr_cons (by decide), fun z => absurd z (by decide), fun _ => rfl⟩
      refine ⟨k2 + 1, g2, s2, o2, c2, by omega, fun m => ?_, ?_, w4⟩
      · rw [show m + (k2 + 1) = (m + k2) + 1 by omega, mrun, if_neg (by decide), if_neg (by rw [k15]; decide), if_neg (by rw [k15]; decide), if_pos ⟨k15, hg⟩, if_neg (iN_ne5 d5), iN_add (by omega), hg]
        exact w2 m
      · rw [w3, uw, if_neg (by decide), if_pos (Or.inl rfl), iN_sub (by omega) (by omega), Nat.add_sub_cancel, ← List.append_assoc]
theorem NoOp7 {B : Nat → Int32} {n p : Nat} {s o : List Int32} {c : Int32} : NoOp B n 7 p s o c := fun z1 z2 => by
  have := (low_sgn _ (kd_KL B n p) z1).1
  omega
theorem cl_one {B : Nat → Int32} {n t L : Nat} (O : okB2 B n) {d : Nat} (hd : d ≤ 5) {S : Nat → Nat → Int32 → Hp → Option (Int32 × Hp)} (hE : d < 5 → CL B n t L (S 13 (48 + 4 * t) (iN (d + 1))) 13 (d + 1)) (hO : d < 5 → CL B n t L (S 19 (48 + 4 * t) (iN (d + 1))) 19 (d + 1)) : CL B n t L (g_X2_readOne 4000 S (48 + 4 * t) (iN d)) 19 d := by
  intro h p o H A C hp hl
  have h160 := O.1
  have hk := kd_KL B n p
  have eb := en_b O hp
  -- an operand
  have operand : ∀ x v, okCode x → isOp x = true → cmap x = v → kd B n p ≠ 0 → (∀ g s m, mrun B n (m + 1) true g s o (iN d) p = mrun B n m false g (uw 7 s (o ++ [x]) (iN d)).1 (uw 7 s (o ++ [x]) (iN d)).2.1 (uw 7 s (o ++ [x]) (iN d)).2.2 (en B n p)) → Out B n t 19 d p o h (g_X2_readOne_39 4000 S (48 + 4 * t) v h) := by
    intro x v x1 x2 x3 k0 hm
    have es := en_s O hp k0
    obtain ⟨h1, a1, C1, A1, f1⟩ := c_add (by omega) C A x x3
    obtain ⟨h2, a2, A2, f2⟩ := c_adv O (TPc_s f1 H) eb.2.2 A1.1
    unfold g_X2_readOne_39
    rw [a1, Option.bind_some, a2, Option.bind_some]
    refine ⟨true, h2, en B n p, rfl, f1.tr (f2.mono (fun a k z => Or.inl z)), A2, by omega, eb.2.2, fun z => absurd z (by decide), fun _ => ⟨[x], CC_fr f2 C1, ?_, hP_one x1 x2 (by unfold BND; omega), fun g s P => ⟨1, g, _, _, _, by omega, fun m => hm g s m, uw_uw (Nat.le_refl _) _ _ _, NoOp7⟩⟩⟩
    show 1 + p ≤ en B n p
    omega
  -- a refusal here
  have bad : (∀ g s m, Pr B n 19 g s p → mrun B n (m + 1) true g s o (iN d) p = some (none, p)) → Out B n t 19 d p o h (some (0, h)) := fun hm =>
    ⟨false, h, p, rfl, Fr.rfl' _ _, A, Nat.le_refl _, hp, fun _ g s P => ⟨0, by omega, fun m => hm g s m P⟩, fun z => absurd z (by decide)⟩
  unfold g_X2_readOne g_X2_readOne_0
  rw [A.2.1]
  by_cases k2 : kd B n p = 2
  · rw [if_pos k2]
    unfold g_X2_readOne_16
    rw [A.2.1, if_neg (fun z => z k2), A.2.2.2 (Or.inl k2)]
    obtain ⟨v1, v2, v3⟩ := vl_2 k2
    exact operand _ _ v1 v2 v3 (by rw [k2]; decide) (fun g s m => by rw [mrun, if_neg (by decide), if_pos k2])
  rw [if_neg k2]
  by_cases k3 : kd B n p = 3
  · rw [if_neg (fun z => z k3)]
    unfold g_X2_readOne_16
    rw [A.2.1, if_pos k2, A.2.2.2 (Or.inr k3)]
    unfold g_X6_nameCode g_X6_nameCode_0
    rw [Option.bind_some]
    obtain ⟨v1, v2, v3⟩ := vl_3 k3
    exact operand _ _ v1 v2 v3 (by rw [k3]; decide) (fun g s m => by rw [mrun, if_neg (by decide), if_neg k2, if_pos k3])
  rw [if_pos k3]
  have hm0 : ∀ g s m, Pr B n 19 g s p → mrun B n (m + 1) true g s o (iN d) p = (if kd B n p = 45 then (if iN d = 5 then some (none, p) else mrun B n m true false (19 :: s) o (iN d + 1) (en B n p)) else if kd B n p = 40 then (if iN d = 5 then some (none, p) else mrun B n m true true (0 :: s) o (iN d + 1) (en B n p)) else some (none, p)) := by
    intro g s m P
    rw [mrun, if_neg (by decide), if_neg k2, if_neg k3, if_neg]
    intro z
    rcases P.2.1 (by omega) with w | w
    · rw [w] at z; exact absurd z.2 (by decide)
    · exact w z.1
  by_cases k45 : kd B n p = 45
  · rw [if_pos k45]
    unfold g_X2_readOne_66
    by_cases d5 : d < 5
    case neg =>
      rw [if_neg (fun z => d5 ((iN_lt5 hd).mp z))]
      obtain rfl : d = 5 := by omega
      exact bad (fun g s m P => by rw [hm0 g s m P, if_pos k45, if_pos (show iN 5 = 5 from rfl)])
    rw [if_pos ((iN_lt5 hd).mpr d5), A.2.1, if_neg (fun z => z k45)]
    have es := en_s O hp (by rw [k45]; decide)
    obtain ⟨h2, a2, A2, f2⟩ := c_adv O H eb.2.2 A.1
    have f2' : Fr (SCd t) h h2 := f2.mono (fun a k z => Or.inl z)
    have C2 := CC_fr f2 C
    obtain ⟨b, h3, p3, q1, f3, A3, m1, m2, cF, cT⟩ := hO d5 h2 (en B n p) o (TPc_s f2' H) A2 C2 eb.2.2 (by omega)
    have hm1 : ∀ g s m, Pr B n 19 g s p → mrun B n (m + 1) true g s o (iN d) p = mrun B n m true false (19 :: s) o (iN (d + 1)) (en B n p) := fun g s m P => by rw [hm0 g s m P, if_pos k45, if_neg (iN_ne5 d5), iN_add (by omega)]
    have pr : ∀ s, Pr B n 19 false (19 :: s) (en B n p) := fun s => ⟨fun z => absurd z (by decide), fun _ => Or.inl rfl, fun z => absurd z (by decide)⟩
    unfold g_X2_readOne_87
    rw [a2, Option.bind_some, if_neg (show ¬ (1 : Int32) = 0 by decide), iN_add (by omega), q1, Option.bind_some]
    cases b with
    | false =>
      rw [if_neg (fun z => z rfl)]
      exact ⟨false, h3, p3, rfl, f2'.tr f3, A3, by omega, m2, fun _ => fail_of (fun g s P => ⟨1, false, 19 :: s, by omega, pr s, fun m => hm1 g s m P⟩) (cF rfl), fun z => absurd z (by decide)⟩
    | true =>
      rw [if_pos (show b2 true ≠ 0 by decide)]
      obtain ⟨cs2, C3, K3⟩ := cT rfl
      have len3 : (o ++ cs2).length < 160 := by
        rw [List.length_append]; have := K3.1; omega
      obtain ⟨h4, a4, C4, A4, f4⟩ := c_add (v := -19) len3 C3 A3 19 (by decide)
      dsimp only
      rw [a4, Option.bind_some]
      refine ⟨true, h4, p3, rfl, (f2'.tr f3).tr f4, A4, by omega, m2, fun z => absurd z (by decide), fun _ => ⟨cs2 ++ [19], by rw [← List.append_assoc]; exact C4, ?_, ?_, fun g s P => ?_⟩⟩
      · rw [List.length_append]
        have := K3.1
        show cs2.length + 1 + p ≤ p3
        omega
      · refine hP_un (hP_mono K3.2.1 ?_) (Or.inr (Or.inr (by decide))) (by decide) (Or.inr rfl)
        unfold BND
        simp; omega
      · obtain ⟨k2', g2, s2, o2, c2, w1, w2, w3, w4⟩ := K3.2.2 false (19 :: s) (pr s)
        refine ⟨k2' + 1, g2, s2, o2, c2, by omega, fun m => ?_, ?_, w4⟩
        · rw [show m + (k2' + 1) = (m + k2') + 1 by omega, hm1 g s _ P]
          exact w2 m
        · rw [w3, uw, if_neg (by decide), if_pos (Or.inr rfl), iN_sub (by omega) (by omega), Nat.add_sub_cancel, ← List.append_assoc]
  rw [if_neg k45]
  by_cases k40 : kd B n p = 40
  case neg =>
    rw [if_pos k40]
    exact bad (fun g s m P => by rw [hm0 g s m P, if_neg k45, if_neg k40])
  rw [if_neg (fun z => z k40)]
  unfold g_X2_readOne_66
  by_cases d5 : d < 5
  case neg =>
    rw [if_neg (fun z => d5 ((iN_lt5 hd).mp z))]
    obtain rfl : d = 5 := by omega
    exact bad (fun g s m P => by rw [hm0 g s m P, if_neg k45, if_pos k40, if_pos (show iN 5 = 5 from rfl)])
  rw [if_pos ((iN_lt5 hd).mpr d5), A.2.1, if_pos k45]
  have es := en_s O hp (by rw [k40]; decide)
  obtain ⟨h2, a2, A2, f2⟩ := c_adv O H eb.2.2 A.1
  have f2' : Fr (SCd t) h h2 := f2.mono (fun a k z => Or.inl z)
  have C2 := CC_fr f2 C
  obtain ⟨b, h3, p3, q1, f3, A3, m1, m2, cF, cT⟩ := hE d5 h2 (en B n p) o (TPc_s f2' H) A2 C2 eb.2.2 (by omega)
  have hm1 : ∀ g s m, Pr B n 19 g s p → mrun B n (m + 1) true g s o (iN d) p = mrun B n m true true (0 :: s) o (iN (d + 1)) (en B n p) := fun g s m P => by rw [hm0 g s m P, if_neg k45, if_pos k40, if_neg (iN_ne5 d5), iN_add (by omega)]
  have pr : ∀ s, Pr B n 13 true (0 :: s) (en B n p) := fun s => ⟨fun _ => topr_cons (by decide), fun z => absurd z (by decide), fun _ => rfl⟩
  unfold g_X2_readOne_87
  rw [a2, Option.bind_some, if_pos rfl, iN_add (by omega), q1, Option.bind_some]
  cases b with
  | false =>
    rw [if_pos (show b2 false = 0 from rfl)]
    exact ⟨false, h3, p3, rfl, f2'.tr f3, A3, by omega, m2, fun _ => fail_of (fun g s P => ⟨1, true, 0 :: s, by omega, pr s, fun m => hm1 g s m P⟩) (cF rfl), fun z => absurd z (by decide)⟩
  | true =>
    obtain ⟨cs2, C3, K3⟩ := cT rfl
    rw [if_neg (show ¬ b2 true = 0 by decide)]
    dsimp only
    rw [A3.2.1]
    have H3 := TPc_s (f2'.tr f3) H
    -- the machine inside the brackets
    have inside : ∀ g s, Pr B n 19 g s p → ∃ (k : Nat) (g2 : Bool) (s2 o2 : List Int32) (c2 : Int32), k + p ≤ p3 ∧ (∀ m, mrun B n (m + k) true g s o (iN d) p = mrun B n m false g2 s2 o2 c2 p3) ∧ uw 1 s2 o2 c2 = (0 :: s, o ++ cs2, iN (d + 1)) ∧ NoOp B n 1 p3 s2 o2 c2 := by
      intro g s P
      obtain ⟨k2', g2, s2, o2, c2, w1, w2, w3, w4⟩ := K3.2.2 true (0 :: s) (pr s)
      refine ⟨k2' + 1, g2, s2, o2, c2, by omega, fun m => ?_, ?_, w4⟩
      · rw [show m + (k2' + 1) = (m + k2') + 1 by omega, hm1 g s _ P]
        exact w2 m
      · exact w3.trans (uw_top (topr_cons (by decide)))
    by_cases k41 : kd B n p3 = 41
    case neg =>
      rw [if_neg k41]
      refine ⟨false, h3, p3, rfl, f2'.tr f3, A3, by omega, m2, fun _ g s P => ?_, fun z => absurd z (by decide)⟩
      obtain ⟨k, g2, s2, o2, c2, w1, w2, w3, w4⟩ := inside g s P
      refine ⟨k, w1, fun m => ?_⟩
      rw [show m + k + 1 = (m + 1) + k by omega, w2]
      by_cases k59 : kd B n p3 = 59
      · rw [mrun, if_pos rfl, if_pos k59, w3, if_neg (List.cons_ne_nil _ _)]
      · exact m_bad k59 k41 w4 m
    rw [if_pos k41]
    have es3 := en_s O m2 (by rw [k41]; decide)
    have eb3 := en_b O m2
    obtain ⟨h4, a4, A4, f4⟩ := c_adv O H3 eb3.2.2 A3.1
    rw [a4, Option.bind_some]
    refine ⟨true, h4, en B n p3, rfl, (f2'.tr f3).tr (f4.mono (fun a k z => Or.inl z)), A4, by omega, eb3.2.2, fun z => absurd z (by decide), fun _ => ⟨cs2, CC_fr f4 C3, ?_, hP_mono K3.2.1 ?_, fun g s P => ?_⟩⟩
    · have := K3.1; omega
    · unfold BND
      simp; omega
    · obtain ⟨k, g2, s2, o2, c2, w1, w2, w3, w4⟩ := inside g s P
      refine ⟨k + 1, g2, (uw 7 s (o ++ cs2) (iN d)).1, (uw 7 s (o ++ cs2) (iN d)).2.1, (uw 7 s (o ++ cs2) (iN d)).2.2, by omega, fun m => ?_, uw_uw (Nat.le_refl _) _ _ _, NoOp7⟩
      rw [show m + (k + 1) = (m + 1) + k by omega, w2, mrun, if_pos rfl, if_neg (by rw [k41]; decide), if_pos k41, w3, if_neg (List.cons_ne_nil _ _)]
      dsimp only [List.tail]
      rw [iN_sub (by omega) (by omega), Nat.add_sub_cancel]
