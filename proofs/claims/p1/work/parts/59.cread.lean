/-! THE CLASS's reader follows the machine -/
noncomputable def hP (cs : List Int32) (b : Nat) : Prop := ∀ (rest : List Int32) (k e : Nat), k + b ≤ 31 → hgt rest (k + 1) e → hgt (cs ++ rest) k e
theorem hP_one {x : Int32} {b : Nat} (h1 : okCode x) (h2 : isOp x = true) (hb : 1 ≤ b) : hP [x] b := by
  intro rest k e hk hr
  show hgt (x :: rest) k e
  unfold hgt
  rw [if_pos h2]
  exact ⟨h1, by omega, hr⟩
theorem hP_bin {c1 c2 : List Int32} {x : Int32} {b b2 : Nat} (h1 : hP c1 b) (h2 : hP c2 b2) (hb : b2 + 1 ≤ b) (hx : okCode x) (ho : ¬ isOp x = true) (hn : ¬ (x = 13 ∨ x = 19)) : hP (c1 ++ c2 ++ [x]) b := by
  intro rest k e hk hr
  rw [List.append_assoc, List.append_assoc]
  refine h1 _ k e hk (h2 _ (k + 1) e (by omega) ?_)
  show hgt (x :: rest) (k + 1 + 1) e
  unfold hgt
  rw [if_neg ho, if_neg hn]
  exact ⟨hx, by omega, hr⟩
theorem hP_un {c1 : List Int32} {x : Int32} {b : Nat} (h1 : hP c1 b) (hx : okCode x) (ho : ¬ isOp x = true) (hn : x = 13 ∨ x = 19) : hP (c1 ++ [x]) b := by
  intro rest k e hk hr
  rw [List.append_assoc]
  refine h1 _ k e hk ?_
  show hgt (x :: rest) (k + 1) e
  unfold hgt
  rw [if_neg ho, if_pos hn]
  exact ⟨hx, by omega, hr⟩
theorem hP_mono {c : List Int32} {b b' : Nat} (h : hP c b) (hb : b ≤ b') : hP c b' := fun rest k e hk hr => h rest k e (by omega) hr
noncomputable def BND (tg d : Nat) : Nat := 5 * (5 - d) + 1 + (if 16 ≤ tg then 19 - tg else 18 - tg)
noncomputable def prr (tg : Nat) : Nat := if tg = 15 then 4 else tg - 12
noncomputable def Pr (B : Nat → Int32) (n tg : Nat) (g : Bool) (s : List Int32) (p : Nat) : Prop := (tg < 19 → topr (prr tg) s) ∧ (16 ≤ tg → g = false ∨ kd B n p ≠ 15) ∧ (tg ≤ 15 → g = true)
noncomputable def Fl (B : Nat → Int32) (n tg d p : Nat) (o : List Int32) (p' : Nat) : Prop := ∀ g s, Pr B n tg g s p → ∃ k, k + p ≤ p' ∧ ∀ m, mrun B n (m + k + 1) true g s o (iN d) p = some (none, p')
noncomputable def Ok (B : Nat → Int32) (n tg d p : Nat) (o : List Int32) (p' r : Nat) (cs : List Int32) : Prop := cs.length + p ≤ p' ∧ hP cs (BND tg d) ∧ ∀ g s, Pr B n tg g s p → ∃ (k : Nat) (g1 : Bool) (s1 o1 : List Int32) (c1 : Int32), k + p ≤ p' ∧ (∀ m, mrun B n (m + k) true g s o (iN d) p = mrun B n m false g1 s1 o1 c1 p') ∧ uw (tg - 12) s1 o1 c1 = uw (tg - 12) s (o ++ cs) (iN d) ∧ NoOp B n r p' s1 o1 c1
noncomputable def Out (B : Nat → Int32) (n t tg d p : Nat) (o : List Int32) (h : Hp) (res : Option (Int32 × Hp)) : Prop := ∃ (b : Bool) (h' : Hp) (p' : Nat), res = some (b2 b, h') ∧ Fr (SCd t) h h' ∧ CAt B n p' h' ∧ p ≤ p' ∧ p' ≤ n ∧ (b = false → Fl B n tg d p o p') ∧ (b = true → ∃ cs, CC t (o ++ cs) h' ∧ Ok B n tg d p o p' (tg - 12) cs)
theorem Out_fr {B : Nat → Int32} {n t tg d p : Nat} {o : List Int32} {h h1 : Hp} {res : Option (Int32 × Hp)} (f : Fr (SCd t) h h1) (O : Out B n t tg d p o h1 res) : Out B n t tg d p o h res := by
  obtain ⟨b, h', p', a1, a2, a3⟩ := O
  exact ⟨b, h', p', a1, f.tr a2, a3⟩
noncomputable def CL (B : Nat → Int32) (n t L : Nat) (S : Hp → Option (Int32 × Hp)) (tg d : Nat) : Prop := ∀ (h : Hp) (p : Nat) (o : List Int32), TPc B n L h → CAt B n p h → CC t o h → p ≤ n → o.length ≤ p → Out B n t tg d p o h (S h)
theorem TPc_s {B : Nat → Int32} {n L t : Nat} {h h1 : Hp} (f : Fr (SCd t) h h1) (H : TPc B n L h) : TPc B n L h1 := TPc_fr f (fun a k => by unfold SCd; omega) H
theorem kd_n {B : Nat → Int32} {n p : Nat} (hp : n ≤ p) : kd B n p = 0 := by
  have : st B n p = p := rnx_stop (fun z => by omega) _
  unfold kd kd0
  rw [this, if_neg (by omega)]
theorem Pr_up {B : Nat → Int32} {n tg p : Nat} {g : Bool} {s : List Int32} (h15 : tg ≠ 15) (h19 : tg < 19) (P : Pr B n tg g s p) : Pr B n (tg + 1) g s p :=
  ⟨fun h => topr_mono (by unfold prr; rw [if_neg h15]; split <;> omega) (P.1 h19), fun h => P.2.1 (by omega), fun h => P.2.2 (by omega)⟩
theorem sgn_ok : ∀ k ∈ KL, sgn k ≠ -1 → okCode (sgn k) ∧ ¬ isOp (sgn k) = true ∧ ¬ (sgn k = 13 ∨ sgn k = 19) ∧ cmap (sgn k) = -(sgn k) := by
  have h : ∀ k ∈ KL, sgn k ≠ -1 → ((11 ≤ sgn k ∧ sgn k ≤ 19) ∧ ¬ isOp (sgn k) = true ∧ ¬ (sgn k = 13 ∨ sgn k = 19) ∧ cmap (sgn k) = -(sgn k)) := by decide +kernel
  intro k hk hs
  obtain ⟨a, b⟩ := h k hk hs
  exact ⟨Or.inr (Or.inr a), b⟩
theorem l_loop {B : Nat → Int32} {n t L : Nat} (O : okB2 B n) {tg d : Nat} (htg : tg = 13 ∨ tg = 14 ∨ tg = 17 ∨ tg = 18) {S' : Hp → Option (Int32 × Hp)} (hS : CL B n t L S' (tg + 1) d) (opk : Int32 → Bool)
    (hop1 : ∀ k ∈ KL, opk k = true → sgn k ≠ -1 ∧ rnk (sgn k) = tg - 12) (hop2 : ∀ k ∈ KL, opk k = false → sgn k ≠ -1 → rnk (sgn k) ≠ tg - 12)
    (hg : ∀ k ∈ KL, opk k = true → (16 ≤ tg + 1 → 12 < sgn k) ∧ (tg + 1 ≤ 15 → ¬ 12 < sgn k))
    (Lp : Nat → Int32 → Hp → Option (Int32 × Hp))
    (hL : ∀ m v h, Lp (m + 1) v h = if 160 ≤ v then some (1, h) else if opk (gI h 31 3) = true then (g_X2_advance 4000 h).bind fun o3 => (S' o3).bind fun o4 => if o4.1 ≠ 0 then (g_X6_add (48 + 4 * t) (-(sgn (gI h 31 3))) o4.2).bind fun o6 => Lp m (v + 1) o6 else some (0, o4.2) else some (1, h))
    (p : Nat) (o : List Int32) (hop : o.length ≤ p) (j : Nat) : ∀ (p1 v m : Nat) (h : Hp) (cs : List Int32), n - p1 ≤ j → j < m → v ≤ p1 → TPc B n L h → CAt B n p1 h → CC t (o ++ cs) h → p ≤ p1 → p1 ≤ n → Ok B n tg d p o p1 (tg - 12 + 1) cs → Out B n t tg d p o h (Lp m (iN v) h) := by
  have h160 := O.1
  induction j with
  | zero =>
    intro p1 v m h cs hj hm hv H A C hp hp1 K
    obtain ⟨m, rfl⟩ : ∃ z, m = z + 1 := ⟨m - 1, by omega⟩
    have k0 := kd_n (B := B) (n := n) (p := p1) (by omega)
    have of : opk (kd B n p1) = false := by
      rw [k0]
      cases e : opk 0 with
      | false => rfl
      | true => exact absurd (by decide) (hop1 0 (by decide) e).1
    have fin : Out B n t tg d p o h (some (1, h)) := by
      refine ⟨true, h, p1, rfl, Fr.rfl' _ _, A, hp, hp1, (fun z => absurd z (by decide)), fun _ => ⟨cs, C, K.1, K.2.1, fun g s P => ?_⟩⟩
      obtain ⟨k, g1, s1, o1, c1, a1, a2, a3, a4⟩ := K.2.2 g s P
      exact ⟨k, g1, s1, o1, c1, a1, a2, a3, fun z1 z2 => a4 z1 (by have := hop2 _ (kd_KL B n p1) of z1; omega)⟩
    rw [hL]
    by_cases c : 160 ≤ iN v
    · rw [if_pos c]; exact fin
    · rw [if_neg c, A.2.1, of, if_neg (by decide)]; exact fin
  | succ j ih =>
    intro p1 v m h cs hj hm hv H A C hp hp1 K
    obtain ⟨m, rfl⟩ : ∃ z, m = z + 1 := ⟨m - 1, by omega⟩
    have hk := kd_KL B n p1
    have fin : opk (kd B n p1) = false → Out B n t tg d p o h (some (1, h)) := by
      intro of
      refine ⟨true, h, p1, rfl, Fr.rfl' _ _, A, hp, hp1, (fun z => absurd z (by decide)), fun _ => ⟨cs, C, K.1, K.2.1, fun g s P => ?_⟩⟩
      obtain ⟨k, g1, s1, o1, c1, a1, a2, a3, a4⟩ := K.2.2 g s P
      exact ⟨k, g1, s1, o1, c1, a1, a2, a3, fun z1 z2 => a4 z1 (by have := hop2 _ hk of z1; omega)⟩
    rw [hL]
    by_cases c : 160 ≤ iN v
    · rw [if_pos c]
      rw [show (160 : Int32) = iN 160 from rfl, iN_le (by omega) (by omega)] at c
      refine fin ?_
      rw [kd_n (by omega)]
      cases e : opk 0 with
      | false => rfl
      | true => exact absurd (by decide) (hop1 0 (by decide) e).1
    rw [if_neg c, A.2.1]
    by_cases op : opk (kd B n p1) = true
    case neg => rw [if_neg op]; exact fin (Bool.eq_false_iff.mpr op)
    rw [if_pos op]
    obtain ⟨x1, x2⟩ := hop1 _ hk op
    obtain ⟨g1', g2'⟩ := hg _ hk op
    obtain ⟨y1, y2, y3, y4⟩ := sgn_ok _ hk x1
    have k0 := (sgn_ne x1).2.2
    have es := en_s O hp1 k0
    have eb := en_b O hp1
    obtain ⟨h2, a2, A2, f2⟩ := c_adv O H eb.2.2 A.1
    have f2' : Fr (SCd t) h h2 := f2.mono (fun a k z => Or.inl z)
    have C2 := CC_fr f2 C
    rw [a2, Option.bind_some]
    have hlen : (o ++ cs).length ≤ p1 := by rw [List.length_append]; have := K.1; omega
    obtain ⟨b, h3, p3, r1, f3, A3, l1, l2, bF, bT⟩ := hS h2 (en B n p1) (o ++ cs) (TPc_s f2' H) A2 C2 eb.2.2 (by omega)
    -- the machine takes the operator
    have step : ∀ g s, Pr B n tg g s p → ∃ (k : Nat), k + p ≤ p1 ∧ Pr B n (tg + 1) (decide (¬ 12 < sgn (kd B n p1))) (sgn (kd B n p1) :: s) (en B n p1) ∧ ∀ m, mrun B n (m + (k + 1)) true g s o (iN d) p = mrun B n m true (decide (¬ 12 < sgn (kd B n p1))) (sgn (kd B n p1) :: s) (o ++ cs) (iN d) (en B n p1) := by
      intro g s P
      obtain ⟨k, g1, s1, o1, c1, q1, q2, q3, q4⟩ := K.2.2 g s P
      have ht : topr (tg - 12) s := by
        have := P.1 (by omega)
        unfold prr at this
        rw [if_neg (by omega)] at this
        exact this
      have ne4 : rnk (sgn (kd B n p1)) ≠ 4 := by omega
      have hb : bw (sgn (kd B n p1)) = tg - 12 := by unfold bw; rw [if_neg ne4]; exact x2
      refine ⟨k, q1, ⟨fun _ => topr_cons (by unfold prr; split <;> omega), fun z => Or.inl (decide_eq_false (fun w => w (g1' z))), fun z => decide_eq_true (g2' z)⟩, fun m => ?_⟩
      rw [show m + (k + 1) = (m + 1) + k by omega, q2]
      exact m_op x1 (by rw [hb, q3, uw_top ht]) (fun z => ne4 z.1) m
    rw [r1, Option.bind_some]
    cases b with
    | false =>
      rw [if_neg (fun z => z rfl)]
      refine ⟨false, h3, p3, rfl, f2'.tr f3, A3, by omega, l2, fun _ => fun g s P => ?_, fun z => absurd z (by decide)⟩
      obtain ⟨k, q1, q2, q3⟩ := step g s P
      obtain ⟨k2, w1, w2⟩ := bF rfl _ _ q2
      refine ⟨k + 1 + k2, by omega, fun m => ?_⟩
      rw [show m + (k + 1 + k2) + 1 = (m + k2 + 1) + (k + 1) by omega, q3]
      exact w2 m
    | true =>
      rw [if_pos (show b2 true ≠ 0 by decide)]
      obtain ⟨cs2, C3, K3⟩ := bT rfl
      have len3 : ((o ++ cs) ++ cs2).length < 160 := by
        rw [List.length_append]; have := K3.1; omega
      obtain ⟨h4, a4, C4, A4, f4⟩ := c_add len3 C3 A3 (sgn (kd B n p1)) y4
      dsimp only
      rw [a4, Option.bind_some, iN_add (by omega)]
      have f4' : Fr (SCd t) h h4 := (f2'.tr f3).tr f4
      refine Out_fr f4' (ih p3 (v + 1) m h4 (cs ++ cs2 ++ [sgn (kd B n p1)]) (by omega) (by omega) (by omega) (TPc_s f4' H) A4 (by rw [← List.append_assoc, ← List.append_assoc]; exact C4) (by omega) l2 ⟨?_, ?_, fun g s P => ?_⟩)
      · rw [List.length_append, List.length_append]
        have := K.1; have := K3.1
        show cs.length + cs2.length + 1 + p ≤ p3
        omega
      · refine hP_bin K.2.1 K3.2.1 ?_ y1 y2 y3
        unfold BND
        rcases htg with rfl | rfl | rfl | rfl <;> simp <;> omega
      · obtain ⟨k, q1, q2, q3⟩ := step g s P
        obtain ⟨k2, g2, s2, o2, c2, w1, w2, w3, w4⟩ := K3.2.2 _ _ q2
        refine ⟨k + 1 + k2, g2, s2, o2, c2, by omega, fun m => ?_, ?_, ?_⟩
        · rw [show m + (k + 1 + k2) = (m + k2) + (k + 1) by omega, q3]
          exact w2 m
        · rw [uw_low (by omega) w3, uw, if_neg (by omega), if_neg y3, ← List.append_assoc, ← List.append_assoc]
        · rw [show tg - 12 + 1 = tg + 1 - 12 by omega]; exact w4
/-- a level that loops -/
theorem l_level {B : Nat → Int32} {n t L : Nat} (O : okB2 B n) {tg d : Nat} (htg : tg = 13 ∨ tg = 14 ∨ tg = 17 ∨ tg = 18) {S' : Hp → Option (Int32 × Hp)} (hS : CL B n t L S' (tg + 1) d) (opk : Int32 → Bool)
    (hop1 : ∀ k ∈ KL, opk k = true → sgn k ≠ -1 ∧ rnk (sgn k) = tg - 12) (hop2 : ∀ k ∈ KL, opk k = false → sgn k ≠ -1 → rnk (sgn k) ≠ tg - 12)
    (hg : ∀ k ∈ KL, opk k = true → (16 ≤ tg + 1 → 12 < sgn k) ∧ (tg + 1 ≤ 15 → ¬ 12 < sgn k))
    (Lp : Nat → Int32 → Hp → Option (Int32 × Hp))
    (hL : ∀ m v h, Lp (m + 1) v h = if 160 ≤ v then some (1, h) else if opk (gI h 31 3) = true then (g_X2_advance 4000 h).bind fun o3 => (S' o3).bind fun o4 => if o4.1 ≠ 0 then (g_X6_add (48 + 4 * t) (-(sgn (gI h 31 3))) o4.2).bind fun o6 => Lp m (v + 1) o6 else some (0, o4.2) else some (1, h))
    (F : Hp → Option (Int32 × Hp)) (hF : ∀ h, F h = (S' h).bind fun o1 => if o1.1 ≠ 0 then Lp 4000 0 o1.2 else some (0, o1.2)) : CL B n t L F tg d := by
  intro h p o H A C hp hl
  have h160 := O.1
  obtain ⟨b, h1, p1, r1, f1, A1, l1, l2, bF, bT⟩ := hS h p o H A C hp hl
  rw [hF, r1, Option.bind_some]
  cases b with
  | false =>
    rw [if_neg (fun z => z rfl)]
    exact ⟨false, h1, p1, rfl, f1, A1, l1, l2, fun _ g s P => bF rfl g s (Pr_up (by omega) (by omega) P), fun z => absurd z (by decide)⟩
  | true =>
    rw [if_pos (show b2 true ≠ 0 by decide)]
    obtain ⟨cs, C1, K1⟩ := bT rfl
    refine Out_fr f1 (l_loop O htg hS opk hop1 hop2 hg Lp hL p o hl (n - p1) p1 0 4000 h1 cs (Nat.le_refl _) (by omega) (by omega) (TPc_s f1 H) A1 C1 l1 l2 ⟨K1.1, hP_mono K1.2.1 ?_, fun g s P => ?_⟩)
    · unfold BND
      rcases htg with rfl | rfl | rfl | rfl <;> simp
    · obtain ⟨k, g1, s1, o1, c1, a1, a2, a3, a4⟩ := K1.2.2 g s (Pr_up (by omega) (by omega) P)
      exact ⟨k, g1, s1, o1, c1, a1, a2, uw_low (by omega) a3, by rw [show tg - 12 + 1 = tg + 1 - 12 by omega]; exact a4⟩
