noncomputable def b2 (b : Bool) : Int32 := if b = true then 1 else 0
noncomputable def SRd (t a k : Nat) : Prop := SMc t a k ∨ S96 a k
/-- what the reference's reading of an expression leaves -/
noncomputable def RPost (B : Nat → Int32) (n t : Nat) (res : Option (List Int32) × Nat) (h h' : Hp) : Prop := RAt B n res.2 h' ∧ res.2 ≤ n ∧ (∀ o', res.1 = some o' → RCd t o' h' ∧ o'.length ≤ res.2) ∧ Fr (SRd t) h h'
theorem r_mach {B : Nat → Int32} {n t : Nat} (O : okB2 B n) (ht : t < 6) (m : Nat) : ∀ (f g : Bool) (s o : List Int32) (c : Int32) (p : Nat) (h : Hp) (res : Option (List Int32) × Nat), MS t s o c h → TPr B n h → gI h 96 26 = iN p → p ≤ n → s.length + o.length ≤ p → mrun B n m f g s o c p = some res → ∃ h', g_X8_eRead_14 4000 m (b2 f) (b2 g) h = some (if res.1.isSome = true then 1 else 0, h') ∧ RPost B n t res h h' := by
  have h160 := O.1
  induction m with
  | zero => intro f g s o c p h res M H q hp hl e; rw [mrun] at e; cases e
  | succ m ih =>
    intro f g s o c p h res M H q hp hl e
    obtain ⟨h1, a1, A1, f1⟩ := r_next O H hp q
    have M1 := MS_fr f1 M
    have H1 := TPr_fr f1 (fun a k => by omega) H
    have hk := kd_KL B n p
    have eb := en_b O hp
    obtain ⟨q26, q27, q28, q29, q29'⟩ := id A1
    have F1 : Fr (SRd t) h h1 := f1.mono (fun a k z => Or.inr z)
    have mono : ∀ {x y : Hp}, Fr (SMc t) x y → Fr (SRd t) x y := fun f => f.mono (fun a k z => Or.inl z)
    have AtFr : ∀ {y : Hp}, Fr (SMc t) h1 y → RAt B n p y := by
      intro y f
      refine ⟨?_, ?_, ?_, fun z => ?_, fun z => ?_⟩
      · rw [f.i (by unfold SMc; omega)]; exact q26
      · rw [f.i (by unfold SMc; omega)]; exact q27
      · rw [f.i (by unfold SMc; omega)]; exact q28
      · rw [f.i (by unfold SMc; omega)]; exact q29 z
      · rw [f.i (by unfold SMc; omega)]; exact q29' z
    have TpFr : ∀ {y : Hp}, Fr (SMc t) h1 y → TPr B n y := fun f => TPr_fr f (fun a k => by unfold SMc; omega) H1
    -- to fail here
    have failR : ∀ {y : Hp}, Fr (SMc t) h1 y → res = (none, p) → ∃ h', (some ((0 : Int32), y) : Option (Int32 × Hp)) = some (if res.1.isSome = true then 1 else 0, h') ∧ RPost B n t res h h' := by
      intro y f er
      subst er
      exact ⟨y, rfl, AtFr f, hp, (fun o' z => by cases z), F1.tr (mono f)⟩
    -- to go on
    have goR : ∀ {y : Hp} (f' g' : Bool) (s' o' : List Int32) (c' : Int32), Fr (SMc t) h1 y → MS t s' o' c' y → kd B n p ≠ 0 → s'.length + o'.length ≤ p + 1 → mrun B n m f' g' s' o' c' (en B n p) = some res → ∃ h', g_X8_eRead_14 4000 m (b2 f') (b2 g') y = some (if res.1.isSome = true then 1 else 0, h') ∧ RPost B n t res h h' := by
      intro y f' g' s' o' c' f M' k0 l' e'
      have es := en_s O hp k0
      obtain ⟨h2, a2, P1, P2, P3, P4⟩ := ih f' g' s' o' c' (en B n p) y res M' (TpFr f) (by rw [f.i (by unfold SMc; omega)]; exact q26) eb.2.2 (by omega) e'
      exact ⟨h2, a2, P1, P2, P3, (F1.tr (mono f)).tr P4⟩
    rw [g_X8_eRead_14, a1, Option.bind_some]
    rw [mrun] at e
    cases f with
    | false =>
      rw [if_pos rfl] at e
      have bf : b2 false = 0 := rfl
      rw [bf, if_pos rfl, q28]
      obtain ⟨h2, a2, M2, f2⟩ := r_unw (r := 1) ht (by omega) (by omega) M1
      have a2' : g_X8_unwinds 4000 1 h1 = some h2 := a2
      have l2 := uw_len 1 s o c
      by_cases k59 : kd B n p = 59
      · rw [if_pos k59] at e
        rw [if_neg (fun z => z ((kf1 _ hk).mpr k59)), a2', Option.bind_some]
        cases hs : (uw 1 s o c).1 with
        | nil =>
          rw [if_pos hs] at e
          rw [hs] at M2 l2
          rw [show gI h2 96 32 = 0 from M2.1, if_neg (fun z => z rfl)]
          have er := (Option.some.inj e).symm
          subst er
          refine ⟨h2, rfl, AtFr f2, hp, fun o' z => ?_, F1.tr (mono f2)⟩
          cases z
          refine ⟨M2.2.2.2, ?_⟩
          have : 0 + (uw 1 s o c).2.1.length = s.length + o.length := l2
          show (uw 1 s o c).2.1.length ≤ p
          omega
        | cons x s' =>
          rw [if_neg (by rw [hs]; exact List.cons_ne_nil _ _)] at e
          rw [hs] at M2 l2
          have l2' : s'.length + 1 + (uw 1 s o c).2.1.length = s.length + o.length := l2
          have m1' : gI h2 96 32 = iN (s'.length + 1) := M2.1
          rw [m1', if_pos (by intro z; rw [show (0 : Int32) = iN 0 from rfl, iN_eq (by omega) (by omega)] at z; omega)]
          exact failR f2 (Option.some.inj e).symm
      rw [if_neg k59] at e
      rw [if_pos (fun z => k59 ((kf1 _ hk).mp z))]
      by_cases k41 : kd B n p = 41
      · rw [if_pos k41] at e
        rw [if_neg (fun z => z ((kf2 _ hk).mpr k41)), a2', Option.bind_some]
        cases hs : (uw 1 s o c).1 with
        | nil =>
          rw [if_pos hs] at e
          rw [hs] at M2
          rw [show gI h2 96 32 = 0 from M2.1, if_neg (fun z => z rfl)]
          exact failR f2 (Option.some.inj e).symm
        | cons x s' =>
          rw [if_neg (by rw [hs]; exact List.cons_ne_nil _ _), hs] at e
          rw [hs] at M2 l2
          have l2' : s'.length + 1 + (uw 1 s o c).2.1.length = s.length + o.length := l2
          have m1' : gI h2 96 32 = iN (s'.length + 1) := M2.1
          rw [m1', if_pos (by intro z; rw [show (0 : Int32) = iN 0 from rfl, iN_eq (by omega) (by omega)] at z; omega), iN_sub (by omega) (by omega), Nat.add_sub_cancel]
          obtain ⟨x1, x2, x3, x4, x5, x6⟩ := M2
          unfold g_X8_eRead_210 g_X8_eRead_220
          rw [show gI (hsi h2 96 32 (iN s'.length)) 96 33 = (uw 1 s o c).2.2 by rw [gI_hsi, if_neg (by omega)]; exact x3]
          have f3 : Fr (SMc t) h2 (hsi (hsi h2 96 32 (iN s'.length)) 96 33 ((uw 1 s o c).2.2 - 1)) := ((Fr.rfl' _ _).si _ (by unfold SMc; omega)).si _ (by unfold SMc; omega)
          have M3 : MS t s' (uw 1 s o c).2.1 ((uw 1 s o c).2.2 - 1) (hsi (hsi h2 96 32 (iN s'.length)) 96 33 ((uw 1 s o c).2.2 - 1)) := by
            refine ⟨?_, stk_c (fun k hk => by rw [gI_hsi, if_neg (by omega), gI_hsi, if_neg (by omega)]) x2.2, ?_, ?_, fun i hi => ?_, ?_⟩
            · rw [gI_hsi, if_neg (by omega), gI_hsi, if_pos ⟨rfl, rfl⟩]
            · rw [gI_hsi, if_pos ⟨rfl, rfl⟩]
            · rw [gI_hsi, if_neg (by omega), gI_hsi, if_neg (by omega)]; exact x4
            · rw [gI_hsi, if_neg (by omega), gI_hsi, if_neg (by omega)]; exact x5 i hi
            · rw [gI_hsi, if_neg (by omega), gI_hsi, if_neg (by omega)]; exact x6
          obtain ⟨h4, a4, M4, f4⟩ := r_unw (r := 7) ht (by omega) (by omega) M3
          have a4' : g_X8_unwinds 4000 7 (hsi (hsi h2 96 32 (iN s'.length)) 96 33 ((uw 1 s o c).2.2 - 1)) = some h4 := a4
          rw [a4', Option.bind_some]
          have l4 := uw_len 7 s' (uw 1 s o c).2.1 ((uw 1 s o c).2.2 - 1)
          exact goR false g _ _ _ ((f2.tr f3).tr f4) M4 (by rw [k41]; decide) (by omega) e
      rw [if_neg k41] at e
      rw [if_pos (fun z => k41 ((kf2 _ hk).mp z)), r_sign hk q28, Option.bind_some]
      by_cases ks : sgn (kd B n p) = -1
      · rw [if_pos ks] at e
        rw [if_pos ks]
        exact failR (Fr.rfl' _ _) (Option.some.inj e).symm
      rw [if_neg ks] at e
      rw [if_neg ks]
      obtain ⟨h3, a3, M3, f3⟩ := r_btw (sg := sgn (kd B n p)) ht (by omega) M1
      dsimp only
      rw [a3, Option.bind_some]
      by_cases kb : rnk (sgn (kd B n p)) = 4 ∧ top4 (uw (bw (sgn (kd B n p))) s o c).1 = true
      · rw [if_pos kb] at e
        rw [if_pos kb, if_neg (fun z => z rfl)]
        exact failR f3 (Option.some.inj e).symm
      · rw [if_neg kb] at e
        rw [if_neg kb, if_pos (show (1 : Int32) ≠ 0 by decide)]
        have l3 := uw_len (bw (sgn (kd B n p))) s o c
        have k0 : kd B n p ≠ 0 := fun z => ks (by rw [z]; decide)
        have fin := goR true (decide (¬ 12 < sgn (kd B n p))) _ _ _ f3 (M3 kb) k0 (by simp; omega) e
        unfold g_X8_eRead_262
        by_cases k12 : 12 < sgn (kd B n p)
        · rw [if_pos k12]
          rw [show decide (¬ 12 < sgn (kd B n p)) = false from decide_eq_false (fun z => z k12)] at fin
          exact fin
        · rw [if_neg k12]
          rw [show decide (¬ 12 < sgn (kd B n p)) = true from decide_eq_true k12] at fin
          exact fin
    | true =>
      rw [if_neg (by decide)] at e
      have bt : b2 true = 1 := rfl
      rw [bt, if_neg (by decide), q28]
      have operand : ∀ x, kd B n p ≠ 0 → mrun B n m false g (uw 7 s (o ++ [x]) c).1 (uw 7 s (o ++ [x]) c).2.1 (uw 7 s (o ++ [x]) c).2.2 (en B n p) = some res → ∃ h', g_X8_eRead_61 4000 (g_X8_eRead_14 4000 m) (b2 g) x h1 = some (if res.1.isSome = true then 1 else 0, h') ∧ RPost B n t res h h' := by
        intro x k0 e'
        have es := en_s O hp k0
        obtain ⟨h2, a2, M2, f2⟩ := r_puts ht (by omega) x M1
        obtain ⟨h3, a3, M3, f3⟩ := r_unw (r := 7) ht (by omega) (by simp; omega) M2
        have a3' : g_X8_unwinds 4000 7 h2 = some h3 := a3
        unfold g_X8_eRead_61
        rw [a2, Option.bind_some, a3', Option.bind_some]
        have l3 := uw_len 7 s (o ++ [x]) c
        exact goR false g _ _ _ (f2.tr f3) M3 k0 (by rw [List.length_append] at l3; simp at l3; omega) e'
      by_cases k2 : kd B n p = 2
      · rw [if_pos k2] at e
        rw [if_pos ((kf3 _ hk).mpr k2)]
        unfold g_X8_eRead_38
        rw [q28, if_neg (fun z => z ((kf3 _ hk).mpr k2)), q29 (Or.inl k2)]
        exact operand _ (by rw [k2]; decide) e
      rw [if_neg k2] at e
      rw [if_neg (fun z => k2 ((kf3 _ hk).mp z))]
      by_cases k3 : kd B n p = 3
      · rw [if_pos k3] at e
        rw [if_neg (fun z => z ((kf4 _ hk).mpr k3))]
        unfold g_X8_eRead_38
        rw [q28, if_pos (fun z => k2 ((kf3 _ hk).mp z)), q29 (Or.inr k3)]
        exact operand _ (by rw [k3]; decide) e
      rw [if_neg k3] at e
      rw [if_pos (fun z => k3 ((kf4 _ hk).mp z))]
      have opens : ∀ (x : Int32) (f' g' : Bool), kd B n p ≠ 0 → (if c = 5 then some (none, p) else mrun B n m f' g' (x :: s) o (c + 1) (en B n p)) = some res → ∃ h2, g_X8_opensOne x h1 = some (if c = 5 then 0 else 1, h2) ∧ (c = 5 → ∃ h', (some ((0 : Int32), h2) : Option (Int32 × Hp)) = some (if res.1.isSome = true then 1 else 0, h') ∧ RPost B n t res h h') ∧ (c ≠ 5 → ∃ h', g_X8_eRead_14 4000 m (b2 f') (b2 g') h2 = some (if res.1.isSome = true then 1 else 0, h') ∧ RPost B n t res h h') := by
        intro x f' g' k0 e'
        have es := en_s O hp k0
        obtain ⟨h2, a2, M2, f2⟩ := r_opens (by omega) x M1
        refine ⟨h2, a2, fun c5 => ?_, fun c5 => ?_⟩
        · rw [if_pos c5] at e'
          exact failR f2 (Option.some.inj e').symm
        · rw [if_neg c5] at e'
          exact goR f' g' _ _ _ f2 (M2 c5) k0 (by simp; omega) e'
      have r99 : ¬ (kd B n p = 15 ∧ g = true) → (if kd B n p = 45 then (if c = 5 then some (none, p) else mrun B n m true false (19 :: s) o (c + 1) (en B n p)) else if kd B n p = 40 then (if c = 5 then some (none, p) else mrun B n m true true (0 :: s) o (c + 1) (en B n p)) else some (none, p)) = some res → ∃ h', g_X8_eRead_99 4000 (g_X8_eRead_14 4000 m) 1 h1 = some (if res.1.isSome = true then 1 else 0, h') ∧ RPost B n t res h h' := by
        intro _ e'
        unfold g_X8_eRead_99
        rw [q28]
        by_cases k45 : kd B n p = 45
        · rw [if_pos k45] at e'
          rw [if_neg (fun z => z ((kf6 _ hk).mpr k45))]
          obtain ⟨h2, a2, y1, y2⟩ := opens 19 true false (by rw [k45]; decide) e'
          rw [a2, Option.bind_some]
          by_cases c5 : c = 5
          · rw [if_pos c5, if_neg (fun z => z rfl)]; exact y1 c5
          · rw [if_neg c5, if_pos (show (1 : Int32) ≠ 0 by decide)]; exact y2 c5
        rw [if_neg k45] at e'
        rw [if_pos (fun z => k45 ((kf6 _ hk).mp z))]
        by_cases k40 : kd B n p = 40
        · rw [if_pos k40] at e'
          rw [if_neg (fun z => z ((kf7 _ hk).mpr k40))]
          obtain ⟨h2, a2, y1, y2⟩ := opens 0 true true (by rw [k40]; decide) e'
          rw [a2, Option.bind_some]
          by_cases c5 : c = 5
          · rw [if_pos c5, if_neg (fun z => z rfl)]; exact y1 c5
          · rw [if_neg c5, if_pos (show (1 : Int32) ≠ 0 by decide)]; exact y2 c5
        rw [if_neg k40] at e'
        rw [if_pos (fun z => k40 ((kf7 _ hk).mp z))]
        exact failR (Fr.rfl' _ _) (Option.some.inj e').symm
      by_cases k15 : kd B n p = 15
      · rw [if_neg (fun z => z ((kf5 _ hk).mpr k15))]
        cases g with
        | true =>
          rw [if_pos ⟨k15, rfl⟩] at e
          have b1 : b2 true = 1 := rfl
          rw [b1, if_neg (by decide)]
          obtain ⟨h2, a2, y1, y2⟩ := opens 13 true true (by rw [k15]; decide) e
          rw [a2, Option.bind_some]
          by_cases c5 : c = 5
          · rw [if_pos c5, if_neg (fun z => z rfl)]; exact y1 c5
          · rw [if_neg c5, if_pos (show (1 : Int32) ≠ 0 by decide)]; exact y2 c5
        | false =>
          rw [if_neg (fun z => absurd z.2 (by decide))] at e
          have b1 : b2 false = 0 := rfl
          rw [b1, if_pos rfl]
          exact r99 (fun z => absurd z.2 (by decide)) e
      · rw [if_neg (fun z => k15 z.1)] at e
        rw [if_pos (fun z => k15 ((kf5 _ hk).mp z))]
        exact r99 (fun z => k15 z.1) e
