theorem toff_s (T : Nat → List Int32) (p : Nat) : toff T (p + 1) = toff T p + (T p).length := by
  rw [← cat_len, ← cat_len, cat, List.length_append]
theorem toff_m (T : Nat → List Int32) (p q : Nat) (h : p ≤ q) : toff T p ≤ toff T q := by
  induction q with
  | zero => rw [show p = 0 by omega]; exact Nat.le_refl _
  | succ q ih =>
    by_cases c : p = q + 1
    · rw [c]; exact Nat.le_refl _
    · rw [toff_s]; have := ih (by omega); omega
theorem cat_get (T : Nat → List Int32) (p k : Nat) (hk : k < (T p).length) (q : Nat) : p < q → toff T p + k < (cat T q).length ∧ (cat T q).getD (toff T p + k) 0 = (T p).getD k 0 := by
  intro h
  have l1 : toff T p + k < toff T q := by
    have := toff_m T (p + 1) q h
    rw [toff_s] at this
    omega
  refine ⟨by rw [cat_len]; exact l1, ?_⟩
  induction q with
  | zero => omega
  | succ q ih =>
    rw [cat]
    by_cases c : p = q
    · subst c
      rw [List.getD_eq_getElem?_getD, List.getD_eq_getElem?_getD, List.getElem?_append_right (by rw [cat_len]; omega), cat_len, Nat.add_sub_cancel_left]
    · have l2 : toff T p + k < toff T q := by
        have := toff_m T (p + 1) q (by omega)
        rw [toff_s] at this
        omega
      rw [← ih (by omega) l2, List.getD_eq_getElem?_getD, List.getD_eq_getElem?_getD, List.getElem?_append_left (by rw [cat_len]; exact l2)]
theorem ends_sec {q t : Nat} (hq : q < 3) (h : Hp) : g_X6_endSection (48 + 4 * t) (iN q) h = some (hsi h (50 + 4 * t) q (gI h (48 + 4 * t) 3)) := by
  have c : 0 ≤ iN q ∧ iN q ≤ 2 := (show ∀ q, q < 3 → 0 ≤ iN q ∧ iN q ≤ 2 by decide) q hq
  unfold g_X6_endSection g_X6_endSection_0
  rw [wC, if_pos c, Option.bind_some, if_neg (show ¬ (1 : Int32) = 0 by decide), if_pos (iN_inb hq (by decide)), iN_ix (by omega), show 48 + 4 * t + 2 = 50 + 4 * t by omega]
theorem l_text {B : Nat → Int32} {n t L : Nat} (O : okB2 B n) (ht : t < 6) (j : Nat) : ∀ (q p : Nat) (T : Nat → List Int32) (m : Nat) (h : Hp), q + j = 3 → j < m → TPc B n L h → CAt B n p h → CC t (cat T q) h → p ≤ n → (cat T q).length ≤ p → (∀ i, i < q → hgt (T i) 0 1) → (∀ i, i < q → gI h (50 + 4 * t) i = iN (toff T (i + 1))) →
    (∃ pf h1, pf ≤ n ∧ g_X2_read_15 4000 m (48 + 4 * t) (iN q) h = some (iN (st B n pf), h1) ∧ Fr (SCt t) h h1 ∧ ∀ hr mr, j + 1 < mr → RTt B n t q p T hr → ∃ h2, g_X8_text_26 4000 mr 1 (iN q) hr = g_X8_text_122 4000 0 h2 ∧ gI h2 96 27 = iN (st B n pf) ∧ Fr (SRt t) hr h2) ∨
    (∃ T' h1, okT T' ∧ g_X2_read_15 4000 m (48 + 4 * t) (iN q) h = some (-1, h1) ∧ TxC t T' h1 ∧ Fr (SCt t) h h1 ∧ ∀ hr mr, j + 1 < mr → RTt B n t q p T hr → ∃ h2, g_X8_text_26 4000 mr 1 (iN q) hr = g_X8_text_122 4000 1 h2 ∧ gI h2 96 34 = iN (toff T' 3) ∧ (∀ i, i < 3 → gI h2 104 (4 * t + i) = iN (toff T' i)) ∧ (∀ p, p < 3 → ∀ k, k < (T' p).length → gI h2 103 (200 * t + (toff T' p + k)) = (T' p).getD k 0) ∧ Fr (SRt t) hr h2) := by
  have h160 := O.1
  induction j with
  | zero =>
    intro q p T m h hq hm H A C hp hl hh he
    obtain ⟨m, rfl⟩ : ∃ z, m = z + 1 := ⟨m - 1, by omega⟩
    obtain rfl : q = 3 := by omega
    have hk := kd_KL B n p
    rw [g_X2_read_15, if_pos (by decide), A.2.1, A.2.2.1]
    -- the reference's look at what follows
    have ref : ∀ hr mr, 0 + 1 < mr → RTt B n t 3 p T hr → ∃ h2, g_X8_text_26 4000 mr 1 (iN 3) hr = g_X8_text_122 4000 (if kd B n p = 0 then 1 else 0) h2 ∧ RAt B n p h2 ∧ Fr S96 hr h2 := by
      intro hr mr hmr W
      obtain ⟨mr, rfl⟩ : ∃ z, mr = z + 1 := ⟨mr - 1, by omega⟩
      obtain ⟨h2, a2, A2, f2⟩ := r_next O W.1 hp W.2.1
      refine ⟨h2, ?_, A2, f2⟩
      rw [g_X8_text_26, if_pos (by decide)]
      unfold g_X8_text_101 g_X8_text_121
      rw [if_neg (by decide), a2, Option.bind_some, A2.2.2.1]
      by_cases k : kd B n p = 0
      · rw [if_neg (fun z => z ((kf0 _ hk).mpr k)), if_pos k]
      · rw [if_pos (fun z => k ((kf0 _ hk).mp z)), if_neg k]
    by_cases k : kd B n p = 0
    · rw [if_neg (fun z => z k)]
      refine Or.inr ⟨T, h, ⟨hh, by rw [← cat_len]; omega⟩, rfl, ⟨he, fun p hp k hk => ?_⟩, Fr.rfl' _ _, fun hr mr hmr W => ?_⟩
      · have := cat_get T p k hk 3 hp
        rw [C.2 _ this.1, this.2]
      · obtain ⟨h2, a2, A2, f2⟩ := ref hr mr hmr W
        rw [if_pos k] at a2
        refine ⟨h2, a2, ?_, fun i hi => ?_, fun p hp k hk => ?_, f2.mono (fun a k z => Or.inl (Or.inr z))⟩
        · rw [f2.i (by omega), ← cat_len]; exact W.2.2.1.1
        · rw [f2.i (by omega)]; exact W.2.2.2 i hi
        · have := cat_get T p k hk 3 hp
          rw [f2.i (by omega), W.2.2.1.2.1 _ this.1, this.2]
    · rw [if_pos k]
      refine Or.inl ⟨p, h, hp, rfl, Fr.rfl' _ _, fun hr mr hmr W => ?_⟩
      obtain ⟨h2, a2, A2, f2⟩ := ref hr mr hmr W
      rw [if_neg k] at a2
      exact ⟨h2, a2, A2.2.1, f2.mono (fun a k z => Or.inl (Or.inr z))⟩
  | succ j ih =>
    intro q p T m h hq hm H A C hp hl hh he
    obtain ⟨m, rfl⟩ : ∃ z, m = z + 1 := ⟨m - 1, by omega⟩
    have hq3 : q < 3 := by omega
    have hk := kd_KL B n p
    have eb := en_b O hp
    have e10 : (10 : Int32) + iN q = iN (10 + q) := (show ∀ q, q < 3 → (10 : Int32) + iN q = iN (10 + q) by decide) q hq3
    rw [g_X2_read_15, if_neg (show ¬ (3 : Int32) ≤ iN q by rw [show (3 : Int32) = iN 3 from rfl, iN_le (by omega) (by omega)]; omega), A.2.1, e10]
    by_cases k : kd B n p = iN (10 + q)
    case neg =>
      rw [if_neg k, A.2.2.1]
      refine Or.inl ⟨p, h, hp, rfl, Fr.rfl' _ _, fun hr mr hmr W => ?_⟩
      obtain ⟨mr, rfl⟩ : ∃ z, mr = z + 1 := ⟨mr - 1, by omega⟩
      obtain ⟨h1, A1, F1, W1, -, a1⟩ := r_sec O ht hq3 hp W mr
      refine ⟨h1, ?_, A1.2.1, F1⟩
      rw [a1, if_neg k]
      unfold g_X8_text_78 g_X8_text_93 g_X8_text_94
      rw [if_pos rfl, iN_add (by omega)]
      exact r_giveup (by omega)
    rw [if_pos k]
    have k0 : kd B n p ≠ 0 := by rw [k]; exact (show ∀ q, q < 3 → iN (10 + q) ≠ 0 by decide) q hq3
    have es := en_s O hp k0
    obtain ⟨h2, a2, A2, f2⟩ := c_adv O H eb.2.2 A.1
    have f2' : Fr (SCd t) h h2 := f2.mono (fun a k z => Or.inl z)
    obtain ⟨b, h3, p3, q1, f3, A3, m1, m2, cF, cT⟩ := cl_scc (L := L) O 100 13 0 (by omega) (by omega) (by omega) (by omega) h2 (en B n p) (cat T q) (TPc_s f2' H) A2 (CC_fr f2 C) eb.2.2 (by omega)
    have pr : Pr B n 13 true [] (en B n p) := ⟨fun _ x s' e => (by cases e), fun z => absurd z (by decide), fun _ => rfl⟩
    have q1' : g_scc 4000 100 13 (48 + 4 * t) 0 h2 = some (b2 b, h3) := q1
    rw [a2, Option.bind_some, q1', Option.bind_some]
    -- what fails inside
    have failing : ∀ pf, pf ≤ n → (∃ k, k + en B n p ≤ pf ∧ ∀ m, mrun B n (m + k + 1) true true [] (cat T q) 0 (en B n p) = some (none, pf)) → ∀ hr mr, j + 1 + 1 < mr → RTt B n t q p T hr → ∃ h2, g_X8_text_26 4000 mr 1 (iN q) hr = g_X8_text_122 4000 0 h2 ∧ gI h2 96 27 = iN (st B n pf) ∧ Fr (SRt t) hr h2 := by
      intro pf hpf ⟨kk, w1, w2⟩ hr mr hmr W
      obtain ⟨mr, rfl⟩ : ∃ z, mr = z + 1 := ⟨mr - 1, by omega⟩
      obtain ⟨h1, A1, F1, W1, -, a1⟩ := r_sec O ht hq3 hp W mr
      have e := w2 (3999 - kk)
      rw [show 3999 - kk + kk + 1 = 4000 by omega] at e
      obtain ⟨h4, a4, A4, f4, -⟩ := r_expr O ht eb.2.2 (by omega) W1 e
      refine ⟨h4, ?_, A4.2.1, F1.tr (f4.mono (fun a k z => Or.inl z))⟩
      rw [a1, if_pos k]
      unfold g_X8_text_78 g_X8_text_93 g_X8_text_94
      have a4' : g_X8_eRead 4000 h1 = some (0, h4) := a4
      rw [if_neg (by decide), a4', Option.bind_some, if_pos rfl, iN_add (by omega)]
      exact r_giveup (by omega)
    cases b with
    | false =>
      rw [if_pos (show b2 false = 0 from rfl)]
      unfold g_X2_read_58
      refine Or.inl ⟨p3, h3, m2, ?_, (f2'.tr f3).mono (fun a k z => Or.inl z), failing p3 m2 (cF rfl true [] pr)⟩
      show some (gI h3 31 4, h3) = _
      rw [A3.2.2.1]
    | true =>
      rw [if_neg (show ¬ b2 true = 0 by decide)]
      dsimp only
      rw [A3.2.1]
      obtain ⟨cs, C3, K3⟩ := cT rfl
      obtain ⟨kk, g1, s1, o1, c1, w1, w2, w3, w4⟩ := K3.2.2 true [] pr
      have w3' : uw 1 s1 o1 c1 = ([], cat T q ++ cs, 0) := w3
      by_cases k59 : kd B n p3 = 59
      case neg =>
        rw [if_neg k59]
        unfold g_X2_read_58
        refine Or.inl ⟨p3, h3, m2, ?_, (f2'.tr f3).mono (fun a k z => Or.inl z), failing p3 m2 ⟨kk, w1, fun m => ?_⟩⟩
        · rw [A3.2.2.1]
        · rw [show m + kk + 1 = (m + 1) + kk by omega]
          refine (w2 (m + 1)).trans ?_
          by_cases k41 : kd B n p3 = 41
          · rw [mrun, if_pos rfl, if_neg k59, if_pos k41, w3', if_pos rfl]
          · exact m_bad k59 k41 w4 m
      rw [if_pos k59]
      have es3 := en_s O m2 (by rw [k59]; decide)
      have eb3 := en_b O m2
      have H3 := TPc_s (f2'.tr f3) H
      obtain ⟨h4, a4, A4, f4⟩ := c_adv O H3 eb3.2.2 A3.1
      have C4 := CC_fr f4 C3
      obtain ⟨T', eT⟩ : ∃ T' : Nat → List Int32, T' = fun i => if i = q then cs else T i := ⟨_, rfl⟩
      have tT : ∀ i, i < q → T i = T' i := fun i hi => by rw [eT]; show _ = if i = q then cs else T i; rw [if_neg (by omega)]
      have tq : T' q = cs := by rw [eT]; show (if q = q then cs else T q) = cs; rw [if_pos rfl]
      have ccat : cat T' (q + 1) = cat T q ++ cs := by rw [cat, ← cat_cg q tT, tq]
      obtain ⟨h5, e5⟩ : ∃ h5, h5 = hsi h4 (50 + 4 * t) q (gI h4 (48 + 4 * t) 3) := ⟨_, rfl⟩
      have f5 : Fr (fun a k => a = 50 + 4 * t ∧ k = q) h4 h5 := by rw [e5]; exact (Fr.rfl' _ _).si _ ⟨rfl, rfl⟩
      have F5 : Fr (SCt t) h h5 := (((f2'.tr f3).mono (fun a k z => Or.inl z)).tr (f4.mono (fun a k z => Or.inl (Or.inl z)))).tr (f5.mono (fun a k z => Or.inr z.1))
      have f4' : Fr (SCd t) h h4 := (f2'.tr f3).tr (f4.mono (fun a k z => Or.inl z))
      rw [a4, Option.bind_some, ends_sec hq3, Option.bind_some, ← e5, iN_add (by omega)]
      have len' : (cat T' (q + 1)).length ≤ en B n p3 := by
        rw [ccat, List.length_append]
        have := K3.1
        omega
      have hcs : hgt cs 0 1 := by
        have := K3.2.1 [] 0 1 (by unfold BND; simp) rfl
        rw [List.append_nil] at this
        exact this
      -- the reference goes through the section too
      have ref : ∀ hr mr, j + 1 + 1 < mr → RTt B n t q p T hr → ∃ hr' mr', mr = mr' + 1 ∧ RTt B n t (q + 1) (en B n p3) T' hr' ∧ g_X8_text_26 4000 mr 1 (iN q) hr = g_X8_text_26 4000 mr' 1 (iN (q + 1)) hr' ∧ Fr (SRt t) hr hr' := by
        intro hr mr hmr W
        obtain ⟨mr, rfl⟩ : ∃ z, mr = z + 1 := ⟨mr - 1, by omega⟩
        obtain ⟨h1, A1, F1, W1, W1', a1⟩ := r_sec O ht hq3 hp W mr
        have e : mrun B n 4000 true true [] (cat T q) 0 (en B n p) = some (some (cat T q ++ cs), p3) := by
          have e' := w2 ((3999 - kk) + 1)
          rw [show 3999 - kk + 1 + kk = 4000 by omega] at e'
          refine e'.trans ?_
          rw [mrun, if_pos rfl, if_pos k59, w3', if_pos rfl]
        obtain ⟨h6, a6, A6, f6, R6⟩ := r_expr O ht eb.2.2 (by omega) W1 e
        have F6 : Fr (SRt t) hr h6 := F1.tr (f6.mono (fun a k z => Or.inl z))
        refine ⟨h6, mr, rfl, ⟨TPr_s F6 W.1, A6.1, ?_, fun i hi => ?_⟩, ?_, F6⟩
        · rw [ccat]; exact R6 _ rfl
        · rw [f6.i (by unfold SRd SMc; omega), ← toff_cg i (fun a ha => tT a (by omega))]
          by_cases c : i = q
          · rw [c]; exact W1' hq3
          · exact W1.2.2.2 i (by omega)
        · rw [a1, if_pos k]
          unfold g_X8_text_78 g_X8_text_94
          have a6' : g_X8_eRead 4000 h1 = some (1, h6) := a6
          rw [if_neg (by decide), a6', Option.bind_some, if_neg (show ¬ (1 : Int32) = 0 by decide), iN_add (by omega)]
      have hh' : ∀ i, i < q + 1 → hgt (T' i) 0 1 := by
        intro i hi
        by_cases c : i = q
        · rw [c, tq]; exact hcs
        · rw [← tT i (by omega)]; exact hh i (by omega)
      have he' : ∀ i, i < q + 1 → gI h5 (50 + 4 * t) i = iN (toff T' (i + 1)) := by
        intro i hi
        by_cases c : i = q
        · rw [e5, gI_hsi, if_pos ⟨rfl, c⟩, C4.1, ← ccat, cat_len, c]
        · rw [f5.i (by omega), f4'.i (by unfold SCd; omega), he i (by omega), toff_cg (i + 1) (fun a ha => tT a (by omega))]
      have C5 : CC t (cat T' (q + 1)) h5 := by
        rw [ccat]
        refine ⟨?_, fun i hi => ?_⟩
        · rw [f5.i (by omega)]; exact C4.1
        · rw [f5.i (by omega)]; exact C4.2 i hi
      have A5 : CAt B n (en B n p3) h5 := by
        refine ⟨?_, ?_, ?_, fun z => ?_⟩
        · rw [f5.i (by omega)]; exact A4.1
        · rw [f5.i (by omega)]; exact A4.2.1
        · rw [f5.i (by omega)]; exact A4.2.2.1
        · rw [f5.i (by omega)]; exact A4.2.2.2 z
      rcases ih (q + 1) (en B n p3) T' m h5 (by omega) (by omega) (TPc_fr f5 (fun a k => by omega) (TPc_s f4' H)) A5 C5 eb3.2.2 len' hh' he' with ⟨pf, h6, u1, u2, u3, u4⟩ | ⟨T2, h6, u0, u1, u2, u3, u4⟩
      · refine Or.inl ⟨pf, h6, u1, u2, F5.tr u3, fun hr mr hmr W => ?_⟩
        obtain ⟨hr', mr', v1, v2, v3, v4⟩ := ref hr mr hmr W
        obtain ⟨h7, x1, x2, x3⟩ := u4 hr' mr' (by omega) v2
        exact ⟨h7, v3.trans x1, x2, v4.tr x3⟩
      · refine Or.inr ⟨T2, h6, u0, u1, u2, F5.tr u3, fun hr mr hmr W => ?_⟩
        obtain ⟨hr', mr', v1, v2, v3, v4⟩ := ref hr mr hmr W
        obtain ⟨h7, x1, x2, x3, x4, x5⟩ := u4 hr' mr' (by omega) v2
        exact ⟨h7, v3.trans x1, x2, x3, x4, v4.tr x5⟩
