noncomputable def g_X7_areOdds_0 (v0 : Int32) (v1 : Int32) (h : Hp) : Option (Int32 × Hp) :=
  (g_X7_within v1 1 30 h).bind fun o1 =>
  if o1.1 = 0 then
    some (0, o1.2)
  else
    (g_X7_within v0 0 v1 o1.2).bind fun o3 =>
    if o3.1 = 0 then
      some (0, o3.2)
    else
      some (1, o3.2)
set_option maxRecDepth 100000 in
set_option maxHeartbeats 4000000 in
theorem q_X7_areOdds_0 {X : Nat → Int32} {d : Nat} (hd : 1 ≤ (d + 1)) {L hi : Nat} (hh : 96 ≤ hi) {v0 : Int32} {v1 : Int32} {h : Hp} {o : (Int32 × Hp)}  (SH : SHP L hi h) (hf : g_X7_areOdds_0 v0 v1 h = some o) : Run X (d + 1) 116 0 [some (.int v0), some (.int v1)] [] h (some (.int o.1), o.2) ∧ SHP L hi o.2 := by
  unfold g_X7_areOdds_0 at hf
  refine And.imp_left (rs_iload_n i_X7_areOdds_0 rfl) ?_
  refine And.imp_left (rs_iconst i_X7_areOdds_1 (v := 1) (by decide)) ?_
  refine And.imp_left (rs_bipush i_X7_areOdds_2 (v := 30) (by decide)) ?_
  obtain ⟨o1, e1, hf⟩ := bind_some hf
  obtain ⟨u1, SH2⟩ := k_X7_within (X := X) (d := d) (by omega) (by omega) SH e1
  refine And.imp_left (rs_inS i_X7_areOdds_4 (by decide) m_X7_within rfl (As := [.int v1, .int 1, .int 30]) (rest := []) rfl rfl (Nat.le_of_ble_eq_true rfl) u1 (st' := [.int o1.1]) rfl) ?_
  clear SH; have SH := SH2; clear SH2
  by_cases c2 : o1.1 = 0
  · replace hf := (if_pos c2).symm.trans hf
    refine And.imp_left (rs_ifT i_X7_areOdds_7 (ct_eq c2) (tg := 23) (by decide)) ?_
    refine And.imp_left (rs_iconst i_X7_areOdds_23 (v := 0) (by decide)) ?_
    have hf := Option.some.inj hf
    subst hf
    exact ⟨rs_iret i_X7_areOdds_24 m_X7_areOdds (by decide), SH⟩
  · replace hf := (if_neg c2).symm.trans hf
    refine And.imp_left (rs_ifF i_X7_areOdds_7 (cf_eq c2)) ?_
    refine And.imp_left (rs_iload_n i_X7_areOdds_10 rfl) ?_
    refine And.imp_left (rs_iconst i_X7_areOdds_11 (v := 0) (by decide)) ?_
    refine And.imp_left (rs_iload_n i_X7_areOdds_12 rfl) ?_
    obtain ⟨o3, e3, hf⟩ := bind_some hf
    obtain ⟨u3, SH2⟩ := k_X7_within (X := X) (d := d) (by omega) (by omega) SH e3
    refine And.imp_left (rs_inS i_X7_areOdds_13 (by decide) m_X7_within rfl (As := [.int v0, .int 0, .int v1]) (rest := []) rfl rfl (Nat.le_of_ble_eq_true rfl) u3 (st' := [.int o3.1]) rfl) ?_
    clear SH; have SH := SH2; clear SH2
    by_cases c4 : o3.1 = 0
    · replace hf := (if_pos c4).symm.trans hf
      refine And.imp_left (rs_ifT i_X7_areOdds_16 (ct_eq c4) (tg := 23) (by decide)) ?_
      refine And.imp_left (rs_iconst i_X7_areOdds_23 (v := 0) (by decide)) ?_
      have hf := Option.some.inj hf
      subst hf
      exact ⟨rs_iret i_X7_areOdds_24 m_X7_areOdds (by decide), SH⟩
    · replace hf := (if_neg c4).symm.trans hf
      refine And.imp_left (rs_ifF i_X7_areOdds_16 (cf_eq c4)) ?_
      refine And.imp_left (rs_iconst i_X7_areOdds_19 (v := 1) (by decide)) ?_
      refine And.imp_left (rs_goto i_X7_areOdds_20 (tg := 24) (by decide)) ?_
      have hf := Option.some.inj hf
      subst hf
      exact ⟨rs_iret i_X7_areOdds_24 m_X7_areOdds (by decide), SH⟩
noncomputable def g_X7_areOdds (v0 : Int32) (v1 : Int32) (h : Hp) : Option (Int32 × Hp) := g_X7_areOdds_0 v0 v1 h
theorem k_X7_areOdds {X : Nat → Int32} {d : Nat} (hd : 1 ≤ d) {L hi : Nat} (hh : 96 ≤ hi) {v0 : Int32} {v1 : Int32} {h : Hp} {o : (Int32 × Hp)}  (SH : SHP L hi h) (hf : g_X7_areOdds v0 v1 h = some o) : Calls X d 116 [.int v0, .int v1] h (some (.int o.1), o.2) ∧ SHP L hi o.2 := by
  obtain ⟨d, rfl⟩ : ∃ z, d = z + 1 := ⟨d - 1, by omega⟩
  obtain ⟨r, S2⟩ := q_X7_areOdds_0 hd hh SH hf
  exact ⟨⟨_, rfl, r⟩, S2⟩
noncomputable def g_X7_multiplied_5 (n : Nat) : Nat → Int32 → Int32 → Int64 → Int32 → Hp → Option (Int64 × Hp)
  | 0, _, _, _, _, _ => none
  | m + 1, v0, v1, v2, v4, h =>
    if v1 ≤ v4 then
      some (v2, h)
    else
      (g_X7_multiplied_5 n m) v0 v1 (v2 * (Int32.toInt64 v0)) (v4 + 1) h
set_option maxRecDepth 100000 in
set_option maxHeartbeats 4000000 in
theorem q_X7_multiplied_5 {X : Nat → Int32} {d : Nat} (hd : 0 ≤ d) {L hi : Nat} (hh : 96 ≤ hi) {n : Nat} : ∀ (m : Nat) (v0 : Int32) (v1 : Int32) (v2 : Int64) (v4 : Int32) (h : Hp) (o : (Int64 × Hp)), SHP L hi h → g_X7_multiplied_5 n m v0 v1 v2 v4 h = some o → Run X d 123 5 [some (.int v0), some (.int v1), some (.long v2), none, some (.int v4)] [] h (some (.long o.1), o.2) ∧ SHP L hi o.2 := by
  intro m
  induction m with
  | zero => intro v0 v1 v2 v4 h o SH hf; cases hf
  | succ m ih =>
    intro v0 v1 v2 v4 h o SH hf
    rw [g_X7_multiplied_5] at hf
    refine And.imp_left (rs_iload i_X7_multiplied_5 rfl) ?_
    refine And.imp_left (rs_iload_n i_X7_multiplied_7 rfl) ?_
    by_cases c1 : v1 ≤ v4
    · replace hf := (if_pos c1).symm.trans hf
      refine And.imp_left (rs_icT i_X7_multiplied_8 (ct_ge c1) (tg := 22) (by decide)) ?_
      refine And.imp_left (rs_lload_n i_X7_multiplied_22 rfl) ?_
      have hf := Option.some.inj hf
      subst hf
      exact ⟨rs_lret i_X7_multiplied_23 m_X7_multiplied rfl, SH⟩
    · replace hf := (if_neg c1).symm.trans hf
      refine And.imp_left (rs_icF i_X7_multiplied_8 (cf_ge c1)) ?_
      refine And.imp_left (rs_lload_n i_X7_multiplied_11 rfl) ?_
      refine And.imp_left (rs_iload_n i_X7_multiplied_12 rfl) ?_
      refine And.imp_left (rs_i2l i_X7_multiplied_13) ?_
      refine And.imp_left (rs_lmul i_X7_multiplied_14) ?_
      refine And.imp_left (rs_lstore_n i_X7_multiplied_15 (Nat.le_of_ble_eq_true rfl) (lv' := [some (.int v0), some (.int v1), some (.long (v2 * (Int32.toInt64 v0))), none, some (.int v4)]) rfl) ?_
      refine And.imp_left (rs_iinc i_X7_multiplied_16 rfl (v := v4 + 1) rfl (Nat.le_of_ble_eq_true rfl) (lv' := [some (.int v0), some (.int v1), some (.long (v2 * (Int32.toInt64 v0))), none, some (.int (v4 + 1))]) rfl) ?_
      refine And.imp_left (rs_goto i_X7_multiplied_19 (tg := 5) (by decide)) ?_
      exact ih _ _ _ _ _ _ SH hf
noncomputable def g_X7_multiplied_0 (n : Nat) (v0 : Int32) (v1 : Int32) (h : Hp) : Option (Int64 × Hp) :=
  g_X7_multiplied_5 n n v0 v1 1 0 h
set_option maxRecDepth 100000 in
set_option maxHeartbeats 4000000 in
theorem q_X7_multiplied_0 {X : Nat → Int32} {d : Nat} (hd : 0 ≤ d) {L hi : Nat} (hh : 96 ≤ hi) {n : Nat} {v0 : Int32} {v1 : Int32} {h : Hp} {o : (Int64 × Hp)}  (SH : SHP L hi h) (hf : g_X7_multiplied_0 n v0 v1 h = some o) : Run X d 123 0 [some (.int v0), some (.int v1), none, none, none] [] h (some (.long o.1), o.2) ∧ SHP L hi o.2 := by
  unfold g_X7_multiplied_0 at hf
  refine And.imp_left (rs_lconst i_X7_multiplied_0 (v := 1) (by decide)) ?_
  refine And.imp_left (rs_lstore_n i_X7_multiplied_1 (Nat.le_of_ble_eq_true rfl) (lv' := [some (.int v0), some (.int v1), some (.long 1), none, none]) rfl) ?_
  refine And.imp_left (rs_iconst i_X7_multiplied_2 (v := 0) (by decide)) ?_
  refine And.imp_left (rs_istore i_X7_multiplied_3 (Nat.le_of_ble_eq_true rfl) (lv' := [some (.int v0), some (.int v1), some (.long 1), none, some (.int 0)]) rfl) ?_
  exact q_X7_multiplied_5 hd hh _ _ _ _ _ _ _ SH hf
noncomputable def g_X7_multiplied (n : Nat) (v0 : Int32) (v1 : Int32) (h : Hp) : Option (Int64 × Hp) := g_X7_multiplied_0 n v0 v1 h
theorem k_X7_multiplied {X : Nat → Int32} {d : Nat} (hd : 0 ≤ d) {L hi : Nat} (hh : 96 ≤ hi) {n : Nat} {v0 : Int32} {v1 : Int32} {h : Hp} {o : (Int64 × Hp)}  (SH : SHP L hi h) (hf : g_X7_multiplied n v0 v1 h = some o) : Calls X d 123 [.int v0, .int v1] h (some (.long o.1), o.2) ∧ SHP L hi o.2 := by
  obtain ⟨r, S2⟩ := q_X7_multiplied_0 hd hh SH hf
  exact ⟨⟨_, rfl, r⟩, S2⟩
noncomputable def g_X7_odds_0 (n : Nat) (v1 : Int32) (v2 : Int32) (v3 : Int32) (v4 : Int32) (h : Hp) : Option (Int64 × Hp) :=
  (g_X7_areOdds v1 v2 h).bind fun o1 =>
  if o1.1 = 0 then
    some ((-4611686018427387904), o1.2)
  else
    (g_X7_within v3 0 10 o1.2).bind fun o3 =>
    if o3.1 = 0 then
      some ((-4611686018427387904), o3.2)
    else
      (g_X7_within v4 0 1 o3.2).bind fun o5 =>
      if o5.1 ≠ 0 then
        (g_X7_multiplied n (v2 - v1) v3 o5.2).bind fun o7 =>
        (g_X7_multiplied n v2 v3 o7.2).bind fun o8 =>
        (g_X7_inLowestTerms n o7.1 o8.1 v4 o8.2).bind fun o9 =>
        some (o9.1, o9.2)
      else
        some ((-4611686018427387904), o5.2)
set_option maxRecDepth 100000 in
set_option maxHeartbeats 4000000 in
theorem q_X7_odds_0 {X : Nat → Int32} {d : Nat} (hd : 2 ≤ (d + 1)) {L hi : Nat} (hh : 96 ≤ hi) {n : Nat} {v1 : Int32} {v2 : Int32} {v3 : Int32} {v4 : Int32} {h : Hp} {o : (Int64 × Hp)}  (SH : SHP L hi h) (hf : g_X7_odds_0 n v1 v2 v3 v4 h = some o) : Run X (d + 1) 100 0 [some (.ref 16), some (.int v1), some (.int v2), some (.int v3), some (.int v4)] [] h (some (.long o.1), o.2) ∧ SHP L hi o.2 := by
  unfold g_X7_odds_0 at hf
  refine And.imp_left (rs_iload_n i_X7_odds_0 rfl) ?_
  refine And.imp_left (rs_iload_n i_X7_odds_1 rfl) ?_
  obtain ⟨o1, e1, hf⟩ := bind_some hf
  obtain ⟨u1, SH2⟩ := k_X7_areOdds (X := X) (d := d) (by omega) (by omega) SH e1
  refine And.imp_left (rs_inS i_X7_odds_2 (by decide) m_X7_areOdds rfl (As := [.int v1, .int v2]) (rest := []) rfl rfl (Nat.le_of_ble_eq_true rfl) u1 (st' := [.int o1.1]) rfl) ?_
  clear SH; have SH := SH2; clear SH2
  by_cases c2 : o1.1 = 0
  · replace hf := (if_pos c2).symm.trans hf
    refine And.imp_left (rs_ifT i_X7_odds_5 (ct_eq c2) (tg := 28) (by decide)) ?_
    refine And.imp_left (rs_ldc2 i_X7_odds_28 (v := (-4611686018427387904)) (by decide)) ?_
    have hf := Option.some.inj hf
    subst hf
    exact ⟨rs_lret i_X7_odds_31 m_X7_odds rfl, SH⟩
  · replace hf := (if_neg c2).symm.trans hf
    refine And.imp_left (rs_ifF i_X7_odds_5 (cf_eq c2)) ?_
    refine And.imp_left (rs_iload_n i_X7_odds_8 rfl) ?_
    refine And.imp_left (rs_iconst i_X7_odds_9 (v := 0) (by decide)) ?_
    refine And.imp_left (rs_bipush i_X7_odds_10 (v := 10) (by decide)) ?_
    obtain ⟨o3, e3, hf⟩ := bind_some hf
    obtain ⟨u3, SH2⟩ := k_X7_within (X := X) (d := d) (by omega) (by omega) SH e3
    refine And.imp_left (rs_inS i_X7_odds_12 (by decide) m_X7_within rfl (As := [.int v3, .int 0, .int 10]) (rest := []) rfl rfl (Nat.le_of_ble_eq_true rfl) u3 (st' := [.int o3.1]) rfl) ?_
    clear SH; have SH := SH2; clear SH2
    by_cases c4 : o3.1 = 0
    · replace hf := (if_pos c4).symm.trans hf
      refine And.imp_left (rs_ifT i_X7_odds_15 (ct_eq c4) (tg := 28) (by decide)) ?_
      refine And.imp_left (rs_ldc2 i_X7_odds_28 (v := (-4611686018427387904)) (by decide)) ?_
      have hf := Option.some.inj hf
      subst hf
      exact ⟨rs_lret i_X7_odds_31 m_X7_odds rfl, SH⟩
    · replace hf := (if_neg c4).symm.trans hf
      refine And.imp_left (rs_ifF i_X7_odds_15 (cf_eq c4)) ?_
      refine And.imp_left (rs_iload i_X7_odds_18 rfl) ?_
      refine And.imp_left (rs_iconst i_X7_odds_20 (v := 0) (by decide)) ?_
      refine And.imp_left (rs_iconst i_X7_odds_21 (v := 1) (by decide)) ?_
      obtain ⟨o5, e5, hf⟩ := bind_some hf
      obtain ⟨u5, SH2⟩ := k_X7_within (X := X) (d := d) (by omega) (by omega) SH e5
      refine And.imp_left (rs_inS i_X7_odds_22 (by decide) m_X7_within rfl (As := [.int v4, .int 0, .int 1]) (rest := []) rfl rfl (Nat.le_of_ble_eq_true rfl) u5 (st' := [.int o5.1]) rfl) ?_
      clear SH; have SH := SH2; clear SH2
      by_cases c6 : o5.1 ≠ 0
      · replace hf := (if_pos c6).symm.trans hf
        refine And.imp_left (rs_ifT i_X7_odds_25 (ct_ne c6) (tg := 32) (by decide)) ?_
        refine And.imp_left (rs_iload_n i_X7_odds_32 rfl) ?_
        refine And.imp_left (rs_iload_n i_X7_odds_33 rfl) ?_
        refine And.imp_left (rs_isub i_X7_odds_34) ?_
        refine And.imp_left (rs_iload_n i_X7_odds_35 rfl) ?_
        obtain ⟨o7, e7, hf⟩ := bind_some hf
        obtain ⟨u7, SH2⟩ := k_X7_multiplied (X := X) (d := d) (by omega) (by omega) SH e7
        refine And.imp_left (rs_inS i_X7_odds_36 (by decide) m_X7_multiplied rfl (As := [.int (v2 - v1), .int v3]) (rest := []) rfl rfl (Nat.le_of_ble_eq_true rfl) u7 (st' := [.long o7.1]) rfl) ?_
        clear SH; have SH := SH2; clear SH2
        refine And.imp_left (rs_iload_n i_X7_odds_39 rfl) ?_
        refine And.imp_left (rs_iload_n i_X7_odds_40 rfl) ?_
        obtain ⟨o8, e8, hf⟩ := bind_some hf
        obtain ⟨u8, SH2⟩ := k_X7_multiplied (X := X) (d := d) (by omega) (by omega) SH e8
        refine And.imp_left (rs_inS i_X7_odds_41 (by decide) m_X7_multiplied rfl (As := [.int v2, .int v3]) (rest := [.long o7.1]) rfl rfl (Nat.le_of_ble_eq_true rfl) u8 (st' := [.long o8.1, .long o7.1]) rfl) ?_
        clear SH; have SH := SH2; clear SH2
        refine And.imp_left (rs_iload i_X7_odds_44 rfl) ?_
        obtain ⟨o9, e9, hf⟩ := bind_some hf
        obtain ⟨u9, SH2⟩ := k_X7_inLowestTerms (X := X) (d := d) (by omega) (by omega) SH e9
        refine And.imp_left (rs_inS i_X7_odds_46 (by decide) m_X7_inLowestTerms rfl (As := [.long o7.1, .long o8.1, .int v4]) (rest := []) rfl rfl (Nat.le_of_ble_eq_true rfl) u9 (st' := [.long o9.1]) rfl) ?_
        clear SH; have SH := SH2; clear SH2
        have hf := Option.some.inj hf
        subst hf
        exact ⟨rs_lret i_X7_odds_49 m_X7_odds rfl, SH⟩
      · replace hf := (if_neg c6).symm.trans hf
        refine And.imp_left (rs_ifF i_X7_odds_25 (cf_ne c6)) ?_
        refine And.imp_left (rs_ldc2 i_X7_odds_28 (v := (-4611686018427387904)) (by decide)) ?_
        have hf := Option.some.inj hf
        subst hf
        exact ⟨rs_lret i_X7_odds_31 m_X7_odds rfl, SH⟩
noncomputable def g_X7_odds (n : Nat) (v1 : Int32) (v2 : Int32) (v3 : Int32) (v4 : Int32) (h : Hp) : Option (Int64 × Hp) := g_X7_odds_0 n v1 v2 v3 v4 h
theorem k_X7_odds {X : Nat → Int32} {d : Nat} (hd : 2 ≤ d) {L hi : Nat} (hh : 96 ≤ hi) {n : Nat} {v1 : Int32} {v2 : Int32} {v3 : Int32} {v4 : Int32} {h : Hp} {o : (Int64 × Hp)}  (SH : SHP L hi h) (hf : g_X7_odds n v1 v2 v3 v4 h = some o) : Calls X d 100 [.ref 16, .int v1, .int v2, .int v3, .int v4] h (some (.long o.1), o.2) ∧ SHP L hi o.2 := by
  obtain ⟨d, rfl⟩ : ∃ z, d = z + 1 := ⟨d - 1, by omega⟩
  obtain ⟨r, S2⟩ := q_X7_odds_0 hd hh SH hf
  exact ⟨⟨_, rfl, r⟩, S2⟩
noncomputable def g_X7_record_63 (n : Nat) (K27 : Int32 → Int32 → Int32 → Int32 → Int32 → Hp → Option (Int32 × Hp)) (v1 : Int32) (v2 : Int32) (v3 : Int32) (v4 : Int32) (v5 : Int32) (h : Hp) : Option (Int32 × Hp) :=
  K27 v1 v2 v3 v4 (v5 + 1) h
set_option maxRecDepth 100000 in
set_option maxHeartbeats 4000000 in
theorem q_X7_record_63 {X : Nat → Int32} {d : Nat} (hd : 2 ≤ (d + 1)) {L hi : Nat} (hh : 96 ≤ hi) {n : Nat} {K27 : Int32 → Int32 → Int32 → Int32 → Int32 → Hp → Option (Int32 × Hp)} (HK27 : ∀ (v1 : Int32) (v2 : Int32) (v3 : Int32) (v4 : Int32) (v5 : Int32) (h : Hp) (o : (Int32 × Hp)), SHP L hi h → K27 v1 v2 v3 v4 v5 h = some o → Run X (d + 1) 101 27 [some (.ref 16), some (.int v1), some (.int v2), some (.int v3), some (.int v4), some (.int v5)] [] h (some (.int o.1), o.2) ∧ SHP L hi o.2) {v1 : Int32} {v2 : Int32} {v3 : Int32} {v4 : Int32} {v5 : Int32} {h : Hp} {o : (Int32 × Hp)}  (SH : SHP L hi h) (hf : g_X7_record_63 n K27 v1 v2 v3 v4 v5 h = some o) : Run X (d + 1) 101 63 [some (.ref 16), some (.int v1), some (.int v2), some (.int v3), some (.int v4), some (.int v5)] [] h (some (.int o.1), o.2) ∧ SHP L hi o.2 := by
  unfold g_X7_record_63 at hf
  refine And.imp_left (rs_iinc i_X7_record_63 rfl (v := v5 + 1) rfl (Nat.le_of_ble_eq_true rfl) (lv' := [some (.ref 16), some (.int v1), some (.int v2), some (.int v3), some (.int v4), some (.int (v5 + 1))]) rfl) ?_
  refine And.imp_left (rs_goto i_X7_record_66 (tg := 27) (by decide)) ?_
  exact HK27 _ _ _ _ _ _ _ SH hf
noncomputable def g_X7_record_27 (n : Nat) : Nat → Int32 → Int32 → Int32 → Int32 → Int32 → Hp → Option (Int32 × Hp)
  | 0, _, _, _, _, _, _ => none
  | m + 1, v1, v2, v3, v4, v5, h =>
    if 10 < v5 then
      some (v4, h)
    else
      (g_X7_multiplied n (v2 - v1) v5 h).bind fun o2 =>
      (g_X7_multiplied n v2 v5 o2.2).bind fun o3 =>
      if (o2.1 * 100) < ((Int32.toInt64 v3) * o3.1) then
        g_X7_record_63 n (g_X7_record_27 n m) v1 v2 v3 v4 v5 o3.2
      else
        g_X7_record_63 n (g_X7_record_27 n m) v1 v2 v3 v5 v5 o3.2
set_option maxRecDepth 100000 in
set_option maxHeartbeats 4000000 in
theorem q_X7_record_27 {X : Nat → Int32} {d : Nat} (hd : 2 ≤ (d + 1)) {L hi : Nat} (hh : 96 ≤ hi) {n : Nat} : ∀ (m : Nat) (v1 : Int32) (v2 : Int32) (v3 : Int32) (v4 : Int32) (v5 : Int32) (h : Hp) (o : (Int32 × Hp)), SHP L hi h → g_X7_record_27 n m v1 v2 v3 v4 v5 h = some o → Run X (d + 1) 101 27 [some (.ref 16), some (.int v1), some (.int v2), some (.int v3), some (.int v4), some (.int v5)] [] h (some (.int o.1), o.2) ∧ SHP L hi o.2 := by
  intro m
  induction m with
  | zero => intro v1 v2 v3 v4 v5 h o SH hf; cases hf
  | succ m ih =>
    intro v1 v2 v3 v4 v5 h o SH hf
    rw [g_X7_record_27] at hf
    refine And.imp_left (rs_iload i_X7_record_27 rfl) ?_
    refine And.imp_left (rs_bipush i_X7_record_29 (v := 10) (by decide)) ?_
    by_cases c1 : 10 < v5
    · replace hf := (if_pos c1).symm.trans hf
      refine And.imp_left (rs_icT i_X7_record_31 (ct_gt c1) (tg := 69) (by decide)) ?_
      refine And.imp_left (rs_iload i_X7_record_69 rfl) ?_
      have hf := Option.some.inj hf
      subst hf
      exact ⟨rs_iret i_X7_record_71 m_X7_record rfl, SH⟩
    · replace hf := (if_neg c1).symm.trans hf
      refine And.imp_left (rs_icF i_X7_record_31 (cf_gt c1)) ?_
      refine And.imp_left (rs_iload_n i_X7_record_34 rfl) ?_
      refine And.imp_left (rs_iload_n i_X7_record_35 rfl) ?_
      refine And.imp_left (rs_isub i_X7_record_36) ?_
      refine And.imp_left (rs_iload i_X7_record_37 rfl) ?_
      obtain ⟨o2, e2, hf⟩ := bind_some hf
      obtain ⟨u2, SH2⟩ := k_X7_multiplied (X := X) (d := d) (by omega) (by omega) SH e2
      refine And.imp_left (rs_inS i_X7_record_39 (by decide) m_X7_multiplied rfl (As := [.int (v2 - v1), .int v5]) (rest := []) rfl rfl (Nat.le_of_ble_eq_true rfl) u2 (st' := [.long o2.1]) rfl) ?_
      clear SH; have SH := SH2; clear SH2
      refine And.imp_left (rs_ldc2 i_X7_record_42 (v := 100) (by decide)) ?_
      refine And.imp_left (rs_lmul i_X7_record_45) ?_
      refine And.imp_left (rs_iload_n i_X7_record_46 rfl) ?_
      refine And.imp_left (rs_i2l i_X7_record_47) ?_
      refine And.imp_left (rs_iload_n i_X7_record_48 rfl) ?_
      refine And.imp_left (rs_iload i_X7_record_49 rfl) ?_
      obtain ⟨o3, e3, hf⟩ := bind_some hf
      obtain ⟨u3, SH2⟩ := k_X7_multiplied (X := X) (d := d) (by omega) (by omega) SH e3
      refine And.imp_left (rs_inS i_X7_record_51 (by decide) m_X7_multiplied rfl (As := [.int v2, .int v5]) (rest := [.long (Int32.toInt64 v3), .long (o2.1 * 100)]) rfl rfl (Nat.le_of_ble_eq_true rfl) u3 (st' := [.long o3.1, .long (Int32.toInt64 v3), .long (o2.1 * 100)]) rfl) ?_
      clear SH; have SH := SH2; clear SH2
      refine And.imp_left (rs_lmul i_X7_record_54) ?_
      refine And.imp_left (rs_lcmp i_X7_record_55) ?_
      by_cases c4 : (o2.1 * 100) < ((Int32.toInt64 v3) * o3.1)
      · replace hf := (if_pos c4).symm.trans hf
        refine And.imp_left (rs_ifT i_X7_record_56 (by rw [lc_lt]; exact decide_eq_true c4) (tg := 63) (by decide)) ?_
        exact q_X7_record_63 hd hh ih SH hf
      · replace hf := (if_neg c4).symm.trans hf
        refine And.imp_left (rs_ifF i_X7_record_56 (by rw [lc_lt]; exact decide_eq_false c4)) ?_
        refine And.imp_left (rs_iload i_X7_record_59 rfl) ?_
        refine And.imp_left (rs_istore i_X7_record_61 (Nat.le_of_ble_eq_true rfl) (lv' := [some (.ref 16), some (.int v1), some (.int v2), some (.int v3), some (.int v5), some (.int v5)]) rfl) ?_
        exact q_X7_record_63 hd hh ih SH hf
noncomputable def g_X7_record_0 (n : Nat) (v1 : Int32) (v2 : Int32) (v3 : Int32) (h : Hp) : Option (Int32 × Hp) :=
  (g_X7_areOdds v1 v2 h).bind fun o1 =>
  if o1.1 = 0 then
    some ((-2), o1.2)
  else
    (g_X7_within v3 0 100 o1.2).bind fun o3 =>
    if o3.1 ≠ 0 then
      g_X7_record_27 n n v1 v2 v3 0 0 o3.2
    else
      some ((-2), o3.2)
set_option maxRecDepth 100000 in
set_option maxHeartbeats 4000000 in
theorem q_X7_record_0 {X : Nat → Int32} {d : Nat} (hd : 2 ≤ (d + 1)) {L hi : Nat} (hh : 96 ≤ hi) {n : Nat} {v1 : Int32} {v2 : Int32} {v3 : Int32} {h : Hp} {o : (Int32 × Hp)}  (SH : SHP L hi h) (hf : g_X7_record_0 n v1 v2 v3 h = some o) : Run X (d + 1) 101 0 [some (.ref 16), some (.int v1), some (.int v2), some (.int v3), none, none] [] h (some (.int o.1), o.2) ∧ SHP L hi o.2 := by
  unfold g_X7_record_0 at hf
  refine And.imp_left (rs_iload_n i_X7_record_0 rfl) ?_
  refine And.imp_left (rs_iload_n i_X7_record_1 rfl) ?_
  obtain ⟨o1, e1, hf⟩ := bind_some hf
  obtain ⟨u1, SH2⟩ := k_X7_areOdds (X := X) (d := d) (by omega) (by omega) SH e1
  refine And.imp_left (rs_inS i_X7_record_2 (by decide) m_X7_areOdds rfl (As := [.int v1, .int v2]) (rest := []) rfl rfl (Nat.le_of_ble_eq_true rfl) u1 (st' := [.int o1.1]) rfl) ?_
  clear SH; have SH := SH2; clear SH2
  by_cases c2 : o1.1 = 0
  · replace hf := (if_pos c2).symm.trans hf
    refine And.imp_left (rs_ifT i_X7_record_5 (ct_eq c2) (tg := 18) (by decide)) ?_
    refine And.imp_left (rs_bipush i_X7_record_18 (v := (-2)) (by decide)) ?_
    have hf := Option.some.inj hf
    subst hf
    exact ⟨rs_iret i_X7_record_20 m_X7_record rfl, SH⟩
  · replace hf := (if_neg c2).symm.trans hf
    refine And.imp_left (rs_ifF i_X7_record_5 (cf_eq c2)) ?_
    refine And.imp_left (rs_iload_n i_X7_record_8 rfl) ?_
    refine And.imp_left (rs_iconst i_X7_record_9 (v := 0) (by decide)) ?_
    refine And.imp_left (rs_bipush i_X7_record_10 (v := 100) (by decide)) ?_
    obtain ⟨o3, e3, hf⟩ := bind_some hf
    obtain ⟨u3, SH2⟩ := k_X7_within (X := X) (d := d) (by omega) (by omega) SH e3
    refine And.imp_left (rs_inS i_X7_record_12 (by decide) m_X7_within rfl (As := [.int v3, .int 0, .int 100]) (rest := []) rfl rfl (Nat.le_of_ble_eq_true rfl) u3 (st' := [.int o3.1]) rfl) ?_
    clear SH; have SH := SH2; clear SH2
    by_cases c4 : o3.1 ≠ 0
    · replace hf := (if_pos c4).symm.trans hf
      refine And.imp_left (rs_ifT i_X7_record_15 (ct_ne c4) (tg := 21) (by decide)) ?_
      refine And.imp_left (rs_iconst i_X7_record_21 (v := 0) (by decide)) ?_
      refine And.imp_left (rs_istore i_X7_record_22 (Nat.le_of_ble_eq_true rfl) (lv' := [some (.ref 16), some (.int v1), some (.int v2), some (.int v3), some (.int 0), none]) rfl) ?_
      refine And.imp_left (rs_iconst i_X7_record_24 (v := 0) (by decide)) ?_
      refine And.imp_left (rs_istore i_X7_record_25 (Nat.le_of_ble_eq_true rfl) (lv' := [some (.ref 16), some (.int v1), some (.int v2), some (.int v3), some (.int 0), some (.int 0)]) rfl) ?_
      exact q_X7_record_27 hd hh _ _ _ _ _ _ _ _ SH hf
    · replace hf := (if_neg c4).symm.trans hf
      refine And.imp_left (rs_ifF i_X7_record_15 (cf_ne c4)) ?_
      refine And.imp_left (rs_bipush i_X7_record_18 (v := (-2)) (by decide)) ?_
      have hf := Option.some.inj hf
      subst hf
      exact ⟨rs_iret i_X7_record_20 m_X7_record rfl, SH⟩
noncomputable def g_X7_record (n : Nat) (v1 : Int32) (v2 : Int32) (v3 : Int32) (h : Hp) : Option (Int32 × Hp) := g_X7_record_0 n v1 v2 v3 h
theorem k_X7_record {X : Nat → Int32} {d : Nat} (hd : 2 ≤ d) {L hi : Nat} (hh : 96 ≤ hi) {n : Nat} {v1 : Int32} {v2 : Int32} {v3 : Int32} {h : Hp} {o : (Int32 × Hp)}  (SH : SHP L hi h) (hf : g_X7_record n v1 v2 v3 h = some o) : Calls X d 101 [.ref 16, .int v1, .int v2, .int v3] h (some (.int o.1), o.2) ∧ SHP L hi o.2 := by
  obtain ⟨d, rfl⟩ : ∃ z, d = z + 1 := ⟨d - 1, by omega⟩
  obtain ⟨r, S2⟩ := q_X7_record_0 hd hh SH hf
  exact ⟨⟨_, rfl, r⟩, S2⟩
noncomputable def g_X7_drawn_0 (n : Nat) (v1 : Int32) (v2 : Int32) (v3 : Int32) (v4 : Int32) (h : Hp) : Option (Int32 × Hp) :=
  (g_X7_areSteps v1 h).bind fun o1 =>
  if o1.1 ≠ 0 then
    (g_X7_within v2 0 11 o1.2).bind fun o3 =>
    if o3.1 = 0 then
      some ((-7), o3.2)
    else
      (g_X7_within v3 0 99999 o3.2).bind fun o5 =>
      if o5.1 = 0 then
        some ((-7), o5.2)
      else
        (g_X7_within v4 0 1 o5.2).bind fun o7 =>
        if o7.1 ≠ 0 then
          (g_X7_make n 17 v1 (-1) v3 o7.2).bind fun o9 =>
          if v4 ≠ 0 then
            (g_X3_spread n 82 o9).bind fun o11 =>
            some (o11.1, o11.2)
          else
            (g_X3_thick 82 v2 o9).bind fun o12 =>
            some (o12.1, o12.2)
        else
          some ((-7), o7.2)
  else
    some ((-5), o1.2)
set_option maxRecDepth 100000 in
set_option maxHeartbeats 4000000 in
theorem q_X7_drawn_0 {X : Nat → Int32} {d : Nat} (hd : 7 ≤ (d + 1)) {L hi : Nat} (hh : 96 ≤ hi) {n : Nat} {v1 : Int32} {v2 : Int32} {v3 : Int32} {v4 : Int32} {h : Hp} {o : (Int32 × Hp)}  (SH : SHP L hi h) (hf : g_X7_drawn_0 n v1 v2 v3 v4 h = some o) : Run X (d + 1) 102 0 [some (.ref 16), some (.int v1), some (.int v2), some (.int v3), some (.int v4)] [] h (some (.int o.1), o.2) ∧ SHP L hi o.2 := by
  unfold g_X7_drawn_0 at hf
  refine And.imp_left (rs_aload_n i_X7_drawn_0 rfl) ?_
  refine And.imp_left (rs_iload_n i_X7_drawn_1 rfl) ?_
  obtain ⟨o1, e1, hf⟩ := bind_some hf
  obtain ⟨u1, SH2⟩ := k_X7_areSteps (X := X) (d := d) (by omega) (by omega) SH e1
  refine And.imp_left (rs_inV i_X7_drawn_2 m_X7_areSteps rfl (As := [.int v1]) (rest := []) rfl rfl (Nat.le_of_ble_eq_true rfl) (sO7 SH hh) u1 (st' := [.int o1.1]) rfl) ?_
  clear SH; have SH := SH2; clear SH2
  by_cases c2 : o1.1 ≠ 0
  · replace hf := (if_pos c2).symm.trans hf
    refine And.imp_left (rs_ifT i_X7_drawn_5 (ct_ne c2) (tg := 11) (by decide)) ?_
    refine And.imp_left (rs_iload_n i_X7_drawn_11 rfl) ?_
    refine And.imp_left (rs_iconst i_X7_drawn_12 (v := 0) (by decide)) ?_
    refine And.imp_left (rs_bipush i_X7_drawn_13 (v := 11) (by decide)) ?_
    obtain ⟨o3, e3, hf⟩ := bind_some hf
    obtain ⟨u3, SH2⟩ := k_X7_within (X := X) (d := d) (by omega) (by omega) SH e3
    refine And.imp_left (rs_inS i_X7_drawn_15 (by decide) m_X7_within rfl (As := [.int v2, .int 0, .int 11]) (rest := []) rfl rfl (Nat.le_of_ble_eq_true rfl) u3 (st' := [.int o3.1]) rfl) ?_
    clear SH; have SH := SH2; clear SH2
    by_cases c4 : o3.1 = 0
    · replace hf := (if_pos c4).symm.trans hf
      refine And.imp_left (rs_ifT i_X7_drawn_18 (ct_eq c4) (tg := 41) (by decide)) ?_
      refine And.imp_left (rs_bipush i_X7_drawn_41 (v := (-7)) (by decide)) ?_
      have hf := Option.some.inj hf
      subst hf
      exact ⟨rs_iret i_X7_drawn_43 m_X7_drawn rfl, SH⟩
    · replace hf := (if_neg c4).symm.trans hf
      refine And.imp_left (rs_ifF i_X7_drawn_18 (cf_eq c4)) ?_
      refine And.imp_left (rs_iload_n i_X7_drawn_21 rfl) ?_
      refine And.imp_left (rs_iconst i_X7_drawn_22 (v := 0) (by decide)) ?_
      refine And.imp_left (rs_ldc i_X7_drawn_23 (v := 99999) (by decide)) ?_
      obtain ⟨o5, e5, hf⟩ := bind_some hf
      obtain ⟨u5, SH2⟩ := k_X7_within (X := X) (d := d) (by omega) (by omega) SH e5
      refine And.imp_left (rs_inS i_X7_drawn_25 (by decide) m_X7_within rfl (As := [.int v3, .int 0, .int 99999]) (rest := []) rfl rfl (Nat.le_of_ble_eq_true rfl) u5 (st' := [.int o5.1]) rfl) ?_
      clear SH; have SH := SH2; clear SH2
      by_cases c6 : o5.1 = 0
      · replace hf := (if_pos c6).symm.trans hf
        refine And.imp_left (rs_ifT i_X7_drawn_28 (ct_eq c6) (tg := 41) (by decide)) ?_
        refine And.imp_left (rs_bipush i_X7_drawn_41 (v := (-7)) (by decide)) ?_
        have hf := Option.some.inj hf
        subst hf
        exact ⟨rs_iret i_X7_drawn_43 m_X7_drawn rfl, SH⟩
      · replace hf := (if_neg c6).symm.trans hf
        refine And.imp_left (rs_ifF i_X7_drawn_28 (cf_eq c6)) ?_
        refine And.imp_left (rs_iload i_X7_drawn_31 rfl) ?_
        refine And.imp_left (rs_iconst i_X7_drawn_33 (v := 0) (by decide)) ?_
        refine And.imp_left (rs_iconst i_X7_drawn_34 (v := 1) (by decide)) ?_
        obtain ⟨o7, e7, hf⟩ := bind_some hf
        obtain ⟨u7, SH2⟩ := k_X7_within (X := X) (d := d) (by omega) (by omega) SH e7
        refine And.imp_left (rs_inS i_X7_drawn_35 (by decide) m_X7_within rfl (As := [.int v4, .int 0, .int 1]) (rest := []) rfl rfl (Nat.le_of_ble_eq_true rfl) u7 (st' := [.int o7.1]) rfl) ?_
        clear SH; have SH := SH2; clear SH2
        by_cases c8 : o7.1 ≠ 0
        · replace hf := (if_pos c8).symm.trans hf
          refine And.imp_left (rs_ifT i_X7_drawn_38 (ct_ne c8) (tg := 44) (by decide)) ?_
          refine And.imp_left (rs_aload_n i_X7_drawn_44 rfl) ?_
          refine And.imp_left (rs_aload_n i_X7_drawn_45 rfl) ?_
          refine And.imp_left (rs_getR i_X7_drawn_46 (by decide) (by decide) (sO7 SH hh) (sR7_0 SH hh)) ?_
          refine And.imp_left (rs_iload_n i_X7_drawn_49 rfl) ?_
          refine And.imp_left (rs_iconst i_X7_drawn_50 (v := (-1)) (by decide)) ?_
          refine And.imp_left (rs_iload_n i_X7_drawn_51 rfl) ?_
          obtain ⟨o9, e9, hf⟩ := bind_some hf
          obtain ⟨u9, SH2⟩ := k_X7_make (X := X) (d := d) (by omega) (by omega) (by decide) SH e9
          refine And.imp_left (rs_inV i_X7_drawn_52 m_X7_make rfl (As := [.ref 17, .int v1, .int (-1), .int v3]) (rest := []) rfl rfl (Nat.le_of_ble_eq_true rfl) (sO7 SH hh) u9 (st' := []) rfl) ?_
          clear SH; have SH := SH2; clear SH2
          refine And.imp_left (rs_iload i_X7_drawn_55 rfl) ?_
          by_cases c10 : v4 ≠ 0
          · replace hf := (if_pos c10).symm.trans hf
            refine And.imp_left (rs_ifT i_X7_drawn_57 (ct_ne c10) (tg := 71) (by decide)) ?_
            refine And.imp_left (rs_aload_n i_X7_drawn_71 rfl) ?_
            refine And.imp_left (rs_getR i_X7_drawn_72 (by decide) (by decide) (sO7 SH hh) (sR7_7 SH hh)) ?_
            obtain ⟨o11, e11, hf⟩ := bind_some hf
            obtain ⟨u11, SH2⟩ := k_X3_spread (X := X) (d := d) (by omega) (by omega) (by decide) SH e11
            refine And.imp_left (rs_inV i_X7_drawn_75 m_X3_spread rfl (As := []) (rest := []) rfl rfl (Nat.le_of_ble_eq_true rfl) (sO3 SH hh (by decide)) u11 (st' := [.int o11.1]) rfl) ?_
            clear SH; have SH := SH2; clear SH2
            have hf := Option.some.inj hf
            subst hf
            exact ⟨rs_iret i_X7_drawn_78 m_X7_drawn rfl, SH⟩
          · replace hf := (if_neg c10).symm.trans hf
            refine And.imp_left (rs_ifF i_X7_drawn_57 (cf_ne c10)) ?_
            refine And.imp_left (rs_aload_n i_X7_drawn_60 rfl) ?_
            refine And.imp_left (rs_getR i_X7_drawn_61 (by decide) (by decide) (sO7 SH hh) (sR7_7 SH hh)) ?_
            refine And.imp_left (rs_iload_n i_X7_drawn_64 rfl) ?_
            obtain ⟨o12, e12, hf⟩ := bind_some hf
            obtain ⟨u12, SH2⟩ := k_X3_thick (X := X) (d := d) (by omega) (by omega) (by decide) SH e12
            refine And.imp_left (rs_inV i_X7_drawn_65 m_X3_thick rfl (As := [.int v2]) (rest := []) rfl rfl (Nat.le_of_ble_eq_true rfl) (sO3 SH hh (by decide)) u12 (st' := [.int o12.1]) rfl) ?_
            clear SH; have SH := SH2; clear SH2
            refine And.imp_left (rs_goto i_X7_drawn_68 (tg := 78) (by decide)) ?_
            have hf := Option.some.inj hf
            subst hf
            exact ⟨rs_iret i_X7_drawn_78 m_X7_drawn rfl, SH⟩
        · replace hf := (if_neg c8).symm.trans hf
          refine And.imp_left (rs_ifF i_X7_drawn_38 (cf_ne c8)) ?_
          refine And.imp_left (rs_bipush i_X7_drawn_41 (v := (-7)) (by decide)) ?_
          have hf := Option.some.inj hf
          subst hf
          exact ⟨rs_iret i_X7_drawn_43 m_X7_drawn rfl, SH⟩
  · replace hf := (if_neg c2).symm.trans hf
    refine And.imp_left (rs_ifF i_X7_drawn_5 (cf_ne c2)) ?_
    refine And.imp_left (rs_bipush i_X7_drawn_8 (v := (-5)) (by decide)) ?_
    have hf := Option.some.inj hf
    subst hf
    exact ⟨rs_iret i_X7_drawn_10 m_X7_drawn rfl, SH⟩
noncomputable def g_X7_drawn (n : Nat) (v1 : Int32) (v2 : Int32) (v3 : Int32) (v4 : Int32) (h : Hp) : Option (Int32 × Hp) := g_X7_drawn_0 n v1 v2 v3 v4 h
theorem k_X7_drawn {X : Nat → Int32} {d : Nat} (hd : 7 ≤ d) {L hi : Nat} (hh : 96 ≤ hi) {n : Nat} {v1 : Int32} {v2 : Int32} {v3 : Int32} {v4 : Int32} {h : Hp} {o : (Int32 × Hp)}  (SH : SHP L hi h) (hf : g_X7_drawn n v1 v2 v3 v4 h = some o) : Calls X d 102 [.ref 16, .int v1, .int v2, .int v3, .int v4] h (some (.int o.1), o.2) ∧ SHP L hi o.2 := by
  obtain ⟨d, rfl⟩ : ∃ z, d = z + 1 := ⟨d - 1, by omega⟩
  obtain ⟨r, S2⟩ := q_X7_drawn_0 hd hh SH hf
  exact ⟨⟨_, rfl, r⟩, S2⟩
noncomputable def g_X7_image_16  (h : Hp) : Option (Int32 × Hp) :=
  some ((gI h 16 12), h)
set_option maxRecDepth 100000 in
set_option maxHeartbeats 4000000 in
theorem q_X7_image_16 {X : Nat → Int32} {d : Nat} (hd : 1 ≤ (d + 1)) {L hi : Nat} (hh : 96 ≤ hi)  {h : Hp} {o : (Int32 × Hp)}  (SH : SHP L hi h) (hf : g_X7_image_16 h = some o) : Run X (d + 1) 103 16 [some (.ref 16)] [] h (some (.int o.1), o.2) ∧ SHP L hi o.2 := by
  unfold g_X7_image_16 at hf
  refine And.imp_left (rs_aload_n i_X7_image_16 rfl) ?_
  refine And.imp_left (rs_getI i_X7_image_17 (by decide) (by decide) (sO7 SH hh)) ?_
  have hf := Option.some.inj hf
  subst hf
  exact ⟨rs_iret i_X7_image_20 m_X7_image rfl, SH⟩
noncomputable def g_X7_image_0  (h : Hp) : Option (Int32 × Hp) :=
  (g_X0_become 21 17 h).bind fun o1 =>
  g_X7_image_16 (hsi o1 16 14 1)
set_option maxRecDepth 100000 in
set_option maxHeartbeats 4000000 in
theorem q_X7_image_0 {X : Nat → Int32} {d : Nat} (hd : 1 ≤ (d + 1)) {L hi : Nat} (hh : 96 ≤ hi)  {h : Hp} {o : (Int32 × Hp)}  (SH : SHP L hi h) (hf : g_X7_image_0 h = some o) : Run X (d + 1) 103 0 [some (.ref 16)] [] h (some (.int o.1), o.2) ∧ SHP L hi o.2 := by
  unfold g_X7_image_0 at hf
  refine And.imp_left (rs_aload_n i_X7_image_0 rfl) ?_
  refine And.imp_left (rs_getR i_X7_image_1 (by decide) (by decide) (sO7 SH hh) (sR7_1 SH hh)) ?_
  refine And.imp_left (rs_aload_n i_X7_image_4 rfl) ?_
  refine And.imp_left (rs_getR i_X7_image_5 (by decide) (by decide) (sO7 SH hh) (sR7_0 SH hh)) ?_
  obtain ⟨o1, e1, hf⟩ := bind_some hf
  obtain ⟨u1, SH2⟩ := k_X0_become (X := X) (d := d) (by omega) (by omega) (by decide) (by decide) SH e1
  refine And.imp_left (rs_inV i_X7_image_8 m_X0_become rfl (As := [.ref 17]) (rest := []) rfl rfl (Nat.le_of_ble_eq_true rfl) (sO0 SH hh (by decide)) u1 (st' := []) rfl) ?_
  clear SH; have SH := SH2; clear SH2
  refine And.imp_left (rs_aload_n i_X7_image_11 rfl) ?_
  refine And.imp_left (rs_iconst i_X7_image_12 (v := 1) (by decide)) ?_
  refine And.imp_left (rs_putZ i_X7_image_13 (by decide) (by decide) (sO7 SH hh)) ?_
  have SH := shi SH 16 14 1
  exact q_X7_image_16 hd hh SH hf
noncomputable def g_X7_image  (h : Hp) : Option (Int32 × Hp) := g_X7_image_0 h
theorem k_X7_image {X : Nat → Int32} {d : Nat} (hd : 1 ≤ d) {L hi : Nat} (hh : 96 ≤ hi)  {h : Hp} {o : (Int32 × Hp)}  (SH : SHP L hi h) (hf : g_X7_image h = some o) : Calls X d 103 [.ref 16] h (some (.int o.1), o.2) ∧ SHP L hi o.2 := by
  obtain ⟨d, rfl⟩ : ∃ z, d = z + 1 := ⟨d - 1, by omega⟩
  obtain ⟨r, S2⟩ := q_X7_image_0 hd hh SH hf
  exact ⟨⟨_, rfl, r⟩, S2⟩
noncomputable def g_X7_back_0  (h : Hp) : Option (Int32 × Hp) :=
  if (gI h 16 14) ≠ 0 then
    (g_X0_become 17 21 h).bind fun o2 =>
    some ((gI o2 16 12), o2)
  else
    some ((-3), h)
set_option maxRecDepth 100000 in
set_option maxHeartbeats 4000000 in
theorem q_X7_back_0 {X : Nat → Int32} {d : Nat} (hd : 1 ≤ (d + 1)) {L hi : Nat} (hh : 96 ≤ hi)  {h : Hp} {o : (Int32 × Hp)}  (SH : SHP L hi h) (hf : g_X7_back_0 h = some o) : Run X (d + 1) 104 0 [some (.ref 16)] [] h (some (.int o.1), o.2) ∧ SHP L hi o.2 := by
  unfold g_X7_back_0 at hf
  refine And.imp_left (rs_aload_n i_X7_back_0 rfl) ?_
  refine And.imp_left (rs_getI i_X7_back_1 (by decide) (by decide) (sO7 SH hh)) ?_
  by_cases c1 : (gI h 16 14) ≠ 0
  · replace hf := (if_pos c1).symm.trans hf
    refine And.imp_left (rs_ifT i_X7_back_4 (ct_ne c1) (tg := 10) (by decide)) ?_
    refine And.imp_left (rs_aload_n i_X7_back_10 rfl) ?_
    refine And.imp_left (rs_getR i_X7_back_11 (by decide) (by decide) (sO7 SH hh) (sR7_0 SH hh)) ?_
    refine And.imp_left (rs_aload_n i_X7_back_14 rfl) ?_
    refine And.imp_left (rs_getR i_X7_back_15 (by decide) (by decide) (sO7 SH hh) (sR7_1 SH hh)) ?_
    obtain ⟨o2, e2, hf⟩ := bind_some hf
    obtain ⟨u2, SH2⟩ := k_X0_become (X := X) (d := d) (by omega) (by omega) (by decide) (by decide) SH e2
    refine And.imp_left (rs_inV i_X7_back_18 m_X0_become rfl (As := [.ref 21]) (rest := []) rfl rfl (Nat.le_of_ble_eq_true rfl) (sO0 SH hh (by decide)) u2 (st' := []) rfl) ?_
    clear SH; have SH := SH2; clear SH2
    refine And.imp_left (rs_aload_n i_X7_back_21 rfl) ?_
    refine And.imp_left (rs_getI i_X7_back_22 (by decide) (by decide) (sO7 SH hh)) ?_
    have hf := Option.some.inj hf
    subst hf
    exact ⟨rs_iret i_X7_back_25 m_X7_back rfl, SH⟩
  · replace hf := (if_neg c1).symm.trans hf
    refine And.imp_left (rs_ifF i_X7_back_4 (cf_ne c1)) ?_
    refine And.imp_left (rs_bipush i_X7_back_7 (v := (-3)) (by decide)) ?_
    have hf := Option.some.inj hf
    subst hf
    exact ⟨rs_iret i_X7_back_9 m_X7_back rfl, SH⟩
noncomputable def g_X7_back  (h : Hp) : Option (Int32 × Hp) := g_X7_back_0 h
theorem k_X7_back {X : Nat → Int32} {d : Nat} (hd : 1 ≤ d) {L hi : Nat} (hh : 96 ≤ hi)  {h : Hp} {o : (Int32 × Hp)}  (SH : SHP L hi h) (hf : g_X7_back h = some o) : Calls X d 104 [.ref 16] h (some (.int o.1), o.2) ∧ SHP L hi o.2 := by
  obtain ⟨d, rfl⟩ : ∃ z, d = z + 1 := ⟨d - 1, by omega⟩
  obtain ⟨r, S2⟩ := q_X7_back_0 hd hh SH hf
  exact ⟨⟨_, rfl, r⟩, S2⟩
noncomputable def g_X7_sheet_0 (n : Nat) (v1 : Int32) (v2 : Int32) (v3 : Int32) (h : Hp) : Option (Int32 × Hp) :=
  (g_X7_isSheet v1 h).bind fun o1 =>
  if o1.1 = 0 then
    some ((-2), o1.2)
  else
    (g_X7_within v2 (-1) 2 o1.2).bind fun o3 =>
    if o3.1 ≠ 0 then
      if v2 ≠ (-1) then
        if v3 ≤ 40 then
          if 0 ≤ v3 then
            if inb v1 4 = true then
            (g_X4_become n (72 + 2 * ix v1) v2 v3 o3.2).bind fun o9 =>
            some (1, o9)
            else none
          else
            some ((-14), o3.2)
        else
          some ((-2), o3.2)
      else
        if inb v1 4 = true then
        (g_X4_become n (72 + 2 * ix v1) (-1) 0 o3.2).bind fun o11 =>
        some (1, o11)
        else none
    else
      some ((-2), o3.2)
set_option maxRecDepth 100000 in
set_option maxHeartbeats 4000000 in
theorem q_X7_sheet_0 {X : Nat → Int32} {d : Nat} (hd : 2 ≤ (d + 1)) {L hi : Nat} (hh : 96 ≤ hi) {n : Nat} {v1 : Int32} {v2 : Int32} {v3 : Int32} {h : Hp} {o : (Int32 × Hp)}  (SH : SHP L hi h) (hf : g_X7_sheet_0 n v1 v2 v3 h = some o) : Run X (d + 1) 105 0 [some (.ref 16), some (.int v1), some (.int v2), some (.int v3)] [] h (some (.int o.1), o.2) ∧ SHP L hi o.2 := by
  unfold g_X7_sheet_0 at hf
  refine And.imp_left (rs_iload_n i_X7_sheet_0 rfl) ?_
  obtain ⟨o1, e1, hf⟩ := bind_some hf
  obtain ⟨u1, SH2⟩ := k_X7_isSheet (X := X) (d := d) (by omega) (by omega) SH e1
  refine And.imp_left (rs_inS i_X7_sheet_1 (by decide) m_X7_isSheet rfl (As := [.int v1]) (rest := []) rfl rfl (Nat.le_of_ble_eq_true rfl) u1 (st' := [.int o1.1]) rfl) ?_
  clear SH; have SH := SH2; clear SH2
  by_cases c2 : o1.1 = 0
  · replace hf := (if_pos c2).symm.trans hf
    refine And.imp_left (rs_ifT i_X7_sheet_4 (ct_eq c2) (tg := 16) (by decide)) ?_
    refine And.imp_left (rs_bipush i_X7_sheet_16 (v := (-2)) (by decide)) ?_
    have hf := Option.some.inj hf
    subst hf
    exact ⟨rs_iret i_X7_sheet_18 m_X7_sheet rfl, SH⟩
  · replace hf := (if_neg c2).symm.trans hf
    refine And.imp_left (rs_ifF i_X7_sheet_4 (cf_eq c2)) ?_
    refine And.imp_left (rs_iload_n i_X7_sheet_7 rfl) ?_
    refine And.imp_left (rs_iconst i_X7_sheet_8 (v := (-1)) (by decide)) ?_
    refine And.imp_left (rs_iconst i_X7_sheet_9 (v := 2) (by decide)) ?_
    obtain ⟨o3, e3, hf⟩ := bind_some hf
    obtain ⟨u3, SH2⟩ := k_X7_within (X := X) (d := d) (by omega) (by omega) SH e3
    refine And.imp_left (rs_inS i_X7_sheet_10 (by decide) m_X7_within rfl (As := [.int v2, .int (-1), .int 2]) (rest := []) rfl rfl (Nat.le_of_ble_eq_true rfl) u3 (st' := [.int o3.1]) rfl) ?_
    clear SH; have SH := SH2; clear SH2
    by_cases c4 : o3.1 ≠ 0
    · replace hf := (if_pos c4).symm.trans hf
      refine And.imp_left (rs_ifT i_X7_sheet_13 (ct_ne c4) (tg := 19) (by decide)) ?_
      refine And.imp_left (rs_iload_n i_X7_sheet_19 rfl) ?_
      refine And.imp_left (rs_iconst i_X7_sheet_20 (v := (-1)) (by decide)) ?_
      by_cases c5 : v2 ≠ (-1)
      · replace hf := (if_pos c5).symm.trans hf
        refine And.imp_left (rs_icT i_X7_sheet_21 (ct_ne c5) (tg := 37) (by decide)) ?_
        refine And.imp_left (rs_iload_n i_X7_sheet_37 rfl) ?_
        refine And.imp_left (rs_bipush i_X7_sheet_38 (v := 40) (by decide)) ?_
        by_cases c6 : v3 ≤ 40
        · replace hf := (if_pos c6).symm.trans hf
          refine And.imp_left (rs_icT i_X7_sheet_40 (ct_le c6) (tg := 46) (by decide)) ?_
          refine And.imp_left (rs_iload_n i_X7_sheet_46 rfl) ?_
          by_cases c7 : 0 ≤ v3
          · replace hf := (if_pos c7).symm.trans hf
            refine And.imp_left (rs_ifT i_X7_sheet_47 (ct_ge c7) (tg := 53) (by decide)) ?_
            refine And.imp_left (rs_aload_n i_X7_sheet_53 rfl) ?_
            refine And.imp_left (rs_getR i_X7_sheet_54 (by decide) (by decide) (sO7 SH hh) (sR7_9 SH hh)) ?_
            refine And.imp_left (rs_iload_n i_X7_sheet_57 rfl) ?_
            obtain ⟨c8, hf⟩ := ite_some hf
            refine And.imp_left (rs_aald i_X7_sheet_58 (mkR (sA SH hh (k := 11) (n := 4) (by decide)) (by decide) c8) (sE33 SH hh c8)) ?_
            refine And.imp_left (rs_iload_n i_X7_sheet_59 rfl) ?_
            refine And.imp_left (rs_iload_n i_X7_sheet_60 rfl) ?_
            obtain ⟨o9, e9, hf⟩ := bind_some hf
            obtain ⟨u9, SH2⟩ := k_X4_become (X := X) (d := d) (by omega) (by omega) (oE33 c8) SH e9
            refine And.imp_left (rs_inV i_X7_sheet_61 m_X4_become rfl (As := [.int v2, .int v3]) (rest := []) rfl rfl (Nat.le_of_ble_eq_true rfl) (sO4 SH hh (oE33 c8)) u9 (st' := []) rfl) ?_
            clear SH; have SH := SH2; clear SH2
            refine And.imp_left (rs_iconst i_X7_sheet_64 (v := 1) (by decide)) ?_
            have hf := Option.some.inj hf
            subst hf
            exact ⟨rs_iret i_X7_sheet_65 m_X7_sheet rfl, SH⟩
          · replace hf := (if_neg c7).symm.trans hf
            refine And.imp_left (rs_ifF i_X7_sheet_47 (cf_ge c7)) ?_
            refine And.imp_left (rs_bipush i_X7_sheet_50 (v := (-14)) (by decide)) ?_
            have hf := Option.some.inj hf
            subst hf
            exact ⟨rs_iret i_X7_sheet_52 m_X7_sheet rfl, SH⟩
        · replace hf := (if_neg c6).symm.trans hf
          refine And.imp_left (rs_icF i_X7_sheet_40 (cf_le c6)) ?_
          refine And.imp_left (rs_bipush i_X7_sheet_43 (v := (-2)) (by decide)) ?_
          have hf := Option.some.inj hf
          subst hf
          exact ⟨rs_iret i_X7_sheet_45 m_X7_sheet rfl, SH⟩
      · replace hf := (if_neg c5).symm.trans hf
        refine And.imp_left (rs_icF i_X7_sheet_21 (cf_ne c5)) ?_
        refine And.imp_left (rs_aload_n i_X7_sheet_24 rfl) ?_
        refine And.imp_left (rs_getR i_X7_sheet_25 (by decide) (by decide) (sO7 SH hh) (sR7_9 SH hh)) ?_
        refine And.imp_left (rs_iload_n i_X7_sheet_28 rfl) ?_
        obtain ⟨c10, hf⟩ := ite_some hf
        refine And.imp_left (rs_aald i_X7_sheet_29 (mkR (sA SH hh (k := 11) (n := 4) (by decide)) (by decide) c10) (sE33 SH hh c10)) ?_
        refine And.imp_left (rs_iconst i_X7_sheet_30 (v := (-1)) (by decide)) ?_
        refine And.imp_left (rs_iconst i_X7_sheet_31 (v := 0) (by decide)) ?_
        obtain ⟨o11, e11, hf⟩ := bind_some hf
        obtain ⟨u11, SH2⟩ := k_X4_become (X := X) (d := d) (by omega) (by omega) (oE33 c10) SH e11
        refine And.imp_left (rs_inV i_X7_sheet_32 m_X4_become rfl (As := [.int (-1), .int 0]) (rest := []) rfl rfl (Nat.le_of_ble_eq_true rfl) (sO4 SH hh (oE33 c10)) u11 (st' := []) rfl) ?_
        clear SH; have SH := SH2; clear SH2
        refine And.imp_left (rs_iconst i_X7_sheet_35 (v := 1) (by decide)) ?_
        have hf := Option.some.inj hf
        subst hf
        exact ⟨rs_iret i_X7_sheet_36 m_X7_sheet rfl, SH⟩
    · replace hf := (if_neg c4).symm.trans hf
      refine And.imp_left (rs_ifF i_X7_sheet_13 (cf_ne c4)) ?_
      refine And.imp_left (rs_bipush i_X7_sheet_16 (v := (-2)) (by decide)) ?_
      have hf := Option.some.inj hf
      subst hf
      exact ⟨rs_iret i_X7_sheet_18 m_X7_sheet rfl, SH⟩
noncomputable def g_X7_sheet (n : Nat) (v1 : Int32) (v2 : Int32) (v3 : Int32) (h : Hp) : Option (Int32 × Hp) := g_X7_sheet_0 n v1 v2 v3 h
theorem k_X7_sheet {X : Nat → Int32} {d : Nat} (hd : 2 ≤ d) {L hi : Nat} (hh : 96 ≤ hi) {n : Nat} {v1 : Int32} {v2 : Int32} {v3 : Int32} {h : Hp} {o : (Int32 × Hp)}  (SH : SHP L hi h) (hf : g_X7_sheet n v1 v2 v3 h = some o) : Calls X d 105 [.ref 16, .int v1, .int v2, .int v3] h (some (.int o.1), o.2) ∧ SHP L hi o.2 := by
  obtain ⟨d, rfl⟩ : ∃ z, d = z + 1 := ⟨d - 1, by omega⟩
  obtain ⟨r, S2⟩ := q_X7_sheet_0 hd hh SH hf
  exact ⟨⟨_, rfl, r⟩, S2⟩
noncomputable def g_X7_cell_0 (v1 : Int32) (v2 : Int32) (v3 : Int32) (h : Hp) : Option (Int32 × Hp) :=
  (g_X7_isSheet v1 h).bind fun o1 =>
  if o1.1 ≠ 0 then
    if inb v1 4 = true then
    if (gI o1.2 (72 + 2 * ix v1) 1) ≠ (-1) then
      (g_X4_has (72 + 2 * ix v1) v2 1 o1.2).bind fun o5 =>
      if o5.1 ≠ 0 then
        (g_X4_put (72 + 2 * ix v1) v2 v3 o5.2).bind fun o7 =>
        some (1, o7)
      else
        some ((-12), o5.2)
    else
      some ((-11), o1.2)
    else none
  else
    some ((-2), o1.2)
set_option maxRecDepth 100000 in
set_option maxHeartbeats 4000000 in
theorem q_X7_cell_0 {X : Nat → Int32} {d : Nat} (hd : 2 ≤ (d + 1)) {L hi : Nat} (hh : 96 ≤ hi) {v1 : Int32} {v2 : Int32} {v3 : Int32} {h : Hp} {o : (Int32 × Hp)}  (SH : SHP L hi h) (hf : g_X7_cell_0 v1 v2 v3 h = some o) : Run X (d + 1) 106 0 [some (.ref 16), some (.int v1), some (.int v2), some (.int v3)] [] h (some (.int o.1), o.2) ∧ SHP L hi o.2 := by
  unfold g_X7_cell_0 at hf
  refine And.imp_left (rs_iload_n i_X7_cell_0 rfl) ?_
  obtain ⟨o1, e1, hf⟩ := bind_some hf
  obtain ⟨u1, SH2⟩ := k_X7_isSheet (X := X) (d := d) (by omega) (by omega) SH e1
  refine And.imp_left (rs_inS i_X7_cell_1 (by decide) m_X7_isSheet rfl (As := [.int v1]) (rest := []) rfl rfl (Nat.le_of_ble_eq_true rfl) u1 (st' := [.int o1.1]) rfl) ?_
  clear SH; have SH := SH2; clear SH2
  by_cases c2 : o1.1 ≠ 0
  · replace hf := (if_pos c2).symm.trans hf
    refine And.imp_left (rs_ifT i_X7_cell_4 (ct_ne c2) (tg := 10) (by decide)) ?_
    refine And.imp_left (rs_aload_n i_X7_cell_10 rfl) ?_
    refine And.imp_left (rs_getR i_X7_cell_11 (by decide) (by decide) (sO7 SH hh) (sR7_9 SH hh)) ?_
    refine And.imp_left (rs_iload_n i_X7_cell_14 rfl) ?_
    obtain ⟨c3, hf⟩ := ite_some hf
    refine And.imp_left (rs_aald i_X7_cell_15 (mkR (sA SH hh (k := 11) (n := 4) (by decide)) (by decide) c3) (sE33 SH hh c3)) ?_
    refine And.imp_left (rs_getI i_X7_cell_16 (by decide) (by decide) (sO4 SH hh (oE33 c3))) ?_
    refine And.imp_left (rs_iconst i_X7_cell_19 (v := (-1)) (by decide)) ?_
    by_cases c4 : (gI o1.2 (72 + 2 * ix v1) 1) ≠ (-1)
    · replace hf := (if_pos c4).symm.trans hf
      refine And.imp_left (rs_icT i_X7_cell_20 (ct_ne c4) (tg := 26) (by decide)) ?_
      refine And.imp_left (rs_aload_n i_X7_cell_26 rfl) ?_
      refine And.imp_left (rs_getR i_X7_cell_27 (by decide) (by decide) (sO7 SH hh) (sR7_9 SH hh)) ?_
      refine And.imp_left (rs_iload_n i_X7_cell_30 rfl) ?_
      refine And.imp_left (rs_aald i_X7_cell_31 (mkR (sA SH hh (k := 11) (n := 4) (by decide)) (by decide) c3) (sE33 SH hh c3)) ?_
      refine And.imp_left (rs_iload_n i_X7_cell_32 rfl) ?_
      refine And.imp_left (rs_iconst i_X7_cell_33 (v := 1) (by decide)) ?_
      obtain ⟨o5, e5, hf⟩ := bind_some hf
      obtain ⟨u5, SH2⟩ := k_X4_has (X := X) (d := d) (by omega) (by omega) (oE33 c3) SH e5
      refine And.imp_left (rs_inV i_X7_cell_34 m_X4_has rfl (As := [.int v2, .int 1]) (rest := []) rfl rfl (Nat.le_of_ble_eq_true rfl) (sO4 SH hh (oE33 c3)) u5 (st' := [.int o5.1]) rfl) ?_
      clear SH; have SH := SH2; clear SH2
      by_cases c6 : o5.1 ≠ 0
      · replace hf := (if_pos c6).symm.trans hf
        refine And.imp_left (rs_ifT i_X7_cell_37 (ct_ne c6) (tg := 43) (by decide)) ?_
        refine And.imp_left (rs_aload_n i_X7_cell_43 rfl) ?_
        refine And.imp_left (rs_getR i_X7_cell_44 (by decide) (by decide) (sO7 SH hh) (sR7_9 SH hh)) ?_
        refine And.imp_left (rs_iload_n i_X7_cell_47 rfl) ?_
        refine And.imp_left (rs_aald i_X7_cell_48 (mkR (sA SH hh (k := 11) (n := 4) (by decide)) (by decide) c3) (sE33 SH hh c3)) ?_
        refine And.imp_left (rs_iload_n i_X7_cell_49 rfl) ?_
        refine And.imp_left (rs_iload_n i_X7_cell_50 rfl) ?_
        obtain ⟨o7, e7, hf⟩ := bind_some hf
        obtain ⟨u7, SH2⟩ := k_X4_put (X := X) (d := d) (by omega) (by omega) (oE33 c3) SH e7
        refine And.imp_left (rs_inV i_X7_cell_51 m_X4_put rfl (As := [.int v2, .int v3]) (rest := []) rfl rfl (Nat.le_of_ble_eq_true rfl) (sO4 SH hh (oE33 c3)) u7 (st' := []) rfl) ?_
        clear SH; have SH := SH2; clear SH2
        refine And.imp_left (rs_iconst i_X7_cell_54 (v := 1) (by decide)) ?_
        have hf := Option.some.inj hf
        subst hf
        exact ⟨rs_iret i_X7_cell_55 m_X7_cell rfl, SH⟩
      · replace hf := (if_neg c6).symm.trans hf
        refine And.imp_left (rs_ifF i_X7_cell_37 (cf_ne c6)) ?_
        refine And.imp_left (rs_bipush i_X7_cell_40 (v := (-12)) (by decide)) ?_
        have hf := Option.some.inj hf
        subst hf
        exact ⟨rs_iret i_X7_cell_42 m_X7_cell rfl, SH⟩
    · replace hf := (if_neg c4).symm.trans hf
      refine And.imp_left (rs_icF i_X7_cell_20 (cf_ne c4)) ?_
      refine And.imp_left (rs_bipush i_X7_cell_23 (v := (-11)) (by decide)) ?_
      have hf := Option.some.inj hf
      subst hf
      exact ⟨rs_iret i_X7_cell_25 m_X7_cell rfl, SH⟩
  · replace hf := (if_neg c2).symm.trans hf
    refine And.imp_left (rs_ifF i_X7_cell_4 (cf_ne c2)) ?_
    refine And.imp_left (rs_bipush i_X7_cell_7 (v := (-2)) (by decide)) ?_
    have hf := Option.some.inj hf
    subst hf
    exact ⟨rs_iret i_X7_cell_9 m_X7_cell rfl, SH⟩
noncomputable def g_X7_cell (v1 : Int32) (v2 : Int32) (v3 : Int32) (h : Hp) : Option (Int32 × Hp) := g_X7_cell_0 v1 v2 v3 h
theorem k_X7_cell {X : Nat → Int32} {d : Nat} (hd : 2 ≤ d) {L hi : Nat} (hh : 96 ≤ hi) {v1 : Int32} {v2 : Int32} {v3 : Int32} {h : Hp} {o : (Int32 × Hp)}  (SH : SHP L hi h) (hf : g_X7_cell v1 v2 v3 h = some o) : Calls X d 106 [.ref 16, .int v1, .int v2, .int v3] h (some (.int o.1), o.2) ∧ SHP L hi o.2 := by
  obtain ⟨d, rfl⟩ : ∃ z, d = z + 1 := ⟨d - 1, by omega⟩
  obtain ⟨r, S2⟩ := q_X7_cell_0 hd hh SH hf
  exact ⟨⟨_, rfl, r⟩, S2⟩
noncomputable def g_X7_copy_0 (v1 : Int32) (v2 : Int32) (v3 : Int32) (v4 : Int32) (v5 : Int32) (h : Hp) : Option (Int32 × Hp) :=
  (g_X7_isSheet v1 h).bind fun o1 =>
  if o1.1 = 0 then
    some ((-2), o1.2)
  else
    (g_X7_isSheet v3 o1.2).bind fun o3 =>
    if o3.1 ≠ 0 then
      if inb v1 4 = true then
      if (gI o3.2 (72 + 2 * ix v1) 1) = (-1) then
        some ((-11), o3.2)
      else
        if inb v3 4 = true then
        if (gI o3.2 (72 + 2 * ix v3) 1) ≠ (-1) then
          if (gI o3.2 (72 + 2 * ix v1) 1) = (gI o3.2 (72 + 2 * ix v3) 1) then
            (g_X4_has (72 + 2 * ix v1) v2 v5 o3.2).bind fun o10 =>
            if o10.1 = 0 then
              some ((-12), o10.2)
            else
              (g_X4_has (72 + 2 * ix v3) v4 v5 o10.2).bind fun o12 =>
              if o12.1 ≠ 0 then
                if cpOk v2 40 v4 40 v5 then
                some (v5, (hcp o12.2 ((72 + 2 * ix v1) + 1) (ix v2) ((72 + 2 * ix v3) + 1) (ix v4) (ix v5)))
                else none
              else
                some ((-12), o12.2)
          else
            some ((-13), o3.2)
        else
          some ((-11), o3.2)
        else none
      else none
    else
      some ((-2), o3.2)
set_option maxRecDepth 100000 in
set_option maxHeartbeats 4000000 in
theorem q_X7_copy_0 {X : Nat → Int32} {d : Nat} (hd : 2 ≤ (d + 1)) {L hi : Nat} (hh : 96 ≤ hi) {v1 : Int32} {v2 : Int32} {v3 : Int32} {v4 : Int32} {v5 : Int32} {h : Hp} {o : (Int32 × Hp)}  (SH : SHP L hi h) (hf : g_X7_copy_0 v1 v2 v3 v4 v5 h = some o) : Run X (d + 1) 107 0 [some (.ref 16), some (.int v1), some (.int v2), some (.int v3), some (.int v4), some (.int v5)] [] h (some (.int o.1), o.2) ∧ SHP L hi o.2 := by
  unfold g_X7_copy_0 at hf
  refine And.imp_left (rs_iload_n i_X7_copy_0 rfl) ?_
  obtain ⟨o1, e1, hf⟩ := bind_some hf
  obtain ⟨u1, SH2⟩ := k_X7_isSheet (X := X) (d := d) (by omega) (by omega) SH e1
  refine And.imp_left (rs_inS i_X7_copy_1 (by decide) m_X7_isSheet rfl (As := [.int v1]) (rest := []) rfl rfl (Nat.le_of_ble_eq_true rfl) u1 (st' := [.int o1.1]) rfl) ?_
  clear SH; have SH := SH2; clear SH2
  by_cases c2 : o1.1 = 0
  · replace hf := (if_pos c2).symm.trans hf
    refine And.imp_left (rs_ifT i_X7_copy_4 (ct_eq c2) (tg := 14) (by decide)) ?_
    refine And.imp_left (rs_bipush i_X7_copy_14 (v := (-2)) (by decide)) ?_
    have hf := Option.some.inj hf
    subst hf
    exact ⟨rs_iret i_X7_copy_16 m_X7_copy rfl, SH⟩
  · replace hf := (if_neg c2).symm.trans hf
    refine And.imp_left (rs_ifF i_X7_copy_4 (cf_eq c2)) ?_
    refine And.imp_left (rs_iload_n i_X7_copy_7 rfl) ?_
    obtain ⟨o3, e3, hf⟩ := bind_some hf
    obtain ⟨u3, SH2⟩ := k_X7_isSheet (X := X) (d := d) (by omega) (by omega) SH e3
    refine And.imp_left (rs_inS i_X7_copy_8 (by decide) m_X7_isSheet rfl (As := [.int v3]) (rest := []) rfl rfl (Nat.le_of_ble_eq_true rfl) u3 (st' := [.int o3.1]) rfl) ?_
    clear SH; have SH := SH2; clear SH2
    by_cases c4 : o3.1 ≠ 0
    · replace hf := (if_pos c4).symm.trans hf
      refine And.imp_left (rs_ifT i_X7_copy_11 (ct_ne c4) (tg := 17) (by decide)) ?_
      refine And.imp_left (rs_aload_n i_X7_copy_17 rfl) ?_
      refine And.imp_left (rs_getR i_X7_copy_18 (by decide) (by decide) (sO7 SH hh) (sR7_9 SH hh)) ?_
      refine And.imp_left (rs_iload_n i_X7_copy_21 rfl) ?_
      obtain ⟨c5, hf⟩ := ite_some hf
      refine And.imp_left (rs_aald i_X7_copy_22 (mkR (sA SH hh (k := 11) (n := 4) (by decide)) (by decide) c5) (sE33 SH hh c5)) ?_
      refine And.imp_left (rs_getI i_X7_copy_23 (by decide) (by decide) (sO4 SH hh (oE33 c5))) ?_
      refine And.imp_left (rs_iconst i_X7_copy_26 (v := (-1)) (by decide)) ?_
      by_cases c6 : (gI o3.2 (72 + 2 * ix v1) 1) = (-1)
      · replace hf := (if_pos c6).symm.trans hf
        refine And.imp_left (rs_icT i_X7_copy_27 (ct_eq c6) (tg := 43) (by decide)) ?_
        refine And.imp_left (rs_bipush i_X7_copy_43 (v := (-11)) (by decide)) ?_
        have hf := Option.some.inj hf
        subst hf
        exact ⟨rs_iret i_X7_copy_45 m_X7_copy rfl, SH⟩
      · replace hf := (if_neg c6).symm.trans hf
        refine And.imp_left (rs_icF i_X7_copy_27 (cf_eq c6)) ?_
        refine And.imp_left (rs_aload_n i_X7_copy_30 rfl) ?_
        refine And.imp_left (rs_getR i_X7_copy_31 (by decide) (by decide) (sO7 SH hh) (sR7_9 SH hh)) ?_
        refine And.imp_left (rs_iload_n i_X7_copy_34 rfl) ?_
        obtain ⟨c7, hf⟩ := ite_some hf
        refine And.imp_left (rs_aald i_X7_copy_35 (mkR (sA SH hh (k := 11) (n := 4) (by decide)) (by decide) c7) (sE33 SH hh c7)) ?_
        refine And.imp_left (rs_getI i_X7_copy_36 (by decide) (by decide) (sO4 SH hh (oE33 c7))) ?_
        refine And.imp_left (rs_iconst i_X7_copy_39 (v := (-1)) (by decide)) ?_
        by_cases c8 : (gI o3.2 (72 + 2 * ix v3) 1) ≠ (-1)
        · replace hf := (if_pos c8).symm.trans hf
          refine And.imp_left (rs_icT i_X7_copy_40 (ct_ne c8) (tg := 46) (by decide)) ?_
          refine And.imp_left (rs_aload_n i_X7_copy_46 rfl) ?_
          refine And.imp_left (rs_getR i_X7_copy_47 (by decide) (by decide) (sO7 SH hh) (sR7_9 SH hh)) ?_
          refine And.imp_left (rs_iload_n i_X7_copy_50 rfl) ?_
          refine And.imp_left (rs_aald i_X7_copy_51 (mkR (sA SH hh (k := 11) (n := 4) (by decide)) (by decide) c5) (sE33 SH hh c5)) ?_
          refine And.imp_left (rs_getI i_X7_copy_52 (by decide) (by decide) (sO4 SH hh (oE33 c5))) ?_
          refine And.imp_left (rs_aload_n i_X7_copy_55 rfl) ?_
          refine And.imp_left (rs_getR i_X7_copy_56 (by decide) (by decide) (sO7 SH hh) (sR7_9 SH hh)) ?_
          refine And.imp_left (rs_iload_n i_X7_copy_59 rfl) ?_
          refine And.imp_left (rs_aald i_X7_copy_60 (mkR (sA SH hh (k := 11) (n := 4) (by decide)) (by decide) c7) (sE33 SH hh c7)) ?_
          refine And.imp_left (rs_getI i_X7_copy_61 (by decide) (by decide) (sO4 SH hh (oE33 c7))) ?_
          by_cases c9 : (gI o3.2 (72 + 2 * ix v1) 1) = (gI o3.2 (72 + 2 * ix v3) 1)
          · replace hf := (if_pos c9).symm.trans hf
            refine And.imp_left (rs_icT i_X7_copy_64 (ct_eq c9) (tg := 70) (by decide)) ?_
            refine And.imp_left (rs_aload_n i_X7_copy_70 rfl) ?_
            refine And.imp_left (rs_getR i_X7_copy_71 (by decide) (by decide) (sO7 SH hh) (sR7_9 SH hh)) ?_
            refine And.imp_left (rs_iload_n i_X7_copy_74 rfl) ?_
            refine And.imp_left (rs_aald i_X7_copy_75 (mkR (sA SH hh (k := 11) (n := 4) (by decide)) (by decide) c5) (sE33 SH hh c5)) ?_
            refine And.imp_left (rs_iload_n i_X7_copy_76 rfl) ?_
            refine And.imp_left (rs_iload i_X7_copy_77 rfl) ?_
            obtain ⟨o10, e10, hf⟩ := bind_some hf
            obtain ⟨u10, SH2⟩ := k_X4_has (X := X) (d := d) (by omega) (by omega) (oE33 c5) SH e10
            refine And.imp_left (rs_inV i_X7_copy_79 m_X4_has rfl (As := [.int v2, .int v5]) (rest := []) rfl rfl (Nat.le_of_ble_eq_true rfl) (sO4 SH hh (oE33 c5)) u10 (st' := [.int o10.1]) rfl) ?_
            clear SH; have SH := SH2; clear SH2
            by_cases c11 : o10.1 = 0
            · replace hf := (if_pos c11).symm.trans hf
              refine And.imp_left (rs_ifT i_X7_copy_82 (ct_eq c11) (tg := 101) (by decide)) ?_
              refine And.imp_left (rs_bipush i_X7_copy_101 (v := (-12)) (by decide)) ?_
              have hf := Option.some.inj hf
              subst hf
              exact ⟨rs_iret i_X7_copy_103 m_X7_copy rfl, SH⟩
            · replace hf := (if_neg c11).symm.trans hf
              refine And.imp_left (rs_ifF i_X7_copy_82 (cf_eq c11)) ?_
              refine And.imp_left (rs_aload_n i_X7_copy_85 rfl) ?_
              refine And.imp_left (rs_getR i_X7_copy_86 (by decide) (by decide) (sO7 SH hh) (sR7_9 SH hh)) ?_
              refine And.imp_left (rs_iload_n i_X7_copy_89 rfl) ?_
              refine And.imp_left (rs_aald i_X7_copy_90 (mkR (sA SH hh (k := 11) (n := 4) (by decide)) (by decide) c7) (sE33 SH hh c7)) ?_
              refine And.imp_left (rs_iload i_X7_copy_91 rfl) ?_
              refine And.imp_left (rs_iload i_X7_copy_93 rfl) ?_
              obtain ⟨o12, e12, hf⟩ := bind_some hf
              obtain ⟨u12, SH2⟩ := k_X4_has (X := X) (d := d) (by omega) (by omega) (oE33 c7) SH e12
              refine And.imp_left (rs_inV i_X7_copy_95 m_X4_has rfl (As := [.int v4, .int v5]) (rest := []) rfl rfl (Nat.le_of_ble_eq_true rfl) (sO4 SH hh (oE33 c7)) u12 (st' := [.int o12.1]) rfl) ?_
              clear SH; have SH := SH2; clear SH2
              by_cases c13 : o12.1 ≠ 0
              · replace hf := (if_pos c13).symm.trans hf
                refine And.imp_left (rs_ifT i_X7_copy_98 (ct_ne c13) (tg := 104) (by decide)) ?_
                refine And.imp_left (rs_aload_n i_X7_copy_104 rfl) ?_
                refine And.imp_left (rs_getR i_X7_copy_105 (by decide) (by decide) (sO7 SH hh) (sR7_9 SH hh)) ?_
                refine And.imp_left (rs_iload_n i_X7_copy_108 rfl) ?_
                refine And.imp_left (rs_aald i_X7_copy_109 (mkR (sA SH hh (k := 11) (n := 4) (by decide)) (by decide) c5) (sE33 SH hh c5)) ?_
                refine And.imp_left (rs_getR i_X7_copy_110 (by decide) (by decide) (sO4 SH hh (oE33 c5)) (sR4_0 SH hh (oE33 c5))) ?_
                refine And.imp_left (rs_iload_n i_X7_copy_113 rfl) ?_
                refine And.imp_left (rs_aload_n i_X7_copy_114 rfl) ?_
                refine And.imp_left (rs_getR i_X7_copy_115 (by decide) (by decide) (sO7 SH hh) (sR7_9 SH hh)) ?_
                refine And.imp_left (rs_iload_n i_X7_copy_118 rfl) ?_
                refine And.imp_left (rs_aald i_X7_copy_119 (mkR (sA SH hh (k := 11) (n := 4) (by decide)) (by decide) c7) (sE33 SH hh c7)) ?_
                refine And.imp_left (rs_getR i_X7_copy_120 (by decide) (by decide) (sO4 SH hh (oE33 c7)) (sR4_0 SH hh (oE33 c7))) ?_
                refine And.imp_left (rs_iload i_X7_copy_123 rfl) ?_
                refine And.imp_left (rs_iload i_X7_copy_125 rfl) ?_
                obtain ⟨c14, hf⟩ := ite_some hf
                refine And.imp_left (rs_acp i_X7_copy_127 (mkCp (sA SH hh (k := 9) (n := 40) (aR4_0 (oE33 c5))) (sA SH hh (k := 9) (n := 40) (aR4_0 (oE33 c7))) c14) (Nat.le_of_ble_eq_true rfl)) ?_
                have SH := shc SH ((72 + 2 * ix v1) + 1) (ix v2) ((72 + 2 * ix v3) + 1) (ix v4) (ix v5)
                refine And.imp_left (rs_iload i_X7_copy_130 rfl) ?_
                have hf := Option.some.inj hf
                subst hf
                exact ⟨rs_iret i_X7_copy_132 m_X7_copy rfl, SH⟩
              · replace hf := (if_neg c13).symm.trans hf
                refine And.imp_left (rs_ifF i_X7_copy_98 (cf_ne c13)) ?_
                refine And.imp_left (rs_bipush i_X7_copy_101 (v := (-12)) (by decide)) ?_
                have hf := Option.some.inj hf
                subst hf
                exact ⟨rs_iret i_X7_copy_103 m_X7_copy rfl, SH⟩
          · replace hf := (if_neg c9).symm.trans hf
            refine And.imp_left (rs_icF i_X7_copy_64 (cf_eq c9)) ?_
            refine And.imp_left (rs_bipush i_X7_copy_67 (v := (-13)) (by decide)) ?_
            have hf := Option.some.inj hf
            subst hf
            exact ⟨rs_iret i_X7_copy_69 m_X7_copy rfl, SH⟩
        · replace hf := (if_neg c8).symm.trans hf
          refine And.imp_left (rs_icF i_X7_copy_40 (cf_ne c8)) ?_
          refine And.imp_left (rs_bipush i_X7_copy_43 (v := (-11)) (by decide)) ?_
          have hf := Option.some.inj hf
          subst hf
          exact ⟨rs_iret i_X7_copy_45 m_X7_copy rfl, SH⟩
    · replace hf := (if_neg c4).symm.trans hf
      refine And.imp_left (rs_ifF i_X7_copy_11 (cf_ne c4)) ?_
      refine And.imp_left (rs_bipush i_X7_copy_14 (v := (-2)) (by decide)) ?_
      have hf := Option.some.inj hf
      subst hf
      exact ⟨rs_iret i_X7_copy_16 m_X7_copy rfl, SH⟩
noncomputable def g_X7_copy (v1 : Int32) (v2 : Int32) (v3 : Int32) (v4 : Int32) (v5 : Int32) (h : Hp) : Option (Int32 × Hp) := g_X7_copy_0 v1 v2 v3 v4 v5 h
theorem k_X7_copy {X : Nat → Int32} {d : Nat} (hd : 2 ≤ d) {L hi : Nat} (hh : 96 ≤ hi) {v1 : Int32} {v2 : Int32} {v3 : Int32} {v4 : Int32} {v5 : Int32} {h : Hp} {o : (Int32 × Hp)}  (SH : SHP L hi h) (hf : g_X7_copy v1 v2 v3 v4 v5 h = some o) : Calls X d 107 [.ref 16, .int v1, .int v2, .int v3, .int v4, .int v5] h (some (.int o.1), o.2) ∧ SHP L hi o.2 := by
  obtain ⟨d, rfl⟩ : ∃ z, d = z + 1 := ⟨d - 1, by omega⟩
  obtain ⟨r, S2⟩ := q_X7_copy_0 hd hh SH hf
  exact ⟨⟨_, rfl, r⟩, S2⟩
noncomputable def g_X7_stepsBy_136 (n : Nat) (K71 : Int32 → Int32 → Int32 → Int32 → Int32 → Hp → Option (Int32 × Hp)) (v1 : Int32) (v4 : Int32) (v5 : Int32) (v6 : Int32) (v7 : Int32) (h : Hp) : Option (Int32 × Hp) :=
  K71 v1 v4 v5 (v6 + 3) (v7 + 1) h
set_option maxRecDepth 100000 in
set_option maxHeartbeats 4000000 in
theorem q_X7_stepsBy_136 {X : Nat → Int32} {d : Nat} (hd : 2 ≤ (d + 1)) {L hi : Nat} (hh : 96 ≤ hi) {n : Nat} {K71 : Int32 → Int32 → Int32 → Int32 → Int32 → Hp → Option (Int32 × Hp)} (HK71 : ∀ (v1 : Int32) (v4 : Int32) (v5 : Int32) (v6 : Int32) (v7 : Int32) (d2 : Int32) (d3 : Int32) (w8 : Option Value) (h : Hp) (o : (Int32 × Hp)), SHP L hi h → K71 v1 v4 v5 v6 v7 h = some o → Run X (d + 1) 108 71 [some (.ref 16), some (.int v1), some (.int d2), some (.int d3), some (.int v4), some (.int v5), some (.int v6), some (.int v7), w8] [] h (some (.int o.1), o.2) ∧ SHP L hi o.2) {v1 : Int32} {v4 : Int32} {v5 : Int32} {v6 : Int32} {v7 : Int32} {d2 : Int32} {d3 : Int32} {d8 : Nat} {h : Hp} {o : (Int32 × Hp)}  (SH : SHP L hi h) (hf : g_X7_stepsBy_136 n K71 v1 v4 v5 v6 v7 h = some o) : Run X (d + 1) 108 136 [some (.ref 16), some (.int v1), some (.int d2), some (.int d3), some (.int v4), some (.int v5), some (.int v6), some (.int v7), some (.ref d8)] [] h (some (.int o.1), o.2) ∧ SHP L hi o.2 := by
  unfold g_X7_stepsBy_136 at hf
  refine And.imp_left (rs_iinc i_X7_stepsBy_136 rfl (v := v6 + 3) rfl (Nat.le_of_ble_eq_true rfl) (lv' := [some (.ref 16), some (.int v1), some (.int d2), some (.int d3), some (.int v4), some (.int v5), some (.int (v6 + 3)), some (.int v7), some (.ref d8)]) rfl) ?_
  refine And.imp_left (rs_iinc i_X7_stepsBy_139 rfl (v := v7 + 1) rfl (Nat.le_of_ble_eq_true rfl) (lv' := [some (.ref 16), some (.int v1), some (.int d2), some (.int d3), some (.int v4), some (.int v5), some (.int (v6 + 3)), some (.int (v7 + 1)), some (.ref d8)]) rfl) ?_
  refine And.imp_left (rs_goto i_X7_stepsBy_142 (tg := 71) (by decide)) ?_
  exact HK71 _ _ _ _ _ _ _ _ _ _ SH hf
noncomputable def g_X7_stepsBy_71 (n : Nat) : Nat → Int32 → Int32 → Int32 → Int32 → Int32 → Hp → Option (Int32 × Hp)
  | 0, _, _, _, _, _, _ => none
  | m + 1, v1, v4, v5, v6, v7, h =>
    if v4 ≤ v7 then
      some (v5, h)
    else
      if inb v1 4 = true then
      (g_X4_has (72 + 2 * ix v1) v6 3 h).bind fun o3 =>
      if o3.1 ≠ 0 then
        if inb v6 40 = true then
        if inb (v6 + 1) 40 = true then
        if inb (v6 + 2) 40 = true then
        (g_X7_step (gI o3.2 ((72 + 2 * ix v1) + 1) (ix v6)) (gI o3.2 ((72 + 2 * ix v1) + 1) (ix (v6 + 1))) (gI o3.2 ((72 + 2 * ix v1) + 1) (ix (v6 + 2))) o3.2).bind fun o8 =>
        if o8.1 < 0 then
          g_X7_stepsBy_136 n (g_X7_stepsBy_71 n m) v1 v4 v5 v6 v7 o8.2
        else
          g_X7_stepsBy_136 n (g_X7_stepsBy_71 n m) v1 v4 (v5 + 1) v6 v7 o8.2
        else none
        else none
        else none
      else
        some ((-12), o3.2)
      else none
set_option maxRecDepth 100000 in
set_option maxHeartbeats 4000000 in
theorem q_X7_stepsBy_71 {X : Nat → Int32} {d : Nat} (hd : 2 ≤ (d + 1)) {L hi : Nat} (hh : 96 ≤ hi) {n : Nat} : ∀ (m : Nat) (v1 : Int32) (v4 : Int32) (v5 : Int32) (v6 : Int32) (v7 : Int32) (d2 : Int32) (d3 : Int32) (w8 : Option Value) (h : Hp) (o : (Int32 × Hp)), SHP L hi h → g_X7_stepsBy_71 n m v1 v4 v5 v6 v7 h = some o → Run X (d + 1) 108 71 [some (.ref 16), some (.int v1), some (.int d2), some (.int d3), some (.int v4), some (.int v5), some (.int v6), some (.int v7), w8] [] h (some (.int o.1), o.2) ∧ SHP L hi o.2 := by
  intro m
  induction m with
  | zero => intro v1 v4 v5 v6 v7 d2 d3 w8 h o SH hf; cases hf
  | succ m ih =>
    intro v1 v4 v5 v6 v7 d2 d3 w8 h o SH hf
    rw [g_X7_stepsBy_71] at hf
    refine And.imp_left (rs_iload i_X7_stepsBy_71 rfl) ?_
    refine And.imp_left (rs_iload i_X7_stepsBy_73 rfl) ?_
    by_cases c1 : v4 ≤ v7
    · replace hf := (if_pos c1).symm.trans hf
      refine And.imp_left (rs_icT i_X7_stepsBy_75 (ct_ge c1) (tg := 145) (by decide)) ?_
      refine And.imp_left (rs_iload i_X7_stepsBy_145 rfl) ?_
      have hf := Option.some.inj hf
      subst hf
      exact ⟨rs_iret i_X7_stepsBy_147 m_X7_stepsBy rfl, SH⟩
    · replace hf := (if_neg c1).symm.trans hf
      refine And.imp_left (rs_icF i_X7_stepsBy_75 (cf_ge c1)) ?_
      refine And.imp_left (rs_aload_n i_X7_stepsBy_78 rfl) ?_
      refine And.imp_left (rs_getR i_X7_stepsBy_79 (by decide) (by decide) (sO7 SH hh) (sR7_9 SH hh)) ?_
      refine And.imp_left (rs_iload_n i_X7_stepsBy_82 rfl) ?_
      obtain ⟨c2, hf⟩ := ite_some hf
      refine And.imp_left (rs_aald i_X7_stepsBy_83 (mkR (sA SH hh (k := 11) (n := 4) (by decide)) (by decide) c2) (sE33 SH hh c2)) ?_
      refine And.imp_left (rs_iload i_X7_stepsBy_84 rfl) ?_
      refine And.imp_left (rs_iconst i_X7_stepsBy_86 (v := 3) (by decide)) ?_
      obtain ⟨o3, e3, hf⟩ := bind_some hf
      obtain ⟨u3, SH2⟩ := k_X4_has (X := X) (d := d) (by omega) (by omega) (oE33 c2) SH e3
      refine And.imp_left (rs_inV i_X7_stepsBy_87 m_X4_has rfl (As := [.int v6, .int 3]) (rest := []) rfl rfl (Nat.le_of_ble_eq_true rfl) (sO4 SH hh (oE33 c2)) u3 (st' := [.int o3.1]) rfl) ?_
      clear SH; have SH := SH2; clear SH2
      by_cases c4 : o3.1 ≠ 0
      · replace hf := (if_pos c4).symm.trans hf
        refine And.imp_left (rs_ifT i_X7_stepsBy_90 (ct_ne c4) (tg := 96) (by decide)) ?_
        refine And.imp_left (rs_aload_n i_X7_stepsBy_96 rfl) ?_
        refine And.imp_left (rs_getR i_X7_stepsBy_97 (by decide) (by decide) (sO7 SH hh) (sR7_9 SH hh)) ?_
        refine And.imp_left (rs_iload_n i_X7_stepsBy_100 rfl) ?_
        refine And.imp_left (rs_aald i_X7_stepsBy_101 (mkR (sA SH hh (k := 11) (n := 4) (by decide)) (by decide) c2) (sE33 SH hh c2)) ?_
        refine And.imp_left (rs_getR i_X7_stepsBy_102 (by decide) (by decide) (sO4 SH hh (oE33 c2)) (sR4_0 SH hh (oE33 c2))) ?_
        refine And.imp_left (rs_astore i_X7_stepsBy_105 (Nat.le_of_ble_eq_true rfl) (lv' := [some (.ref 16), some (.int v1), some (.int d2), some (.int d3), some (.int v4), some (.int v5), some (.int v6), some (.int v7), some (.ref ((72 + 2 * ix v1) + 1))]) rfl) ?_
        refine And.imp_left (rs_aload_n i_X7_stepsBy_107 rfl) ?_
        refine And.imp_left (rs_aload i_X7_stepsBy_108 rfl) ?_
        refine And.imp_left (rs_iload i_X7_stepsBy_110 rfl) ?_
        obtain ⟨c5, hf⟩ := ite_some hf
        refine And.imp_left (rs_iald i_X7_stepsBy_112 (mkI (sA SH hh (k := 9) (n := 40) (aR4_0 (oE33 c2))) c5)) ?_
        refine And.imp_left (rs_aload i_X7_stepsBy_113 rfl) ?_
        refine And.imp_left (rs_iload i_X7_stepsBy_115 rfl) ?_
        refine And.imp_left (rs_iconst i_X7_stepsBy_117 (v := 1) (by decide)) ?_
        refine And.imp_left (rs_iadd i_X7_stepsBy_118) ?_
        obtain ⟨c6, hf⟩ := ite_some hf
        refine And.imp_left (rs_iald i_X7_stepsBy_119 (mkI (sA SH hh (k := 9) (n := 40) (aR4_0 (oE33 c2))) c6)) ?_
        refine And.imp_left (rs_aload i_X7_stepsBy_120 rfl) ?_
        refine And.imp_left (rs_iload i_X7_stepsBy_122 rfl) ?_
        refine And.imp_left (rs_iconst i_X7_stepsBy_124 (v := 2) (by decide)) ?_
        refine And.imp_left (rs_iadd i_X7_stepsBy_125) ?_
        obtain ⟨c7, hf⟩ := ite_some hf
        refine And.imp_left (rs_iald i_X7_stepsBy_126 (mkI (sA SH hh (k := 9) (n := 40) (aR4_0 (oE33 c2))) c7)) ?_
        obtain ⟨o8, e8, hf⟩ := bind_some hf
        obtain ⟨u8, SH2⟩ := k_X7_step (X := X) (d := d) (by omega) (by omega) SH e8
        refine And.imp_left (rs_inV i_X7_stepsBy_127 m_X7_step rfl (As := [.int (gI o3.2 ((72 + 2 * ix v1) + 1) (ix v6)), .int (gI o3.2 ((72 + 2 * ix v1) + 1) (ix (v6 + 1))), .int (gI o3.2 ((72 + 2 * ix v1) + 1) (ix (v6 + 2)))]) (rest := []) rfl rfl (Nat.le_of_ble_eq_true rfl) (sO7 SH hh) u8 (st' := [.int o8.1]) rfl) ?_
        clear SH; have SH := SH2; clear SH2
        by_cases c9 : o8.1 < 0
        · replace hf := (if_pos c9).symm.trans hf
          refine And.imp_left (rs_ifT i_X7_stepsBy_130 (ct_lt c9) (tg := 136) (by decide)) ?_
          exact q_X7_stepsBy_136 hd hh ih SH hf
        · replace hf := (if_neg c9).symm.trans hf
          refine And.imp_left (rs_ifF i_X7_stepsBy_130 (cf_lt c9)) ?_
          refine And.imp_left (rs_iinc i_X7_stepsBy_133 rfl (v := v5 + 1) rfl (Nat.le_of_ble_eq_true rfl) (lv' := [some (.ref 16), some (.int v1), some (.int d2), some (.int d3), some (.int v4), some (.int (v5 + 1)), some (.int v6), some (.int v7), some (.ref ((72 + 2 * ix v1) + 1))]) rfl) ?_
          exact q_X7_stepsBy_136 hd hh ih SH hf
      · replace hf := (if_neg c4).symm.trans hf
        refine And.imp_left (rs_ifF i_X7_stepsBy_90 (cf_ne c4)) ?_
        refine And.imp_left (rs_bipush i_X7_stepsBy_93 (v := (-12)) (by decide)) ?_
        have hf := Option.some.inj hf
        subst hf
        exact ⟨rs_iret i_X7_stepsBy_95 m_X7_stepsBy rfl, SH⟩
noncomputable def g_X7_stepsBy_0 (n : Nat) (v1 : Int32) (v2 : Int32) (v3 : Int32) (v4 : Int32) (h : Hp) : Option (Int32 × Hp) :=
  (g_X7_isSheet v1 h).bind fun o1 =>
  if o1.1 = 0 then
    some ((-2), o1.2)
  else
    (g_X7_within v2 0 2 o1.2).bind fun o3 =>
    if o3.1 = 0 then
      some ((-2), o3.2)
    else
      (g_X7_within v4 0 12 o3.2).bind fun o5 =>
      if o5.1 ≠ 0 then
        if inb v1 4 = true then
        if (gI o5.2 (72 + 2 * ix v1) 1) ≠ (-1) then
          if (gI o5.2 (72 + 2 * ix v1) 1) = v2 then
            g_X7_stepsBy_71 n n v1 v4 0 v3 0 o5.2
          else
            some ((-13), o5.2)
        else
          some ((-11), o5.2)
        else none
      else
        some ((-2), o5.2)
set_option maxRecDepth 100000 in
set_option maxHeartbeats 4000000 in
theorem q_X7_stepsBy_0 {X : Nat → Int32} {d : Nat} (hd : 2 ≤ (d + 1)) {L hi : Nat} (hh : 96 ≤ hi) {n : Nat} {v1 : Int32} {v2 : Int32} {v3 : Int32} {v4 : Int32} {h : Hp} {o : (Int32 × Hp)}  (SH : SHP L hi h) (hf : g_X7_stepsBy_0 n v1 v2 v3 v4 h = some o) : Run X (d + 1) 108 0 [some (.ref 16), some (.int v1), some (.int v2), some (.int v3), some (.int v4), none, none, none, none] [] h (some (.int o.1), o.2) ∧ SHP L hi o.2 := by
  unfold g_X7_stepsBy_0 at hf
  refine And.imp_left (rs_iload_n i_X7_stepsBy_0 rfl) ?_
  obtain ⟨o1, e1, hf⟩ := bind_some hf
  obtain ⟨u1, SH2⟩ := k_X7_isSheet (X := X) (d := d) (by omega) (by omega) SH e1
  refine And.imp_left (rs_inS i_X7_stepsBy_1 (by decide) m_X7_isSheet rfl (As := [.int v1]) (rest := []) rfl rfl (Nat.le_of_ble_eq_true rfl) u1 (st' := [.int o1.1]) rfl) ?_
  clear SH; have SH := SH2; clear SH2
  by_cases c2 : o1.1 = 0
  · replace hf := (if_pos c2).symm.trans hf
    refine And.imp_left (rs_ifT i_X7_stepsBy_4 (ct_eq c2) (tg := 27) (by decide)) ?_
    refine And.imp_left (rs_bipush i_X7_stepsBy_27 (v := (-2)) (by decide)) ?_
    have hf := Option.some.inj hf
    subst hf
    exact ⟨rs_iret i_X7_stepsBy_29 m_X7_stepsBy rfl, SH⟩
  · replace hf := (if_neg c2).symm.trans hf
    refine And.imp_left (rs_ifF i_X7_stepsBy_4 (cf_eq c2)) ?_
    refine And.imp_left (rs_iload_n i_X7_stepsBy_7 rfl) ?_
    refine And.imp_left (rs_iconst i_X7_stepsBy_8 (v := 0) (by decide)) ?_
    refine And.imp_left (rs_iconst i_X7_stepsBy_9 (v := 2) (by decide)) ?_
    obtain ⟨o3, e3, hf⟩ := bind_some hf
    obtain ⟨u3, SH2⟩ := k_X7_within (X := X) (d := d) (by omega) (by omega) SH e3
    refine And.imp_left (rs_inS i_X7_stepsBy_10 (by decide) m_X7_within rfl (As := [.int v2, .int 0, .int 2]) (rest := []) rfl rfl (Nat.le_of_ble_eq_true rfl) u3 (st' := [.int o3.1]) rfl) ?_
    clear SH; have SH := SH2; clear SH2
    by_cases c4 : o3.1 = 0
    · replace hf := (if_pos c4).symm.trans hf
      refine And.imp_left (rs_ifT i_X7_stepsBy_13 (ct_eq c4) (tg := 27) (by decide)) ?_
      refine And.imp_left (rs_bipush i_X7_stepsBy_27 (v := (-2)) (by decide)) ?_
      have hf := Option.some.inj hf
      subst hf
      exact ⟨rs_iret i_X7_stepsBy_29 m_X7_stepsBy rfl, SH⟩
    · replace hf := (if_neg c4).symm.trans hf
      refine And.imp_left (rs_ifF i_X7_stepsBy_13 (cf_eq c4)) ?_
      refine And.imp_left (rs_iload i_X7_stepsBy_16 rfl) ?_
      refine And.imp_left (rs_iconst i_X7_stepsBy_18 (v := 0) (by decide)) ?_
      refine And.imp_left (rs_bipush i_X7_stepsBy_19 (v := 12) (by decide)) ?_
      obtain ⟨o5, e5, hf⟩ := bind_some hf
      obtain ⟨u5, SH2⟩ := k_X7_within (X := X) (d := d) (by omega) (by omega) SH e5
      refine And.imp_left (rs_inS i_X7_stepsBy_21 (by decide) m_X7_within rfl (As := [.int v4, .int 0, .int 12]) (rest := []) rfl rfl (Nat.le_of_ble_eq_true rfl) u5 (st' := [.int o5.1]) rfl) ?_
      clear SH; have SH := SH2; clear SH2
      by_cases c6 : o5.1 ≠ 0
      · replace hf := (if_pos c6).symm.trans hf
        refine And.imp_left (rs_ifT i_X7_stepsBy_24 (ct_ne c6) (tg := 30) (by decide)) ?_
        refine And.imp_left (rs_aload_n i_X7_stepsBy_30 rfl) ?_
        refine And.imp_left (rs_getR i_X7_stepsBy_31 (by decide) (by decide) (sO7 SH hh) (sR7_9 SH hh)) ?_
        refine And.imp_left (rs_iload_n i_X7_stepsBy_34 rfl) ?_
        obtain ⟨c7, hf⟩ := ite_some hf
        refine And.imp_left (rs_aald i_X7_stepsBy_35 (mkR (sA SH hh (k := 11) (n := 4) (by decide)) (by decide) c7) (sE33 SH hh c7)) ?_
        refine And.imp_left (rs_getI i_X7_stepsBy_36 (by decide) (by decide) (sO4 SH hh (oE33 c7))) ?_
        refine And.imp_left (rs_iconst i_X7_stepsBy_39 (v := (-1)) (by decide)) ?_
        by_cases c8 : (gI o5.2 (72 + 2 * ix v1) 1) ≠ (-1)
        · replace hf := (if_pos c8).symm.trans hf
          refine And.imp_left (rs_icT i_X7_stepsBy_40 (ct_ne c8) (tg := 46) (by decide)) ?_
          refine And.imp_left (rs_aload_n i_X7_stepsBy_46 rfl) ?_
          refine And.imp_left (rs_getR i_X7_stepsBy_47 (by decide) (by decide) (sO7 SH hh) (sR7_9 SH hh)) ?_
          refine And.imp_left (rs_iload_n i_X7_stepsBy_50 rfl) ?_
          refine And.imp_left (rs_aald i_X7_stepsBy_51 (mkR (sA SH hh (k := 11) (n := 4) (by decide)) (by decide) c7) (sE33 SH hh c7)) ?_
          refine And.imp_left (rs_getI i_X7_stepsBy_52 (by decide) (by decide) (sO4 SH hh (oE33 c7))) ?_
          refine And.imp_left (rs_iload_n i_X7_stepsBy_55 rfl) ?_
          by_cases c9 : (gI o5.2 (72 + 2 * ix v1) 1) = v2
          · replace hf := (if_pos c9).symm.trans hf
            refine And.imp_left (rs_icT i_X7_stepsBy_56 (ct_eq c9) (tg := 62) (by decide)) ?_
            refine And.imp_left (rs_iconst i_X7_stepsBy_62 (v := 0) (by decide)) ?_
            refine And.imp_left (rs_istore i_X7_stepsBy_63 (Nat.le_of_ble_eq_true rfl) (lv' := [some (.ref 16), some (.int v1), some (.int v2), some (.int v3), some (.int v4), some (.int 0), none, none, none]) rfl) ?_
            refine And.imp_left (rs_iload_n i_X7_stepsBy_65 rfl) ?_
            refine And.imp_left (rs_istore i_X7_stepsBy_66 (Nat.le_of_ble_eq_true rfl) (lv' := [some (.ref 16), some (.int v1), some (.int v2), some (.int v3), some (.int v4), some (.int 0), some (.int v3), none, none]) rfl) ?_
            refine And.imp_left (rs_iconst i_X7_stepsBy_68 (v := 0) (by decide)) ?_
            refine And.imp_left (rs_istore i_X7_stepsBy_69 (Nat.le_of_ble_eq_true rfl) (lv' := [some (.ref 16), some (.int v1), some (.int v2), some (.int v3), some (.int v4), some (.int 0), some (.int v3), some (.int 0), none]) rfl) ?_
            exact q_X7_stepsBy_71 hd hh _ _ _ _ _ _ _ _ _ _ _ SH hf
          · replace hf := (if_neg c9).symm.trans hf
            refine And.imp_left (rs_icF i_X7_stepsBy_56 (cf_eq c9)) ?_
            refine And.imp_left (rs_bipush i_X7_stepsBy_59 (v := (-13)) (by decide)) ?_
            have hf := Option.some.inj hf
            subst hf
            exact ⟨rs_iret i_X7_stepsBy_61 m_X7_stepsBy rfl, SH⟩
        · replace hf := (if_neg c8).symm.trans hf
          refine And.imp_left (rs_icF i_X7_stepsBy_40 (cf_ne c8)) ?_
          refine And.imp_left (rs_bipush i_X7_stepsBy_43 (v := (-11)) (by decide)) ?_
          have hf := Option.some.inj hf
          subst hf
          exact ⟨rs_iret i_X7_stepsBy_45 m_X7_stepsBy rfl, SH⟩
      · replace hf := (if_neg c6).symm.trans hf
        refine And.imp_left (rs_ifF i_X7_stepsBy_24 (cf_ne c6)) ?_
        refine And.imp_left (rs_bipush i_X7_stepsBy_27 (v := (-2)) (by decide)) ?_
        have hf := Option.some.inj hf
        subst hf
        exact ⟨rs_iret i_X7_stepsBy_29 m_X7_stepsBy rfl, SH⟩
noncomputable def g_X7_stepsBy (n : Nat) (v1 : Int32) (v2 : Int32) (v3 : Int32) (v4 : Int32) (h : Hp) : Option (Int32 × Hp) := g_X7_stepsBy_0 n v1 v2 v3 v4 h
theorem k_X7_stepsBy {X : Nat → Int32} {d : Nat} (hd : 2 ≤ d) {L hi : Nat} (hh : 96 ≤ hi) {n : Nat} {v1 : Int32} {v2 : Int32} {v3 : Int32} {v4 : Int32} {h : Hp} {o : (Int32 × Hp)}  (SH : SHP L hi h) (hf : g_X7_stepsBy n v1 v2 v3 v4 h = some o) : Calls X d 108 [.ref 16, .int v1, .int v2, .int v3, .int v4] h (some (.int o.1), o.2) ∧ SHP L hi o.2 := by
  obtain ⟨d, rfl⟩ : ∃ z, d = z + 1 := ⟨d - 1, by omega⟩
  obtain ⟨r, S2⟩ := q_X7_stepsBy_0 hd hh SH hf
  exact ⟨⟨_, rfl, r⟩, S2⟩
noncomputable def g_X7_taken_0 (n : Nat) (v1 : Int32) (v2 : Int32) (h : Hp) : Option (Int32 × Hp) :=
  (g_X7_within v2 0 6 h).bind fun o1 =>
  if o1.1 ≠ 0 then
    (g_X7_within v1 0 23 o1.2).bind fun o3 =>
    if o3.1 ≠ 0 then
      if 12 ≤ v1 then
        (g_X7_isStep (v1 - 12) o3.2).bind fun o6 =>
        if o6.1 ≠ 0 then
          if 6 ≤ v2 then
            some ((-13), o6.2)
          else
            if inb (v1 - 12) 12 = true then
            (g_X5_isA n (36 + ix (v1 - 12)) v2 o6.2).bind fun o10 =>
            if o10.1 = 0 then
              some ((-13), o10.2)
            else
              some ((v1 - 12), o10.2)
            else none
        else
          some ((-11), o6.2)
      else
        if v2 ≠ 6 then
          some ((-13), o3.2)
        else
          if inb v1 12 = true then
          some ((gI o3.2 18 (ix v1)), o3.2)
          else none
    else
      some ((-12), o3.2)
  else
    some ((-2), o1.2)
set_option maxRecDepth 100000 in
set_option maxHeartbeats 4000000 in
theorem q_X7_taken_0 {X : Nat → Int32} {d : Nat} (hd : 2 ≤ (d + 1)) {L hi : Nat} (hh : 96 ≤ hi) {n : Nat} {v1 : Int32} {v2 : Int32} {h : Hp} {o : (Int32 × Hp)}  (SH : SHP L hi h) (hf : g_X7_taken_0 n v1 v2 h = some o) : Run X (d + 1) 109 0 [some (.ref 16), some (.int v1), some (.int v2), none] [] h (some (.int o.1), o.2) ∧ SHP L hi o.2 := by
  unfold g_X7_taken_0 at hf
  refine And.imp_left (rs_iload_n i_X7_taken_0 rfl) ?_
  refine And.imp_left (rs_iconst i_X7_taken_1 (v := 0) (by decide)) ?_
  refine And.imp_left (rs_bipush i_X7_taken_2 (v := 6) (by decide)) ?_
  obtain ⟨o1, e1, hf⟩ := bind_some hf
  obtain ⟨u1, SH2⟩ := k_X7_within (X := X) (d := d) (by omega) (by omega) SH e1
  refine And.imp_left (rs_inS i_X7_taken_4 (by decide) m_X7_within rfl (As := [.int v2, .int 0, .int 6]) (rest := []) rfl rfl (Nat.le_of_ble_eq_true rfl) u1 (st' := [.int o1.1]) rfl) ?_
  clear SH; have SH := SH2; clear SH2
  by_cases c2 : o1.1 ≠ 0
  · replace hf := (if_pos c2).symm.trans hf
    refine And.imp_left (rs_ifT i_X7_taken_7 (ct_ne c2) (tg := 13) (by decide)) ?_
    refine And.imp_left (rs_iload_n i_X7_taken_13 rfl) ?_
    refine And.imp_left (rs_iconst i_X7_taken_14 (v := 0) (by decide)) ?_
    refine And.imp_left (rs_bipush i_X7_taken_15 (v := 23) (by decide)) ?_
    obtain ⟨o3, e3, hf⟩ := bind_some hf
    obtain ⟨u3, SH2⟩ := k_X7_within (X := X) (d := d) (by omega) (by omega) SH e3
    refine And.imp_left (rs_inS i_X7_taken_17 (by decide) m_X7_within rfl (As := [.int v1, .int 0, .int 23]) (rest := []) rfl rfl (Nat.le_of_ble_eq_true rfl) u3 (st' := [.int o3.1]) rfl) ?_
    clear SH; have SH := SH2; clear SH2
    by_cases c4 : o3.1 ≠ 0
    · replace hf := (if_pos c4).symm.trans hf
      refine And.imp_left (rs_ifT i_X7_taken_20 (ct_ne c4) (tg := 26) (by decide)) ?_
      refine And.imp_left (rs_iload_n i_X7_taken_26 rfl) ?_
      refine And.imp_left (rs_bipush i_X7_taken_27 (v := 12) (by decide)) ?_
      by_cases c5 : 12 ≤ v1
      · replace hf := (if_pos c5).symm.trans hf
        refine And.imp_left (rs_icT i_X7_taken_29 (ct_ge c5) (tg := 53) (by decide)) ?_
        refine And.imp_left (rs_iload_n i_X7_taken_53 rfl) ?_
        refine And.imp_left (rs_bipush i_X7_taken_54 (v := 12) (by decide)) ?_
        refine And.imp_left (rs_isub i_X7_taken_56) ?_
        refine And.imp_left (rs_istore_n i_X7_taken_57 (Nat.le_of_ble_eq_true rfl) (lv' := [some (.ref 16), some (.int v1), some (.int v2), some (.int (v1 - 12))]) rfl) ?_
        refine And.imp_left (rs_aload_n i_X7_taken_58 rfl) ?_
        refine And.imp_left (rs_iload_n i_X7_taken_59 rfl) ?_
        obtain ⟨o6, e6, hf⟩ := bind_some hf
        obtain ⟨u6, SH2⟩ := k_X7_isStep (X := X) (d := d) (by omega) (by omega) SH e6
        refine And.imp_left (rs_inV i_X7_taken_60 m_X7_isStep rfl (As := [.int (v1 - 12)]) (rest := []) rfl rfl (Nat.le_of_ble_eq_true rfl) (sO7 SH hh) u6 (st' := [.int o6.1]) rfl) ?_
        clear SH; have SH := SH2; clear SH2
        by_cases c7 : o6.1 ≠ 0
        · replace hf := (if_pos c7).symm.trans hf
          refine And.imp_left (rs_ifT i_X7_taken_63 (ct_ne c7) (tg := 69) (by decide)) ?_
          refine And.imp_left (rs_iload_n i_X7_taken_69 rfl) ?_
          refine And.imp_left (rs_bipush i_X7_taken_70 (v := 6) (by decide)) ?_
          by_cases c8 : 6 ≤ v2
          · replace hf := (if_pos c8).symm.trans hf
            refine And.imp_left (rs_icT i_X7_taken_72 (ct_ge c8) (tg := 92) (by decide)) ?_
            refine And.imp_left (rs_bipush i_X7_taken_92 (v := (-13)) (by decide)) ?_
            have hf := Option.some.inj hf
            subst hf
            exact ⟨rs_iret i_X7_taken_94 m_X7_taken rfl, SH⟩
          · replace hf := (if_neg c8).symm.trans hf
            refine And.imp_left (rs_icF i_X7_taken_72 (cf_ge c8)) ?_
            refine And.imp_left (rs_aload_n i_X7_taken_75 rfl) ?_
            refine And.imp_left (rs_getR i_X7_taken_76 (by decide) (by decide) (sO7 SH hh) (sR7_3 SH hh)) ?_
            refine And.imp_left (rs_iload_n i_X7_taken_79 rfl) ?_
            obtain ⟨c9, hf⟩ := ite_some hf
            refine And.imp_left (rs_aald i_X7_taken_80 (mkR (sA SH hh (k := 12) (n := 12) (by decide)) (by decide) c9) (sE29 SH hh c9)) ?_
            refine And.imp_left (rs_iload_n i_X7_taken_81 rfl) ?_
            obtain ⟨o10, e10, hf⟩ := bind_some hf
            obtain ⟨u10, SH2⟩ := k_X5_isA (X := X) (d := d) (by omega) (by omega) (oE29 c9) SH e10
            refine And.imp_left (rs_inV i_X7_taken_82 m_X5_isA rfl (As := [.int v2]) (rest := []) rfl rfl (Nat.le_of_ble_eq_true rfl) (sO5 SH hh (oE29 c9)) u10 (st' := [.int o10.1]) rfl) ?_
            clear SH; have SH := SH2; clear SH2
            by_cases c11 : o10.1 = 0
            · replace hf := (if_pos c11).symm.trans hf
              refine And.imp_left (rs_ifT i_X7_taken_85 (ct_eq c11) (tg := 92) (by decide)) ?_
              refine And.imp_left (rs_bipush i_X7_taken_92 (v := (-13)) (by decide)) ?_
              have hf := Option.some.inj hf
              subst hf
              exact ⟨rs_iret i_X7_taken_94 m_X7_taken rfl, SH⟩
            · replace hf := (if_neg c11).symm.trans hf
              refine And.imp_left (rs_ifF i_X7_taken_85 (cf_eq c11)) ?_
              refine And.imp_left (rs_iload_n i_X7_taken_88 rfl) ?_
              refine And.imp_left (rs_goto i_X7_taken_89 (tg := 94) (by decide)) ?_
              have hf := Option.some.inj hf
              subst hf
              exact ⟨rs_iret i_X7_taken_94 m_X7_taken rfl, SH⟩
        · replace hf := (if_neg c7).symm.trans hf
          refine And.imp_left (rs_ifF i_X7_taken_63 (cf_ne c7)) ?_
          refine And.imp_left (rs_bipush i_X7_taken_66 (v := (-11)) (by decide)) ?_
          have hf := Option.some.inj hf
          subst hf
          exact ⟨rs_iret i_X7_taken_68 m_X7_taken rfl, SH⟩
      · replace hf := (if_neg c5).symm.trans hf
        refine And.imp_left (rs_icF i_X7_taken_29 (cf_ge c5)) ?_
        refine And.imp_left (rs_iload_n i_X7_taken_32 rfl) ?_
        refine And.imp_left (rs_bipush i_X7_taken_33 (v := 6) (by decide)) ?_
        by_cases c12 : v2 ≠ 6
        · replace hf := (if_pos c12).symm.trans hf
          refine And.imp_left (rs_icT i_X7_taken_35 (ct_ne c12) (tg := 50) (by decide)) ?_
          refine And.imp_left (rs_bipush i_X7_taken_50 (v := (-13)) (by decide)) ?_
          have hf := Option.some.inj hf
          subst hf
          exact ⟨rs_iret i_X7_taken_52 m_X7_taken rfl, SH⟩
        · replace hf := (if_neg c12).symm.trans hf
          refine And.imp_left (rs_icF i_X7_taken_35 (cf_ne c12)) ?_
          refine And.imp_left (rs_aload_n i_X7_taken_38 rfl) ?_
          refine And.imp_left (rs_getR i_X7_taken_39 (by decide) (by decide) (sO7 SH hh) (sR7_0 SH hh)) ?_
          refine And.imp_left (rs_getR i_X7_taken_42 (by decide) (by decide) (sO0 SH hh (by decide)) (sR0_0 SH hh (by decide))) ?_
          refine And.imp_left (rs_iload_n i_X7_taken_45 rfl) ?_
          obtain ⟨c13, hf⟩ := ite_some hf
          refine And.imp_left (rs_iald i_X7_taken_46 (mkI (sA SH hh (k := 9) (n := 12) (by decide)) c13)) ?_
          refine And.imp_left (rs_goto i_X7_taken_47 (tg := 52) (by decide)) ?_
          have hf := Option.some.inj hf
          subst hf
          exact ⟨rs_iret i_X7_taken_52 m_X7_taken rfl, SH⟩
    · replace hf := (if_neg c4).symm.trans hf
      refine And.imp_left (rs_ifF i_X7_taken_20 (cf_ne c4)) ?_
      refine And.imp_left (rs_bipush i_X7_taken_23 (v := (-12)) (by decide)) ?_
      have hf := Option.some.inj hf
      subst hf
      exact ⟨rs_iret i_X7_taken_25 m_X7_taken rfl, SH⟩
  · replace hf := (if_neg c2).symm.trans hf
    refine And.imp_left (rs_ifF i_X7_taken_7 (cf_ne c2)) ?_
    refine And.imp_left (rs_bipush i_X7_taken_10 (v := (-2)) (by decide)) ?_
    have hf := Option.some.inj hf
    subst hf
    exact ⟨rs_iret i_X7_taken_12 m_X7_taken rfl, SH⟩
noncomputable def g_X7_taken (n : Nat) (v1 : Int32) (v2 : Int32) (h : Hp) : Option (Int32 × Hp) := g_X7_taken_0 n v1 v2 h
theorem k_X7_taken {X : Nat → Int32} {d : Nat} (hd : 2 ≤ d) {L hi : Nat} (hh : 96 ≤ hi) {n : Nat} {v1 : Int32} {v2 : Int32} {h : Hp} {o : (Int32 × Hp)}  (SH : SHP L hi h) (hf : g_X7_taken n v1 v2 h = some o) : Calls X d 109 [.ref 16, .int v1, .int v2] h (some (.int o.1), o.2) ∧ SHP L hi o.2 := by
  obtain ⟨d, rfl⟩ : ∃ z, d = z + 1 := ⟨d - 1, by omega⟩
  obtain ⟨r, S2⟩ := q_X7_taken_0 hd hh SH hf
  exact ⟨⟨_, rfl, r⟩, S2⟩
noncomputable def g_X8_holds_10  (h : Hp) : Option Hp :=
  some (hsi h 96 32 ((gI h 96 32) + 1))
set_option maxRecDepth 100000 in
set_option maxHeartbeats 4000000 in
theorem q_X8_holds_10 {X : Nat → Int32} {d : Nat} (hd : 0 ≤ d) {L hi : Nat} (hh : 125 ≤ hi) {d1 : Int32} {h : Hp} {o : Hp}  (SH : SHP L hi h) (hf : g_X8_holds_10 h = some o) : Run X d 141 10 [some (.ref 96), some (.int d1)] [] h (none, o) ∧ SHP L hi o := by
  unfold g_X8_holds_10 at hf
  refine And.imp_left (rs_aload_n i_X8_holds_10 rfl) ?_
  refine And.imp_left (rs_dup i_X8_holds_11 rfl) ?_
  refine And.imp_left (rs_getI i_X8_holds_12 (by decide) (by decide) (sO8 SH hh)) ?_
  refine And.imp_left (rs_iconst i_X8_holds_15 (v := 1) (by decide)) ?_
  refine And.imp_left (rs_iadd i_X8_holds_16) ?_
  refine And.imp_left (rs_putI i_X8_holds_17 (by decide) (sO8 SH hh)) ?_
  have SH := shi SH 96 32 ((gI h 96 32) + 1)
  have hf := Option.some.inj hf
  subst hf
  exact ⟨rs_vret i_X8_holds_20 m_X8_holds rfl, SH⟩
noncomputable def g_X8_holds_0 (v1 : Int32) (h : Hp) : Option Hp :=
  if inb (gI h 96 32) 200 = true then
  g_X8_holds_10 (hsi h 112 (ix (gI h 96 32)) v1)
  else none
set_option maxRecDepth 100000 in
set_option maxHeartbeats 4000000 in
theorem q_X8_holds_0 {X : Nat → Int32} {d : Nat} (hd : 0 ≤ d) {L hi : Nat} (hh : 125 ≤ hi) {v1 : Int32} {h : Hp} {o : Hp}  (SH : SHP L hi h) (hf : g_X8_holds_0 v1 h = some o) : Run X d 141 0 [some (.ref 96), some (.int v1)] [] h (none, o) ∧ SHP L hi o := by
  unfold g_X8_holds_0 at hf
  refine And.imp_left (rs_aload_n i_X8_holds_0 rfl) ?_
  refine And.imp_left (rs_getR i_X8_holds_1 (by decide) (by decide) (sO8 SH hh) (sR8_31 SH hh)) ?_
  refine And.imp_left (rs_aload_n i_X8_holds_4 rfl) ?_
  refine And.imp_left (rs_getI i_X8_holds_5 (by decide) (by decide) (sO8 SH hh)) ?_
  refine And.imp_left (rs_iload_n i_X8_holds_8 rfl) ?_
  obtain ⟨c1, hf⟩ := ite_some hf
  refine And.imp_left (rs_iast i_X8_holds_9 (mkI (sA SH hh (k := 9) (n := 200) (by decide)) c1)) ?_
  have SH := shi SH 112 (ix (gI h 96 32)) v1
  exact q_X8_holds_10 hd hh SH hf
noncomputable def g_X8_holds (v1 : Int32) (h : Hp) : Option Hp := g_X8_holds_0 v1 h
theorem k_X8_holds {X : Nat → Int32} {d : Nat} (hd : 0 ≤ d) {L hi : Nat} (hh : 125 ≤ hi) {v1 : Int32} {h : Hp} {o : Hp}  (SH : SHP L hi h) (hf : g_X8_holds v1 h = some o) : Calls X d 141 [.ref 96, .int v1] h (none, o) ∧ SHP L hi o := by
  obtain ⟨r, S2⟩ := q_X8_holds_0 hd hh SH hf
  exact ⟨⟨_, rfl, r⟩, S2⟩
noncomputable def g_X8_rank_0 (v0 : Int32) (h : Hp) : Option (Int32 × Hp) :=
  if v0 ≠ 0 then
    if v0 ≠ 11 then
      if v0 ≠ 12 then
        if v0 ≠ 13 then
          if 15 < v0 then
            if 17 < v0 then
              if v0 ≠ 18 then
                some (7, h)
              else
                some (6, h)
            else
              some (5, h)
          else
            some (4, h)
        else
          some (3, h)
      else
        some (2, h)
    else
      some (1, h)
  else
    some (0, h)
set_option maxRecDepth 100000 in
set_option maxHeartbeats 4000000 in
theorem q_X8_rank_0 {X : Nat → Int32} {d : Nat} (hd : 0 ≤ d) {L hi : Nat} (hh : 125 ≤ hi) {v0 : Int32} {h : Hp} {o : (Int32 × Hp)}  (SH : SHP L hi h) (hf : g_X8_rank_0 v0 h = some o) : Run X d 138 0 [some (.int v0)] [] h (some (.int o.1), o.2) ∧ SHP L hi o.2 := by
  unfold g_X8_rank_0 at hf
  refine And.imp_left (rs_iload_n i_X8_rank_0 rfl) ?_
  by_cases c1 : v0 ≠ 0
  · replace hf := (if_pos c1).symm.trans hf
    refine And.imp_left (rs_ifT i_X8_rank_1 (ct_ne c1) (tg := 8) (by decide)) ?_
    refine And.imp_left (rs_iload_n i_X8_rank_8 rfl) ?_
    refine And.imp_left (rs_bipush i_X8_rank_9 (v := 11) (by decide)) ?_
    by_cases c2 : v0 ≠ 11
    · replace hf := (if_pos c2).symm.trans hf
      refine And.imp_left (rs_icT i_X8_rank_11 (ct_ne c2) (tg := 18) (by decide)) ?_
      refine And.imp_left (rs_iload_n i_X8_rank_18 rfl) ?_
      refine And.imp_left (rs_bipush i_X8_rank_19 (v := 12) (by decide)) ?_
      by_cases c3 : v0 ≠ 12
      · replace hf := (if_pos c3).symm.trans hf
        refine And.imp_left (rs_icT i_X8_rank_21 (ct_ne c3) (tg := 28) (by decide)) ?_
        refine And.imp_left (rs_iload_n i_X8_rank_28 rfl) ?_
        refine And.imp_left (rs_bipush i_X8_rank_29 (v := 13) (by decide)) ?_
        by_cases c4 : v0 ≠ 13
        · replace hf := (if_pos c4).symm.trans hf
          refine And.imp_left (rs_icT i_X8_rank_31 (ct_ne c4) (tg := 38) (by decide)) ?_
          refine And.imp_left (rs_iload_n i_X8_rank_38 rfl) ?_
          refine And.imp_left (rs_bipush i_X8_rank_39 (v := 15) (by decide)) ?_
          by_cases c5 : 15 < v0
          · replace hf := (if_pos c5).symm.trans hf
            refine And.imp_left (rs_icT i_X8_rank_41 (ct_gt c5) (tg := 48) (by decide)) ?_
            refine And.imp_left (rs_iload_n i_X8_rank_48 rfl) ?_
            refine And.imp_left (rs_bipush i_X8_rank_49 (v := 17) (by decide)) ?_
            by_cases c6 : 17 < v0
            · replace hf := (if_pos c6).symm.trans hf
              refine And.imp_left (rs_icT i_X8_rank_51 (ct_gt c6) (tg := 58) (by decide)) ?_
              refine And.imp_left (rs_iload_n i_X8_rank_58 rfl) ?_
              refine And.imp_left (rs_bipush i_X8_rank_59 (v := 18) (by decide)) ?_
              by_cases c7 : v0 ≠ 18
              · replace hf := (if_pos c7).symm.trans hf
                refine And.imp_left (rs_icT i_X8_rank_61 (ct_ne c7) (tg := 69) (by decide)) ?_
                refine And.imp_left (rs_bipush i_X8_rank_69 (v := 7) (by decide)) ?_
                have hf := Option.some.inj hf
                subst hf
                exact ⟨rs_iret i_X8_rank_71 m_X8_rank rfl, SH⟩
              · replace hf := (if_neg c7).symm.trans hf
                refine And.imp_left (rs_icF i_X8_rank_61 (cf_ne c7)) ?_
                refine And.imp_left (rs_bipush i_X8_rank_64 (v := 6) (by decide)) ?_
                refine And.imp_left (rs_goto i_X8_rank_66 (tg := 71) (by decide)) ?_
                have hf := Option.some.inj hf
                subst hf
                exact ⟨rs_iret i_X8_rank_71 m_X8_rank rfl, SH⟩
            · replace hf := (if_neg c6).symm.trans hf
              refine And.imp_left (rs_icF i_X8_rank_51 (cf_gt c6)) ?_
              refine And.imp_left (rs_iconst i_X8_rank_54 (v := 5) (by decide)) ?_
              refine And.imp_left (rs_goto i_X8_rank_55 (tg := 71) (by decide)) ?_
              have hf := Option.some.inj hf
              subst hf
              exact ⟨rs_iret i_X8_rank_71 m_X8_rank rfl, SH⟩
          · replace hf := (if_neg c5).symm.trans hf
            refine And.imp_left (rs_icF i_X8_rank_41 (cf_gt c5)) ?_
            refine And.imp_left (rs_iconst i_X8_rank_44 (v := 4) (by decide)) ?_
            refine And.imp_left (rs_goto i_X8_rank_45 (tg := 71) (by decide)) ?_
            have hf := Option.some.inj hf
            subst hf
            exact ⟨rs_iret i_X8_rank_71 m_X8_rank rfl, SH⟩
        · replace hf := (if_neg c4).symm.trans hf
          refine And.imp_left (rs_icF i_X8_rank_31 (cf_ne c4)) ?_
          refine And.imp_left (rs_iconst i_X8_rank_34 (v := 3) (by decide)) ?_
          refine And.imp_left (rs_goto i_X8_rank_35 (tg := 71) (by decide)) ?_
          have hf := Option.some.inj hf
          subst hf
          exact ⟨rs_iret i_X8_rank_71 m_X8_rank rfl, SH⟩
      · replace hf := (if_neg c3).symm.trans hf
        refine And.imp_left (rs_icF i_X8_rank_21 (cf_ne c3)) ?_
        refine And.imp_left (rs_iconst i_X8_rank_24 (v := 2) (by decide)) ?_
        refine And.imp_left (rs_goto i_X8_rank_25 (tg := 71) (by decide)) ?_
        have hf := Option.some.inj hf
        subst hf
        exact ⟨rs_iret i_X8_rank_71 m_X8_rank rfl, SH⟩
    · replace hf := (if_neg c2).symm.trans hf
      refine And.imp_left (rs_icF i_X8_rank_11 (cf_ne c2)) ?_
      refine And.imp_left (rs_iconst i_X8_rank_14 (v := 1) (by decide)) ?_
      refine And.imp_left (rs_goto i_X8_rank_15 (tg := 71) (by decide)) ?_
      have hf := Option.some.inj hf
      subst hf
      exact ⟨rs_iret i_X8_rank_71 m_X8_rank rfl, SH⟩
  · replace hf := (if_neg c1).symm.trans hf
    refine And.imp_left (rs_ifF i_X8_rank_1 (cf_ne c1)) ?_
    refine And.imp_left (rs_iconst i_X8_rank_4 (v := 0) (by decide)) ?_
    refine And.imp_left (rs_goto i_X8_rank_5 (tg := 71) (by decide)) ?_
    have hf := Option.some.inj hf
    subst hf
    exact ⟨rs_iret i_X8_rank_71 m_X8_rank rfl, SH⟩
noncomputable def g_X8_rank (v0 : Int32) (h : Hp) : Option (Int32 × Hp) := g_X8_rank_0 v0 h
theorem k_X8_rank {X : Nat → Int32} {d : Nat} (hd : 0 ≤ d) {L hi : Nat} (hh : 125 ≤ hi) {v0 : Int32} {h : Hp} {o : (Int32 × Hp)}  (SH : SHP L hi h) (hf : g_X8_rank v0 h = some o) : Calls X d 138 [.int v0] h (some (.int o.1), o.2) ∧ SHP L hi o.2 := by
  obtain ⟨r, S2⟩ := q_X8_rank_0 hd hh SH hf
  exact ⟨⟨_, rfl, r⟩, S2⟩
noncomputable def g_X8_puts_19  (h : Hp) : Option Hp :=
  some (hsi h 96 34 ((gI h 96 34) + 1))
set_option maxRecDepth 100000 in
set_option maxHeartbeats 4000000 in
theorem q_X8_puts_19 {X : Nat → Int32} {d : Nat} (hd : 0 ≤ d) {L hi : Nat} (hh : 125 ≤ hi) {d1 : Int32} {h : Hp} {o : Hp}  (SH : SHP L hi h) (hf : g_X8_puts_19 h = some o) : Run X d 139 19 [some (.ref 96), some (.int d1)] [] h (none, o) ∧ SHP L hi o := by
  unfold g_X8_puts_19 at hf
  refine And.imp_left (rs_aload_n i_X8_puts_19 rfl) ?_
  refine And.imp_left (rs_dup i_X8_puts_20 rfl) ?_
  refine And.imp_left (rs_getI i_X8_puts_21 (by decide) (by decide) (sO8 SH hh)) ?_
  refine And.imp_left (rs_iconst i_X8_puts_24 (v := 1) (by decide)) ?_
  refine And.imp_left (rs_iadd i_X8_puts_25) ?_
  refine And.imp_left (rs_putI i_X8_puts_26 (by decide) (sO8 SH hh)) ?_
  have SH := shi SH 96 34 ((gI h 96 34) + 1)
  have hf := Option.some.inj hf
  subst hf
  exact ⟨rs_vret i_X8_puts_29 m_X8_puts rfl, SH⟩
noncomputable def g_X8_puts_0 (v1 : Int32) (h : Hp) : Option Hp :=
  if inb ((200 * (gI h 96 13)) + (gI h 96 34)) 1200 = true then
  g_X8_puts_19 (hsi h 103 (ix ((200 * (gI h 96 13)) + (gI h 96 34))) v1)
  else none
set_option maxRecDepth 100000 in
set_option maxHeartbeats 4000000 in
theorem q_X8_puts_0 {X : Nat → Int32} {d : Nat} (hd : 0 ≤ d) {L hi : Nat} (hh : 125 ≤ hi) {v1 : Int32} {h : Hp} {o : Hp}  (SH : SHP L hi h) (hf : g_X8_puts_0 v1 h = some o) : Run X d 139 0 [some (.ref 96), some (.int v1)] [] h (none, o) ∧ SHP L hi o := by
  unfold g_X8_puts_0 at hf
  refine And.imp_left (rs_aload_n i_X8_puts_0 rfl) ?_
  refine And.imp_left (rs_getR i_X8_puts_1 (by decide) (by decide) (sO8 SH hh) (sR8_11 SH hh)) ?_
  refine And.imp_left (rs_sipush i_X8_puts_4 (v := 200) (by decide)) ?_
  refine And.imp_left (rs_aload_n i_X8_puts_7 rfl) ?_
  refine And.imp_left (rs_getI i_X8_puts_8 (by decide) (by decide) (sO8 SH hh)) ?_
  refine And.imp_left (rs_imul i_X8_puts_11) ?_
  refine And.imp_left (rs_aload_n i_X8_puts_12 rfl) ?_
  refine And.imp_left (rs_getI i_X8_puts_13 (by decide) (by decide) (sO8 SH hh)) ?_
  refine And.imp_left (rs_iadd i_X8_puts_16) ?_
  refine And.imp_left (rs_iload_n i_X8_puts_17 rfl) ?_
  obtain ⟨c1, hf⟩ := ite_some hf
  refine And.imp_left (rs_iast i_X8_puts_18 (mkI (sA SH hh (k := 9) (n := 1200) (by decide)) c1)) ?_
  have SH := shi SH 103 (ix ((200 * (gI h 96 13)) + (gI h 96 34))) v1
  exact q_X8_puts_19 hd hh SH hf
noncomputable def g_X8_puts (v1 : Int32) (h : Hp) : Option Hp := g_X8_puts_0 v1 h
theorem k_X8_puts {X : Nat → Int32} {d : Nat} (hd : 0 ≤ d) {L hi : Nat} (hh : 125 ≤ hi) {v1 : Int32} {h : Hp} {o : Hp}  (SH : SHP L hi h) (hf : g_X8_puts v1 h = some o) : Calls X d 139 [.ref 96, .int v1] h (none, o) ∧ SHP L hi o := by
  obtain ⟨r, S2⟩ := q_X8_puts_0 hd hh SH hf
  exact ⟨⟨_, rfl, r⟩, S2⟩
noncomputable def g_X8_unwinds_71 (n : Nat) (K0 : Int32 → Hp → Option Hp) (v1 : Int32) (v2 : Int32) (h : Hp) : Option Hp :=
  (g_X8_puts v2 h).bind fun o1 =>
  K0 v1 o1
set_option maxRecDepth 100000 in
set_option maxHeartbeats 4000000 in
theorem q_X8_unwinds_71 {X : Nat → Int32} {d : Nat} (hd : 1 ≤ (d + 1)) {L hi : Nat} (hh : 125 ≤ hi) {n : Nat} {K0 : Int32 → Hp → Option Hp} (HK0 : ∀ (v1 : Int32) (w2 : Option Value) (h : Hp) (o : Hp), SHP L hi h → K0 v1 h = some o → Run X (d + 1) 140 0 [some (.ref 96), some (.int v1), w2] [] h (none, o) ∧ SHP L hi o) {v1 : Int32} {v2 : Int32} {h : Hp} {o : Hp}  (SH : SHP L hi h) (hf : g_X8_unwinds_71 n K0 v1 v2 h = some o) : Run X (d + 1) 140 71 [some (.ref 96), some (.int v1), some (.int v2)] [] h (none, o) ∧ SHP L hi o := by
  unfold g_X8_unwinds_71 at hf
  refine And.imp_left (rs_aload_n i_X8_unwinds_71 rfl) ?_
  refine And.imp_left (rs_iload_n i_X8_unwinds_72 rfl) ?_
  obtain ⟨o1, e1, hf⟩ := bind_some hf
  obtain ⟨u1, SH2⟩ := k_X8_puts (X := X) (d := d) (by omega) (by omega) SH e1
  refine And.imp_left (rs_inV i_X8_unwinds_73 m_X8_puts rfl (As := [.int v2]) (rest := []) rfl rfl (Nat.le_of_ble_eq_true rfl) (sO8 SH hh) u1 (st' := []) rfl) ?_
  clear SH; have SH := SH2; clear SH2
  refine And.imp_left (rs_goto i_X8_unwinds_76 (tg := 0) (by decide)) ?_
  exact HK0 _ _ _ _ SH hf
noncomputable def g_X8_unwinds_67 (n : Nat) (K0 : Int32 → Hp → Option Hp) (v1 : Int32) (v2 : Int32) (s1 : Int32) (s2 : Int32) (h : Hp) : Option Hp :=
  g_X8_unwinds_71 n K0 v1 v2 (hsi h 96 33 (s1 - s2))
set_option maxRecDepth 100000 in
set_option maxHeartbeats 4000000 in
theorem q_X8_unwinds_67 {X : Nat → Int32} {d : Nat} (hd : 1 ≤ (d + 1)) {L hi : Nat} (hh : 125 ≤ hi) {n : Nat} {K0 : Int32 → Hp → Option Hp} (HK0 : ∀ (v1 : Int32) (w2 : Option Value) (h : Hp) (o : Hp), SHP L hi h → K0 v1 h = some o → Run X (d + 1) 140 0 [some (.ref 96), some (.int v1), w2] [] h (none, o) ∧ SHP L hi o) {v1 : Int32} {v2 : Int32} {s1 : Int32} {s2 : Int32} {h : Hp} {o : Hp}  (SH : SHP L hi h) (hf : g_X8_unwinds_67 n K0 v1 v2 s1 s2 h = some o) : Run X (d + 1) 140 67 [some (.ref 96), some (.int v1), some (.int v2)] [.int s2, .int s1, .ref 96] h (none, o) ∧ SHP L hi o := by
  unfold g_X8_unwinds_67 at hf
  refine And.imp_left (rs_isub i_X8_unwinds_67) ?_
  refine And.imp_left (rs_putI i_X8_unwinds_68 (by decide) (sO8 SH hh)) ?_
  have SH := shi SH 96 33 (s1 - s2)
  exact q_X8_unwinds_71 hd hh HK0 SH hf
noncomputable def g_X8_unwinds_62 (n : Nat) (K0 : Int32 → Hp → Option Hp) (v1 : Int32) (v2 : Int32) (s1 : Int32) (h : Hp) : Option Hp :=
  g_X8_unwinds_67 n K0 v1 v2 s1 1 h
set_option maxRecDepth 100000 in
set_option maxHeartbeats 4000000 in
theorem q_X8_unwinds_62 {X : Nat → Int32} {d : Nat} (hd : 1 ≤ (d + 1)) {L hi : Nat} (hh : 125 ≤ hi) {n : Nat} {K0 : Int32 → Hp → Option Hp} (HK0 : ∀ (v1 : Int32) (w2 : Option Value) (h : Hp) (o : Hp), SHP L hi h → K0 v1 h = some o → Run X (d + 1) 140 0 [some (.ref 96), some (.int v1), w2] [] h (none, o) ∧ SHP L hi o) {v1 : Int32} {v2 : Int32} {s1 : Int32} {h : Hp} {o : Hp}  (SH : SHP L hi h) (hf : g_X8_unwinds_62 n K0 v1 v2 s1 h = some o) : Run X (d + 1) 140 62 [some (.ref 96), some (.int v1), some (.int v2)] [.int s1, .ref 96] h (none, o) ∧ SHP L hi o := by
  unfold g_X8_unwinds_62 at hf
  refine And.imp_left (rs_iconst i_X8_unwinds_62 (v := 1) (by decide)) ?_
  refine And.imp_left (rs_goto i_X8_unwinds_63 (tg := 67) (by decide)) ?_
  exact q_X8_unwinds_67 hd hh HK0 SH hf
noncomputable def g_X8_unwinds_35 (n : Nat) (K0 : Int32 → Hp → Option Hp) (v1 : Int32) (h : Hp) : Option Hp :=
  if inb (gI h 96 32) 200 = true then
  if (gI h 112 (ix (gI h 96 32))) = 13 then
    g_X8_unwinds_62 n K0 v1 (gI h 112 (ix (gI h 96 32))) (gI h 96 33) h
  else
    if (gI h 112 (ix (gI h 96 32))) ≠ 19 then
      g_X8_unwinds_67 n K0 v1 (gI h 112 (ix (gI h 96 32))) (gI h 96 33) 0 h
    else
      g_X8_unwinds_62 n K0 v1 (gI h 112 (ix (gI h 96 32))) (gI h 96 33) h
  else none
set_option maxRecDepth 100000 in
set_option maxHeartbeats 4000000 in
theorem q_X8_unwinds_35 {X : Nat → Int32} {d : Nat} (hd : 1 ≤ (d + 1)) {L hi : Nat} (hh : 125 ≤ hi) {n : Nat} {K0 : Int32 → Hp → Option Hp} (HK0 : ∀ (v1 : Int32) (w2 : Option Value) (h : Hp) (o : Hp), SHP L hi h → K0 v1 h = some o → Run X (d + 1) 140 0 [some (.ref 96), some (.int v1), w2] [] h (none, o) ∧ SHP L hi o) {v1 : Int32} {w2 : Option Value} {h : Hp} {o : Hp}  (SH : SHP L hi h) (hf : g_X8_unwinds_35 n K0 v1 h = some o) : Run X (d + 1) 140 35 [some (.ref 96), some (.int v1), w2] [] h (none, o) ∧ SHP L hi o := by
  unfold g_X8_unwinds_35 at hf
  refine And.imp_left (rs_aload_n i_X8_unwinds_35 rfl) ?_
  refine And.imp_left (rs_getR i_X8_unwinds_36 (by decide) (by decide) (sO8 SH hh) (sR8_31 SH hh)) ?_
  refine And.imp_left (rs_aload_n i_X8_unwinds_39 rfl) ?_
  refine And.imp_left (rs_getI i_X8_unwinds_40 (by decide) (by decide) (sO8 SH hh)) ?_
  obtain ⟨c1, hf⟩ := ite_some hf
  refine And.imp_left (rs_iald i_X8_unwinds_43 (mkI (sA SH hh (k := 9) (n := 200) (by decide)) c1)) ?_
  refine And.imp_left (rs_istore_n i_X8_unwinds_44 (Nat.le_of_ble_eq_true rfl) (lv' := [some (.ref 96), some (.int v1), some (.int (gI h 112 (ix (gI h 96 32))))]) rfl) ?_
  refine And.imp_left (rs_aload_n i_X8_unwinds_45 rfl) ?_
  refine And.imp_left (rs_dup i_X8_unwinds_46 rfl) ?_
  refine And.imp_left (rs_getI i_X8_unwinds_47 (by decide) (by decide) (sO8 SH hh)) ?_
  refine And.imp_left (rs_iload_n i_X8_unwinds_50 rfl) ?_
  refine And.imp_left (rs_bipush i_X8_unwinds_51 (v := 13) (by decide)) ?_
  by_cases c2 : (gI h 112 (ix (gI h 96 32))) = 13
  · replace hf := (if_pos c2).symm.trans hf
    refine And.imp_left (rs_icT i_X8_unwinds_53 (ct_eq c2) (tg := 62) (by decide)) ?_
    exact q_X8_unwinds_62 hd hh HK0 SH hf
  · replace hf := (if_neg c2).symm.trans hf
    refine And.imp_left (rs_icF i_X8_unwinds_53 (cf_eq c2)) ?_
    refine And.imp_left (rs_iload_n i_X8_unwinds_56 rfl) ?_
    refine And.imp_left (rs_bipush i_X8_unwinds_57 (v := 19) (by decide)) ?_
    by_cases c3 : (gI h 112 (ix (gI h 96 32))) ≠ 19
    · replace hf := (if_pos c3).symm.trans hf
      refine And.imp_left (rs_icT i_X8_unwinds_59 (ct_ne c3) (tg := 66) (by decide)) ?_
      refine And.imp_left (rs_iconst i_X8_unwinds_66 (v := 0) (by decide)) ?_
      exact q_X8_unwinds_67 hd hh HK0 SH hf
    · replace hf := (if_neg c3).symm.trans hf
      refine And.imp_left (rs_icF i_X8_unwinds_59 (cf_ne c3)) ?_
      exact q_X8_unwinds_62 hd hh HK0 SH hf
noncomputable def g_X8_unwinds_0 (n : Nat) : Nat → Int32 → Hp → Option Hp
  | 0, _, _ => none
  | m + 1, v1, h =>
    if (gI h 96 32) ≤ 0 then
      some h
    else
      if inb ((gI h 96 32) - 1) 200 = true then
      (g_X8_rank (gI h 112 (ix ((gI h 96 32) - 1))) h).bind fun o3 =>
      if o3.1 < v1 then
        some o3.2
      else
        g_X8_unwinds_35 n (g_X8_unwinds_0 n m) v1 (hsi o3.2 96 32 ((gI o3.2 96 32) - 1))
      else none
set_option maxRecDepth 100000 in
set_option maxHeartbeats 4000000 in
theorem q_X8_unwinds_0 {X : Nat → Int32} {d : Nat} (hd : 1 ≤ (d + 1)) {L hi : Nat} (hh : 125 ≤ hi) {n : Nat} : ∀ (m : Nat) (v1 : Int32) (w2 : Option Value) (h : Hp) (o : Hp), SHP L hi h → g_X8_unwinds_0 n m v1 h = some o → Run X (d + 1) 140 0 [some (.ref 96), some (.int v1), w2] [] h (none, o) ∧ SHP L hi o := by
  intro m
  induction m with
  | zero => intro v1 w2 h o SH hf; cases hf
  | succ m ih =>
    intro v1 w2 h o SH hf
    rw [g_X8_unwinds_0] at hf
    refine And.imp_left (rs_aload_n i_X8_unwinds_0 rfl) ?_
    refine And.imp_left (rs_getI i_X8_unwinds_1 (by decide) (by decide) (sO8 SH hh)) ?_
    by_cases c1 : (gI h 96 32) ≤ 0
    · replace hf := (if_pos c1).symm.trans hf
      refine And.imp_left (rs_ifT i_X8_unwinds_4 (ct_le c1) (tg := 79) (by decide)) ?_
      have hf := Option.some.inj hf
      subst hf
      exact ⟨rs_vret i_X8_unwinds_79 m_X8_unwinds rfl, SH⟩
    · replace hf := (if_neg c1).symm.trans hf
      refine And.imp_left (rs_ifF i_X8_unwinds_4 (cf_le c1)) ?_
      refine And.imp_left (rs_aload_n i_X8_unwinds_7 rfl) ?_
      refine And.imp_left (rs_getR i_X8_unwinds_8 (by decide) (by decide) (sO8 SH hh) (sR8_31 SH hh)) ?_
      refine And.imp_left (rs_aload_n i_X8_unwinds_11 rfl) ?_
      refine And.imp_left (rs_getI i_X8_unwinds_12 (by decide) (by decide) (sO8 SH hh)) ?_
      refine And.imp_left (rs_iconst i_X8_unwinds_15 (v := 1) (by decide)) ?_
      refine And.imp_left (rs_isub i_X8_unwinds_16) ?_
      obtain ⟨c2, hf⟩ := ite_some hf
      refine And.imp_left (rs_iald i_X8_unwinds_17 (mkI (sA SH hh (k := 9) (n := 200) (by decide)) c2)) ?_
      obtain ⟨o3, e3, hf⟩ := bind_some hf
      obtain ⟨u3, SH2⟩ := k_X8_rank (X := X) (d := d) (by omega) (by omega) SH e3
      refine And.imp_left (rs_inS i_X8_unwinds_18 (by decide) m_X8_rank rfl (As := [.int (gI h 112 (ix ((gI h 96 32) - 1)))]) (rest := []) rfl rfl (Nat.le_of_ble_eq_true rfl) u3 (st' := [.int o3.1]) rfl) ?_
      clear SH; have SH := SH2; clear SH2
      refine And.imp_left (rs_iload_n i_X8_unwinds_21 rfl) ?_
      by_cases c4 : o3.1 < v1
      · replace hf := (if_pos c4).symm.trans hf
        refine And.imp_left (rs_icT i_X8_unwinds_22 (ct_lt c4) (tg := 79) (by decide)) ?_
        have hf := Option.some.inj hf
        subst hf
        exact ⟨rs_vret i_X8_unwinds_79 m_X8_unwinds rfl, SH⟩
      · replace hf := (if_neg c4).symm.trans hf
        refine And.imp_left (rs_icF i_X8_unwinds_22 (cf_lt c4)) ?_
        refine And.imp_left (rs_aload_n i_X8_unwinds_25 rfl) ?_
        refine And.imp_left (rs_dup i_X8_unwinds_26 rfl) ?_
        refine And.imp_left (rs_getI i_X8_unwinds_27 (by decide) (by decide) (sO8 SH hh)) ?_
        refine And.imp_left (rs_iconst i_X8_unwinds_30 (v := 1) (by decide)) ?_
        refine And.imp_left (rs_isub i_X8_unwinds_31) ?_
        refine And.imp_left (rs_putI i_X8_unwinds_32 (by decide) (sO8 SH hh)) ?_
        have SH := shi SH 96 32 ((gI o3.2 96 32) - 1)
        exact q_X8_unwinds_35 hd hh ih SH hf
noncomputable def g_X8_unwinds (n : Nat) (v1 : Int32) (h : Hp) : Option Hp := g_X8_unwinds_0 n n v1 h
theorem k_X8_unwinds {X : Nat → Int32} {d : Nat} (hd : 1 ≤ d) {L hi : Nat} (hh : 125 ≤ hi) {n : Nat} {v1 : Int32} {h : Hp} {o : Hp}  (SH : SHP L hi h) (hf : g_X8_unwinds n v1 h = some o) : Calls X d 140 [.ref 96, .int v1] h (none, o) ∧ SHP L hi o := by
  obtain ⟨d, rfl⟩ : ∃ z, d = z + 1 := ⟨d - 1, by omega⟩
  obtain ⟨r, S2⟩ := q_X8_unwinds_0 hd hh _ _ _ _ _ SH hf
  exact ⟨⟨_, rfl, r⟩, S2⟩
noncomputable def g_X8_between_55 (n : Nat) (v1 : Int32) (h : Hp) : Option (Int32 × Hp) :=
  (g_X8_holds v1 h).bind fun o1 =>
  some (1, o1)
set_option maxRecDepth 100000 in
set_option maxHeartbeats 4000000 in
theorem q_X8_between_55 {X : Nat → Int32} {d : Nat} (hd : 2 ≤ (d + 1)) {L hi : Nat} (hh : 125 ≤ hi) {n : Nat} {v1 : Int32} {h : Hp} {o : (Int32 × Hp)}  (SH : SHP L hi h) (hf : g_X8_between_55 n v1 h = some o) : Run X (d + 1) 143 55 [some (.ref 96), some (.int v1)] [] h (some (.int o.1), o.2) ∧ SHP L hi o.2 := by
  unfold g_X8_between_55 at hf
  refine And.imp_left (rs_aload_n i_X8_between_55 rfl) ?_
  refine And.imp_left (rs_iload_n i_X8_between_56 rfl) ?_
  obtain ⟨o1, e1, hf⟩ := bind_some hf
  obtain ⟨u1, SH2⟩ := k_X8_holds (X := X) (d := d) (by omega) (by omega) SH e1
  refine And.imp_left (rs_inV i_X8_between_57 m_X8_holds rfl (As := [.int v1]) (rest := []) rfl rfl (Nat.le_of_ble_eq_true rfl) (sO8 SH hh) u1 (st' := []) rfl) ?_
  clear SH; have SH := SH2; clear SH2
  refine And.imp_left (rs_iconst i_X8_between_60 (v := 1) (by decide)) ?_
  have hf := Option.some.inj hf
  subst hf
  exact ⟨rs_iret i_X8_between_61 m_X8_between (by decide), SH⟩
noncomputable def g_X8_between_17 (n : Nat) (v1 : Int32) (s1 : Int32) (h : Hp) : Option (Int32 × Hp) :=
  (g_X8_unwinds n s1 h).bind fun o1 =>
  (g_X8_rank v1 o1).bind fun o2 =>
  if o2.1 ≠ 4 then
    g_X8_between_55 n v1 o2.2
  else
    if (gI o2.2 96 32) ≤ 0 then
      g_X8_between_55 n v1 o2.2
    else
      if inb ((gI o2.2 96 32) - 1) 200 = true then
      (g_X8_rank (gI o2.2 112 (ix ((gI o2.2 96 32) - 1))) o2.2).bind fun o6 =>
      if o6.1 ≠ 4 then
        g_X8_between_55 n v1 o6.2
      else
        some (0, o6.2)
      else none
set_option maxRecDepth 100000 in
set_option maxHeartbeats 4000000 in
theorem q_X8_between_17 {X : Nat → Int32} {d : Nat} (hd : 2 ≤ (d + 1)) {L hi : Nat} (hh : 125 ≤ hi) {n : Nat} {v1 : Int32} {s1 : Int32} {h : Hp} {o : (Int32 × Hp)}  (SH : SHP L hi h) (hf : g_X8_between_17 n v1 s1 h = some o) : Run X (d + 1) 143 17 [some (.ref 96), some (.int v1)] [.int s1, .ref 96] h (some (.int o.1), o.2) ∧ SHP L hi o.2 := by
  unfold g_X8_between_17 at hf
  obtain ⟨o1, e1, hf⟩ := bind_some hf
  obtain ⟨u1, SH2⟩ := k_X8_unwinds (X := X) (d := d) (by omega) (by omega) SH e1
  refine And.imp_left (rs_inV i_X8_between_17 m_X8_unwinds rfl (As := [.int s1]) (rest := []) rfl rfl (Nat.le_of_ble_eq_true rfl) (sO8 SH hh) u1 (st' := []) rfl) ?_
  clear SH; have SH := SH2; clear SH2
  refine And.imp_left (rs_iload_n i_X8_between_20 rfl) ?_
  obtain ⟨o2, e2, hf⟩ := bind_some hf
  obtain ⟨u2, SH2⟩ := k_X8_rank (X := X) (d := d) (by omega) (by omega) SH e2
  refine And.imp_left (rs_inS i_X8_between_21 (by decide) m_X8_rank rfl (As := [.int v1]) (rest := []) rfl rfl (Nat.le_of_ble_eq_true rfl) u2 (st' := [.int o2.1]) rfl) ?_
  clear SH; have SH := SH2; clear SH2
  refine And.imp_left (rs_iconst i_X8_between_24 (v := 4) (by decide)) ?_
  by_cases c3 : o2.1 ≠ 4
  · replace hf := (if_pos c3).symm.trans hf
    refine And.imp_left (rs_icT i_X8_between_25 (ct_ne c3) (tg := 55) (by decide)) ?_
    exact q_X8_between_55 hd hh SH hf
  · replace hf := (if_neg c3).symm.trans hf
    refine And.imp_left (rs_icF i_X8_between_25 (cf_ne c3)) ?_
    refine And.imp_left (rs_aload_n i_X8_between_28 rfl) ?_
    refine And.imp_left (rs_getI i_X8_between_29 (by decide) (by decide) (sO8 SH hh)) ?_
    by_cases c4 : (gI o2.2 96 32) ≤ 0
    · replace hf := (if_pos c4).symm.trans hf
      refine And.imp_left (rs_ifT i_X8_between_32 (ct_le c4) (tg := 55) (by decide)) ?_
      exact q_X8_between_55 hd hh SH hf
    · replace hf := (if_neg c4).symm.trans hf
      refine And.imp_left (rs_ifF i_X8_between_32 (cf_le c4)) ?_
      refine And.imp_left (rs_aload_n i_X8_between_35 rfl) ?_
      refine And.imp_left (rs_getR i_X8_between_36 (by decide) (by decide) (sO8 SH hh) (sR8_31 SH hh)) ?_
      refine And.imp_left (rs_aload_n i_X8_between_39 rfl) ?_
      refine And.imp_left (rs_getI i_X8_between_40 (by decide) (by decide) (sO8 SH hh)) ?_
      refine And.imp_left (rs_iconst i_X8_between_43 (v := 1) (by decide)) ?_
      refine And.imp_left (rs_isub i_X8_between_44) ?_
      obtain ⟨c5, hf⟩ := ite_some hf
      refine And.imp_left (rs_iald i_X8_between_45 (mkI (sA SH hh (k := 9) (n := 200) (by decide)) c5)) ?_
      obtain ⟨o6, e6, hf⟩ := bind_some hf
      obtain ⟨u6, SH2⟩ := k_X8_rank (X := X) (d := d) (by omega) (by omega) SH e6
      refine And.imp_left (rs_inS i_X8_between_46 (by decide) m_X8_rank rfl (As := [.int (gI o2.2 112 (ix ((gI o2.2 96 32) - 1)))]) (rest := []) rfl rfl (Nat.le_of_ble_eq_true rfl) u6 (st' := [.int o6.1]) rfl) ?_
      clear SH; have SH := SH2; clear SH2
      refine And.imp_left (rs_iconst i_X8_between_49 (v := 4) (by decide)) ?_
      by_cases c7 : o6.1 ≠ 4
      · replace hf := (if_pos c7).symm.trans hf
        refine And.imp_left (rs_icT i_X8_between_50 (ct_ne c7) (tg := 55) (by decide)) ?_
        exact q_X8_between_55 hd hh SH hf
      · replace hf := (if_neg c7).symm.trans hf
        refine And.imp_left (rs_icF i_X8_between_50 (cf_ne c7)) ?_
        refine And.imp_left (rs_iconst i_X8_between_53 (v := 0) (by decide)) ?_
        have hf := Option.some.inj hf
        subst hf
        exact ⟨rs_iret i_X8_between_54 m_X8_between (by decide), SH⟩
noncomputable def g_X8_between_0 (n : Nat) (v1 : Int32) (h : Hp) : Option (Int32 × Hp) :=
  (g_X8_rank v1 h).bind fun o1 =>
  if o1.1 ≠ 4 then
    (g_X8_rank v1 o1.2).bind fun o3 =>
    g_X8_between_17 n v1 o3.1 o3.2
  else
    g_X8_between_17 n v1 5 o1.2
set_option maxRecDepth 100000 in
set_option maxHeartbeats 4000000 in
theorem q_X8_between_0 {X : Nat → Int32} {d : Nat} (hd : 2 ≤ (d + 1)) {L hi : Nat} (hh : 125 ≤ hi) {n : Nat} {v1 : Int32} {h : Hp} {o : (Int32 × Hp)}  (SH : SHP L hi h) (hf : g_X8_between_0 n v1 h = some o) : Run X (d + 1) 143 0 [some (.ref 96), some (.int v1)] [] h (some (.int o.1), o.2) ∧ SHP L hi o.2 := by
  unfold g_X8_between_0 at hf
  refine And.imp_left (rs_aload_n i_X8_between_0 rfl) ?_
  refine And.imp_left (rs_iload_n i_X8_between_1 rfl) ?_
  obtain ⟨o1, e1, hf⟩ := bind_some hf
  obtain ⟨u1, SH2⟩ := k_X8_rank (X := X) (d := d) (by omega) (by omega) SH e1
  refine And.imp_left (rs_inS i_X8_between_2 (by decide) m_X8_rank rfl (As := [.int v1]) (rest := [.ref 96]) rfl rfl (Nat.le_of_ble_eq_true rfl) u1 (st' := [.int o1.1, .ref 96]) rfl) ?_
  clear SH; have SH := SH2; clear SH2
  refine And.imp_left (rs_iconst i_X8_between_5 (v := 4) (by decide)) ?_
  by_cases c2 : o1.1 ≠ 4
  · replace hf := (if_pos c2).symm.trans hf
    refine And.imp_left (rs_icT i_X8_between_6 (ct_ne c2) (tg := 13) (by decide)) ?_
    refine And.imp_left (rs_iload_n i_X8_between_13 rfl) ?_
    obtain ⟨o3, e3, hf⟩ := bind_some hf
    obtain ⟨u3, SH2⟩ := k_X8_rank (X := X) (d := d) (by omega) (by omega) SH e3
    refine And.imp_left (rs_inS i_X8_between_14 (by decide) m_X8_rank rfl (As := [.int v1]) (rest := [.ref 96]) rfl rfl (Nat.le_of_ble_eq_true rfl) u3 (st' := [.int o3.1, .ref 96]) rfl) ?_
    clear SH; have SH := SH2; clear SH2
    exact q_X8_between_17 hd hh SH hf
  · replace hf := (if_neg c2).symm.trans hf
    refine And.imp_left (rs_icF i_X8_between_6 (cf_ne c2)) ?_
    refine And.imp_left (rs_iconst i_X8_between_9 (v := 5) (by decide)) ?_
    refine And.imp_left (rs_goto i_X8_between_10 (tg := 17) (by decide)) ?_
    exact q_X8_between_17 hd hh SH hf
noncomputable def g_X8_between (n : Nat) (v1 : Int32) (h : Hp) : Option (Int32 × Hp) := g_X8_between_0 n v1 h
theorem k_X8_between {X : Nat → Int32} {d : Nat} (hd : 2 ≤ d) {L hi : Nat} (hh : 125 ≤ hi) {n : Nat} {v1 : Int32} {h : Hp} {o : (Int32 × Hp)}  (SH : SHP L hi h) (hf : g_X8_between n v1 h = some o) : Calls X d 143 [.ref 96, .int v1] h (some (.int o.1), o.2) ∧ SHP L hi o.2 := by
  obtain ⟨d, rfl⟩ : ∃ z, d = z + 1 := ⟨d - 1, by omega⟩
  obtain ⟨r, S2⟩ := q_X8_between_0 hd hh SH hf
  exact ⟨⟨_, rfl, r⟩, S2⟩
noncomputable def g_X8_in_0 (v0 : Int32) (v1 : Int32) (v2 : Int32) (h : Hp) : Option (Int32 × Hp) :=
  if v0 < v1 then
    some (0, h)
  else
    if v2 < v0 then
      some (0, h)
    else
      some (1, h)
set_option maxRecDepth 100000 in
set_option maxHeartbeats 4000000 in
theorem q_X8_in_0 {X : Nat → Int32} {d : Nat} (hd : 0 ≤ d) {L hi : Nat} (hh : 125 ≤ hi) {v0 : Int32} {v1 : Int32} {v2 : Int32} {h : Hp} {o : (Int32 × Hp)}  (SH : SHP L hi h) (hf : g_X8_in_0 v0 v1 v2 h = some o) : Run X d 126 0 [some (.int v0), some (.int v1), some (.int v2)] [] h (some (.int o.1), o.2) ∧ SHP L hi o.2 := by
  unfold g_X8_in_0 at hf
  refine And.imp_left (rs_iload_n i_X8_in_0 rfl) ?_
  refine And.imp_left (rs_iload_n i_X8_in_1 rfl) ?_
  by_cases c1 : v0 < v1
  · replace hf := (if_pos c1).symm.trans hf
    refine And.imp_left (rs_icT i_X8_in_2 (ct_lt c1) (tg := 14) (by decide)) ?_
    refine And.imp_left (rs_iconst i_X8_in_14 (v := 0) (by decide)) ?_
    have hf := Option.some.inj hf
    subst hf
    exact ⟨rs_iret i_X8_in_15 m_X8_in (by decide), SH⟩
  · replace hf := (if_neg c1).symm.trans hf
    refine And.imp_left (rs_icF i_X8_in_2 (cf_lt c1)) ?_
    refine And.imp_left (rs_iload_n i_X8_in_5 rfl) ?_
    refine And.imp_left (rs_iload_n i_X8_in_6 rfl) ?_
    by_cases c2 : v2 < v0
    · replace hf := (if_pos c2).symm.trans hf
      refine And.imp_left (rs_icT i_X8_in_7 (ct_gt c2) (tg := 14) (by decide)) ?_
      refine And.imp_left (rs_iconst i_X8_in_14 (v := 0) (by decide)) ?_
      have hf := Option.some.inj hf
      subst hf
      exact ⟨rs_iret i_X8_in_15 m_X8_in (by decide), SH⟩
    · replace hf := (if_neg c2).symm.trans hf
      refine And.imp_left (rs_icF i_X8_in_7 (cf_gt c2)) ?_
      refine And.imp_left (rs_iconst i_X8_in_10 (v := 1) (by decide)) ?_
      refine And.imp_left (rs_goto i_X8_in_11 (tg := 15) (by decide)) ?_
      have hf := Option.some.inj hf
      subst hf
      exact ⟨rs_iret i_X8_in_15 m_X8_in (by decide), SH⟩
noncomputable def g_X8_in (v0 : Int32) (v1 : Int32) (v2 : Int32) (h : Hp) : Option (Int32 × Hp) := g_X8_in_0 v0 v1 v2 h
theorem k_X8_in {X : Nat → Int32} {d : Nat} (hd : 0 ≤ d) {L hi : Nat} (hh : 125 ≤ hi) {v0 : Int32} {v1 : Int32} {v2 : Int32} {h : Hp} {o : (Int32 × Hp)}  (SH : SHP L hi h) (hf : g_X8_in v0 v1 v2 h = some o) : Calls X d 126 [.int v0, .int v1, .int v2] h (some (.int o.1), o.2) ∧ SHP L hi o.2 := by
  obtain ⟨r, S2⟩ := q_X8_in_0 hd hh SH hf
  exact ⟨⟨_, rfl, r⟩, S2⟩
noncomputable def g_X8_wordFrom_88 (n : Nat) (K2 : Int32 → Int32 → Int32 → Hp → Option (Int32 × Hp)) (v1 : Int32) (v2 : Int32) (v3 : Int32) (v4 : Int32) (h : Hp) : Option (Int32 × Hp) :=
  if v4 = 0 then
    K2 v1 v2 (v3 + 1) h
  else
    some (v3, h)
set_option maxRecDepth 100000 in
set_option maxHeartbeats 4000000 in
theorem q_X8_wordFrom_88 {X : Nat → Int32} {d : Nat} (hd : 0 ≤ d) {L hi : Nat} (hh : 125 ≤ hi) {n : Nat} {K2 : Int32 → Int32 → Int32 → Hp → Option (Int32 × Hp)} (HK2 : ∀ (v1 : Int32) (v2 : Int32) (v3 : Int32) (w4 : Option Value) (w5 : Option Value) (h : Hp) (o : (Int32 × Hp)), SHP L hi h → K2 v1 v2 v3 h = some o → Run X d 136 2 [some (.ref 96), some (.int v1), some (.int v2), some (.int v3), w4, w5] [] h (some (.int o.1), o.2) ∧ SHP L hi o.2) {v1 : Int32} {v2 : Int32} {v3 : Int32} {v4 : Int32} {d5 : Int32} {h : Hp} {o : (Int32 × Hp)}  (SH : SHP L hi h) (hf : g_X8_wordFrom_88 n K2 v1 v2 v3 v4 h = some o) : Run X d 136 88 [some (.ref 96), some (.int v1), some (.int v2), some (.int v3), some (.int v4), some (.int d5)] [] h (some (.int o.1), o.2) ∧ SHP L hi o.2 := by
  unfold g_X8_wordFrom_88 at hf
  refine And.imp_left (rs_iload i_X8_wordFrom_88 rfl) ?_
  by_cases c1 : v4 = 0
  · replace hf := (if_pos c1).symm.trans hf
    refine And.imp_left (rs_ifT i_X8_wordFrom_90 (ct_eq c1) (tg := 95) (by decide)) ?_
    refine And.imp_left (rs_iinc i_X8_wordFrom_95 rfl (v := v3 + 1) rfl (Nat.le_of_ble_eq_true rfl) (lv' := [some (.ref 96), some (.int v1), some (.int v2), some (.int (v3 + 1)), some (.int v4), some (.int d5)]) rfl) ?_
    refine And.imp_left (rs_goto i_X8_wordFrom_98 (tg := 2) (by decide)) ?_
    exact HK2 _ _ _ _ _ _ _ SH hf
  · replace hf := (if_neg c1).symm.trans hf
    refine And.imp_left (rs_ifF i_X8_wordFrom_90 (cf_eq c1)) ?_
    refine And.imp_left (rs_iload_n i_X8_wordFrom_93 rfl) ?_
    have hf := Option.some.inj hf
    subst hf
    exact ⟨rs_iret i_X8_wordFrom_94 m_X8_wordFrom rfl, SH⟩
noncomputable def g_X8_wordFrom_80 (n : Nat) (K2 : Int32 → Int32 → Int32 → Hp → Option (Int32 × Hp)) (K26 : Int32 → Int32 → Int32 → Int32 → Int32 → Hp → Option (Int32 × Hp)) (v1 : Int32) (v2 : Int32) (v3 : Int32) (v5 : Int32) (s0 : Int32) (h : Hp) : Option (Int32 × Hp) :=
  K26 v1 v2 v3 s0 (v5 + 1) h
set_option maxRecDepth 100000 in
set_option maxHeartbeats 4000000 in
theorem q_X8_wordFrom_80 {X : Nat → Int32} {d : Nat} (hd : 0 ≤ d) {L hi : Nat} (hh : 125 ≤ hi) {n : Nat} {K2 : Int32 → Int32 → Int32 → Hp → Option (Int32 × Hp)} {K26 : Int32 → Int32 → Int32 → Int32 → Int32 → Hp → Option (Int32 × Hp)} (HK2 : ∀ (v1 : Int32) (v2 : Int32) (v3 : Int32) (w4 : Option Value) (w5 : Option Value) (h : Hp) (o : (Int32 × Hp)), SHP L hi h → K2 v1 v2 v3 h = some o → Run X d 136 2 [some (.ref 96), some (.int v1), some (.int v2), some (.int v3), w4, w5] [] h (some (.int o.1), o.2) ∧ SHP L hi o.2) (HK26 : ∀ (v1 : Int32) (v2 : Int32) (v3 : Int32) (v4 : Int32) (v5 : Int32) (h : Hp) (o : (Int32 × Hp)), SHP L hi h → K26 v1 v2 v3 v4 v5 h = some o → Run X d 136 26 [some (.ref 96), some (.int v1), some (.int v2), some (.int v3), some (.int v4), some (.int v5)] [] h (some (.int o.1), o.2) ∧ SHP L hi o.2) {v1 : Int32} {v2 : Int32} {v3 : Int32} {v5 : Int32} {s0 : Int32} {d4 : Int32} {h : Hp} {o : (Int32 × Hp)}  (SH : SHP L hi h) (hf : g_X8_wordFrom_80 n K2 K26 v1 v2 v3 v5 s0 h = some o) : Run X d 136 80 [some (.ref 96), some (.int v1), some (.int v2), some (.int v3), some (.int d4), some (.int v5)] [.int s0] h (some (.int o.1), o.2) ∧ SHP L hi o.2 := by
  unfold g_X8_wordFrom_80 at hf
  refine And.imp_left (rs_istore i_X8_wordFrom_80 (Nat.le_of_ble_eq_true rfl) (lv' := [some (.ref 96), some (.int v1), some (.int v2), some (.int v3), some (.int s0), some (.int v5)]) rfl) ?_
  refine And.imp_left (rs_iinc i_X8_wordFrom_82 rfl (v := v5 + 1) rfl (Nat.le_of_ble_eq_true rfl) (lv' := [some (.ref 96), some (.int v1), some (.int v2), some (.int v3), some (.int s0), some (.int (v5 + 1))]) rfl) ?_
  refine And.imp_left (rs_goto i_X8_wordFrom_85 (tg := 26) (by decide)) ?_
  exact HK26 _ _ _ _ _ _ _ SH hf
noncomputable def g_X8_wordFrom_72 (n : Nat) (K2 : Int32 → Int32 → Int32 → Hp → Option (Int32 × Hp)) (K26 : Int32 → Int32 → Int32 → Int32 → Int32 → Hp → Option (Int32 × Hp)) (v1 : Int32) (v2 : Int32) (v3 : Int32) (v5 : Int32) (s0 : Int32) (s1 : Int32) (h : Hp) : Option (Int32 × Hp) :=
  if s0 ≠ s1 then
    g_X8_wordFrom_80 n K2 K26 v1 v2 v3 v5 0 h
  else
    g_X8_wordFrom_80 n K2 K26 v1 v2 v3 v5 1 h
set_option maxRecDepth 100000 in
set_option maxHeartbeats 4000000 in
theorem q_X8_wordFrom_72 {X : Nat → Int32} {d : Nat} (hd : 0 ≤ d) {L hi : Nat} (hh : 125 ≤ hi) {n : Nat} {K2 : Int32 → Int32 → Int32 → Hp → Option (Int32 × Hp)} {K26 : Int32 → Int32 → Int32 → Int32 → Int32 → Hp → Option (Int32 × Hp)} (HK2 : ∀ (v1 : Int32) (v2 : Int32) (v3 : Int32) (w4 : Option Value) (w5 : Option Value) (h : Hp) (o : (Int32 × Hp)), SHP L hi h → K2 v1 v2 v3 h = some o → Run X d 136 2 [some (.ref 96), some (.int v1), some (.int v2), some (.int v3), w4, w5] [] h (some (.int o.1), o.2) ∧ SHP L hi o.2) (HK26 : ∀ (v1 : Int32) (v2 : Int32) (v3 : Int32) (v4 : Int32) (v5 : Int32) (h : Hp) (o : (Int32 × Hp)), SHP L hi h → K26 v1 v2 v3 v4 v5 h = some o → Run X d 136 26 [some (.ref 96), some (.int v1), some (.int v2), some (.int v3), some (.int v4), some (.int v5)] [] h (some (.int o.1), o.2) ∧ SHP L hi o.2) {v1 : Int32} {v2 : Int32} {v3 : Int32} {v5 : Int32} {s0 : Int32} {s1 : Int32} {d4 : Int32} {h : Hp} {o : (Int32 × Hp)}  (SH : SHP L hi h) (hf : g_X8_wordFrom_72 n K2 K26 v1 v2 v3 v5 s0 s1 h = some o) : Run X d 136 72 [some (.ref 96), some (.int v1), some (.int v2), some (.int v3), some (.int d4), some (.int v5)] [.int s1, .int s0] h (some (.int o.1), o.2) ∧ SHP L hi o.2 := by
  unfold g_X8_wordFrom_72 at hf
  by_cases c1 : s0 ≠ s1
  · replace hf := (if_pos c1).symm.trans hf
    refine And.imp_left (rs_icT i_X8_wordFrom_72 (ct_ne c1) (tg := 79) (by decide)) ?_
    refine And.imp_left (rs_iconst i_X8_wordFrom_79 (v := 0) (by decide)) ?_
    exact q_X8_wordFrom_80 hd hh HK2 HK26 SH hf
  · replace hf := (if_neg c1).symm.trans hf
    refine And.imp_left (rs_icF i_X8_wordFrom_72 (cf_ne c1)) ?_
    refine And.imp_left (rs_iconst i_X8_wordFrom_75 (v := 1) (by decide)) ?_
    refine And.imp_left (rs_goto i_X8_wordFrom_76 (tg := 80) (by decide)) ?_
    exact q_X8_wordFrom_80 hd hh HK2 HK26 SH hf
noncomputable def g_X8_wordFrom_26 (n : Nat) (K2 : Int32 → Int32 → Int32 → Hp → Option (Int32 × Hp)) : Nat → Int32 → Int32 → Int32 → Int32 → Int32 → Hp → Option (Int32 × Hp)
  | 0, _, _, _, _, _, _ => none
  | m + 1, v1, v2, v3, v4, v5, h =>
    if 8 ≤ v5 then
      g_X8_wordFrom_88 n K2 v1 v2 v3 v4 h
    else
      if v4 = 0 then
        g_X8_wordFrom_88 n K2 v1 v2 v3 v4 h
      else
        if inb ((8 * v3) + v5) 96 = true then
        if v2 ≤ (v1 + v5) then
          g_X8_wordFrom_72 n K2 (g_X8_wordFrom_26 n K2 m) v1 v2 v3 v5 (gI h 111 (ix ((8 * v3) + v5))) 32 h
        else
          if inb (v1 + v5) 160 = true then
          g_X8_wordFrom_72 n K2 (g_X8_wordFrom_26 n K2 m) v1 v2 v3 v5 (gI h 111 (ix ((8 * v3) + v5))) (gI h 102 (ix (v1 + v5))) h
          else none
        else none
set_option maxRecDepth 100000 in
set_option maxHeartbeats 4000000 in
theorem q_X8_wordFrom_26 {X : Nat → Int32} {d : Nat} (hd : 0 ≤ d) {L hi : Nat} (hh : 125 ≤ hi) {n : Nat} {K2 : Int32 → Int32 → Int32 → Hp → Option (Int32 × Hp)} (HK2 : ∀ (v1 : Int32) (v2 : Int32) (v3 : Int32) (w4 : Option Value) (w5 : Option Value) (h : Hp) (o : (Int32 × Hp)), SHP L hi h → K2 v1 v2 v3 h = some o → Run X d 136 2 [some (.ref 96), some (.int v1), some (.int v2), some (.int v3), w4, w5] [] h (some (.int o.1), o.2) ∧ SHP L hi o.2) : ∀ (m : Nat) (v1 : Int32) (v2 : Int32) (v3 : Int32) (v4 : Int32) (v5 : Int32) (h : Hp) (o : (Int32 × Hp)), SHP L hi h → g_X8_wordFrom_26 n K2 m v1 v2 v3 v4 v5 h = some o → Run X d 136 26 [some (.ref 96), some (.int v1), some (.int v2), some (.int v3), some (.int v4), some (.int v5)] [] h (some (.int o.1), o.2) ∧ SHP L hi o.2 := by
  intro m
  induction m with
  | zero => intro v1 v2 v3 v4 v5 h o SH hf; cases hf
  | succ m ih =>
    intro v1 v2 v3 v4 v5 h o SH hf
    rw [g_X8_wordFrom_26] at hf
    refine And.imp_left (rs_iload i_X8_wordFrom_26 rfl) ?_
    refine And.imp_left (rs_bipush i_X8_wordFrom_28 (v := 8) (by decide)) ?_
    by_cases c1 : 8 ≤ v5
    · replace hf := (if_pos c1).symm.trans hf
      refine And.imp_left (rs_icT i_X8_wordFrom_30 (ct_ge c1) (tg := 88) (by decide)) ?_
      exact q_X8_wordFrom_88 hd hh HK2 SH hf
    · replace hf := (if_neg c1).symm.trans hf
      refine And.imp_left (rs_icF i_X8_wordFrom_30 (cf_ge c1)) ?_
      refine And.imp_left (rs_iload i_X8_wordFrom_33 rfl) ?_
      by_cases c2 : v4 = 0
      · replace hf := (if_pos c2).symm.trans hf
        refine And.imp_left (rs_ifT i_X8_wordFrom_35 (ct_eq c2) (tg := 88) (by decide)) ?_
        exact q_X8_wordFrom_88 hd hh HK2 SH hf
      · replace hf := (if_neg c2).symm.trans hf
        refine And.imp_left (rs_ifF i_X8_wordFrom_35 (cf_eq c2)) ?_
        refine And.imp_left (rs_aload_n i_X8_wordFrom_38 rfl) ?_
        refine And.imp_left (rs_getR i_X8_wordFrom_39 (by decide) (by decide) (sO8 SH hh) (sR8_30 SH hh)) ?_
        refine And.imp_left (rs_bipush i_X8_wordFrom_42 (v := 8) (by decide)) ?_
        refine And.imp_left (rs_iload_n i_X8_wordFrom_44 rfl) ?_
        refine And.imp_left (rs_imul i_X8_wordFrom_45) ?_
        refine And.imp_left (rs_iload i_X8_wordFrom_46 rfl) ?_
        refine And.imp_left (rs_iadd i_X8_wordFrom_48) ?_
        obtain ⟨c3, hf⟩ := ite_some hf
        refine And.imp_left (rs_iald i_X8_wordFrom_49 (mkI (sA SH hh (k := 9) (n := 96) (by decide)) c3)) ?_
        refine And.imp_left (rs_iload_n i_X8_wordFrom_50 rfl) ?_
        refine And.imp_left (rs_iload i_X8_wordFrom_51 rfl) ?_
        refine And.imp_left (rs_iadd i_X8_wordFrom_53) ?_
        refine And.imp_left (rs_iload_n i_X8_wordFrom_54 rfl) ?_
        by_cases c4 : v2 ≤ (v1 + v5)
        · replace hf := (if_pos c4).symm.trans hf
          refine And.imp_left (rs_icT i_X8_wordFrom_55 (ct_ge c4) (tg := 70) (by decide)) ?_
          refine And.imp_left (rs_bipush i_X8_wordFrom_70 (v := 32) (by decide)) ?_
          exact q_X8_wordFrom_72 hd hh HK2 ih SH hf
        · replace hf := (if_neg c4).symm.trans hf
          refine And.imp_left (rs_icF i_X8_wordFrom_55 (cf_ge c4)) ?_
          refine And.imp_left (rs_aload_n i_X8_wordFrom_58 rfl) ?_
          refine And.imp_left (rs_getR i_X8_wordFrom_59 (by decide) (by decide) (sO8 SH hh) (sR8_9 SH hh)) ?_
          refine And.imp_left (rs_iload_n i_X8_wordFrom_62 rfl) ?_
          refine And.imp_left (rs_iload i_X8_wordFrom_63 rfl) ?_
          refine And.imp_left (rs_iadd i_X8_wordFrom_65) ?_
          obtain ⟨c5, hf⟩ := ite_some hf
          refine And.imp_left (rs_iald i_X8_wordFrom_66 (mkI (sA SH hh (k := 9) (n := 160) (by decide)) c5)) ?_
          refine And.imp_left (rs_goto i_X8_wordFrom_67 (tg := 72) (by decide)) ?_
          exact q_X8_wordFrom_72 hd hh HK2 ih SH hf
noncomputable def g_X8_wordFrom_21 (n : Nat) (K2 : Int32 → Int32 → Int32 → Hp → Option (Int32 × Hp)) (v1 : Int32) (v2 : Int32) (v3 : Int32) (s0 : Int32) (h : Hp) : Option (Int32 × Hp) :=
  g_X8_wordFrom_26 n K2 n v1 v2 v3 s0 0 h
set_option maxRecDepth 100000 in
set_option maxHeartbeats 4000000 in
theorem q_X8_wordFrom_21 {X : Nat → Int32} {d : Nat} (hd : 0 ≤ d) {L hi : Nat} (hh : 125 ≤ hi) {n : Nat} {K2 : Int32 → Int32 → Int32 → Hp → Option (Int32 × Hp)} (HK2 : ∀ (v1 : Int32) (v2 : Int32) (v3 : Int32) (w4 : Option Value) (w5 : Option Value) (h : Hp) (o : (Int32 × Hp)), SHP L hi h → K2 v1 v2 v3 h = some o → Run X d 136 2 [some (.ref 96), some (.int v1), some (.int v2), some (.int v3), w4, w5] [] h (some (.int o.1), o.2) ∧ SHP L hi o.2) {v1 : Int32} {v2 : Int32} {v3 : Int32} {s0 : Int32} {w4 : Option Value} {w5 : Option Value} {h : Hp} {o : (Int32 × Hp)}  (SH : SHP L hi h) (hf : g_X8_wordFrom_21 n K2 v1 v2 v3 s0 h = some o) : Run X d 136 21 [some (.ref 96), some (.int v1), some (.int v2), some (.int v3), w4, w5] [.int s0] h (some (.int o.1), o.2) ∧ SHP L hi o.2 := by
  unfold g_X8_wordFrom_21 at hf
  refine And.imp_left (rs_istore i_X8_wordFrom_21 (Nat.le_of_ble_eq_true rfl) (lv' := [some (.ref 96), some (.int v1), some (.int v2), some (.int v3), some (.int s0), w5]) rfl) ?_
  refine And.imp_left (rs_iconst i_X8_wordFrom_23 (v := 0) (by decide)) ?_
  refine And.imp_left (rs_istore i_X8_wordFrom_24 (Nat.le_of_ble_eq_true rfl) (lv' := [some (.ref 96), some (.int v1), some (.int v2), some (.int v3), some (.int s0), some (.int 0)]) rfl) ?_
  exact q_X8_wordFrom_26 hd hh HK2 _ _ _ _ _ _ _ _ SH hf
noncomputable def g_X8_wordFrom_2 (n : Nat) : Nat → Int32 → Int32 → Int32 → Hp → Option (Int32 × Hp)
  | 0, _, _, _, _ => none
  | m + 1, v1, v2, v3, h =>
    if 12 ≤ v3 then
      some (12, h)
    else
      if 8 < (v2 - v1) then
        g_X8_wordFrom_21 n (g_X8_wordFrom_2 n m) v1 v2 v3 0 h
      else
        g_X8_wordFrom_21 n (g_X8_wordFrom_2 n m) v1 v2 v3 1 h
set_option maxRecDepth 100000 in
set_option maxHeartbeats 4000000 in
theorem q_X8_wordFrom_2 {X : Nat → Int32} {d : Nat} (hd : 0 ≤ d) {L hi : Nat} (hh : 125 ≤ hi) {n : Nat} : ∀ (m : Nat) (v1 : Int32) (v2 : Int32) (v3 : Int32) (w4 : Option Value) (w5 : Option Value) (h : Hp) (o : (Int32 × Hp)), SHP L hi h → g_X8_wordFrom_2 n m v1 v2 v3 h = some o → Run X d 136 2 [some (.ref 96), some (.int v1), some (.int v2), some (.int v3), w4, w5] [] h (some (.int o.1), o.2) ∧ SHP L hi o.2 := by
  intro m
  induction m with
  | zero => intro v1 v2 v3 w4 w5 h o SH hf; cases hf
  | succ m ih =>
    intro v1 v2 v3 w4 w5 h o SH hf
    rw [g_X8_wordFrom_2] at hf
    refine And.imp_left (rs_iload_n i_X8_wordFrom_2 rfl) ?_
    refine And.imp_left (rs_bipush i_X8_wordFrom_3 (v := 12) (by decide)) ?_
    by_cases c1 : 12 ≤ v3
    · replace hf := (if_pos c1).symm.trans hf
      refine And.imp_left (rs_icT i_X8_wordFrom_5 (ct_ge c1) (tg := 101) (by decide)) ?_
      refine And.imp_left (rs_bipush i_X8_wordFrom_101 (v := 12) (by decide)) ?_
      have hf := Option.some.inj hf
      subst hf
      exact ⟨rs_iret i_X8_wordFrom_103 m_X8_wordFrom rfl, SH⟩
    · replace hf := (if_neg c1).symm.trans hf
      refine And.imp_left (rs_icF i_X8_wordFrom_5 (cf_ge c1)) ?_
      refine And.imp_left (rs_iload_n i_X8_wordFrom_8 rfl) ?_
      refine And.imp_left (rs_iload_n i_X8_wordFrom_9 rfl) ?_
      refine And.imp_left (rs_isub i_X8_wordFrom_10) ?_
      refine And.imp_left (rs_bipush i_X8_wordFrom_11 (v := 8) (by decide)) ?_
      by_cases c2 : 8 < (v2 - v1)
      · replace hf := (if_pos c2).symm.trans hf
        refine And.imp_left (rs_icT i_X8_wordFrom_13 (ct_gt c2) (tg := 20) (by decide)) ?_
        refine And.imp_left (rs_iconst i_X8_wordFrom_20 (v := 0) (by decide)) ?_
        exact q_X8_wordFrom_21 hd hh ih SH hf
      · replace hf := (if_neg c2).symm.trans hf
        refine And.imp_left (rs_icF i_X8_wordFrom_13 (cf_gt c2)) ?_
        refine And.imp_left (rs_iconst i_X8_wordFrom_16 (v := 1) (by decide)) ?_
        refine And.imp_left (rs_goto i_X8_wordFrom_17 (tg := 21) (by decide)) ?_
        exact q_X8_wordFrom_21 hd hh ih SH hf
noncomputable def g_X8_wordFrom_0 (n : Nat) (v1 : Int32) (v2 : Int32) (h : Hp) : Option (Int32 × Hp) :=
  g_X8_wordFrom_2 n n v1 v2 0 h
set_option maxRecDepth 100000 in
set_option maxHeartbeats 4000000 in
theorem q_X8_wordFrom_0 {X : Nat → Int32} {d : Nat} (hd : 0 ≤ d) {L hi : Nat} (hh : 125 ≤ hi) {n : Nat} {v1 : Int32} {v2 : Int32} {h : Hp} {o : (Int32 × Hp)}  (SH : SHP L hi h) (hf : g_X8_wordFrom_0 n v1 v2 h = some o) : Run X d 136 0 [some (.ref 96), some (.int v1), some (.int v2), none, none, none] [] h (some (.int o.1), o.2) ∧ SHP L hi o.2 := by
  unfold g_X8_wordFrom_0 at hf
  refine And.imp_left (rs_iconst i_X8_wordFrom_0 (v := 0) (by decide)) ?_
  refine And.imp_left (rs_istore_n i_X8_wordFrom_1 (Nat.le_of_ble_eq_true rfl) (lv' := [some (.ref 96), some (.int v1), some (.int v2), some (.int 0), none, none]) rfl) ?_
  exact q_X8_wordFrom_2 hd hh _ _ _ _ _ _ _ _ SH hf
noncomputable def g_X8_wordFrom (n : Nat) (v1 : Int32) (v2 : Int32) (h : Hp) : Option (Int32 × Hp) := g_X8_wordFrom_0 n v1 v2 h
theorem k_X8_wordFrom {X : Nat → Int32} {d : Nat} (hd : 0 ≤ d) {L hi : Nat} (hh : 125 ≤ hi) {n : Nat} {v1 : Int32} {v2 : Int32} {h : Hp} {o : (Int32 × Hp)}  (SH : SHP L hi h) (hf : g_X8_wordFrom n v1 v2 h = some o) : Calls X d 136 [.ref 96, .int v1, .int v2] h (some (.int o.1), o.2) ∧ SHP L hi o.2 := by
  obtain ⟨r, S2⟩ := q_X8_wordFrom_0 hd hh SH hf
  exact ⟨⟨_, rfl, r⟩, S2⟩
noncomputable def g_X8_next_393 (n : Nat)  (h : Hp) : Option Hp :=
  some (hsi h 96 26 ((gI h 96 26) + 1))
set_option maxRecDepth 100000 in
set_option maxHeartbeats 4000000 in
theorem q_X8_next_393 {X : Nat → Int32} {d : Nat} (hd : 1 ≤ (d + 1)) {L hi : Nat} (hh : 125 ≤ hi) {n : Nat} {d1 : Int32} {d2 : Int32} {h : Hp} {o : Hp}  (SH : SHP L hi h) (hf : g_X8_next_393 n h = some o) : Run X (d + 1) 137 393 [some (.ref 96), some (.int d1), some (.int d2)] [] h (none, o) ∧ SHP L hi o := by
  unfold g_X8_next_393 at hf
  refine And.imp_left (rs_aload_n i_X8_next_393 rfl) ?_
  refine And.imp_left (rs_dup i_X8_next_394 rfl) ?_
  refine And.imp_left (rs_getI i_X8_next_395 (by decide) (by decide) (sO8 SH hh)) ?_
  refine And.imp_left (rs_iconst i_X8_next_398 (v := 1) (by decide)) ?_
  refine And.imp_left (rs_iadd i_X8_next_399) ?_
  refine And.imp_left (rs_putI i_X8_next_400 (by decide) (sO8 SH hh)) ?_
  have SH := shi SH 96 26 ((gI h 96 26) + 1)
  have hf := Option.some.inj hf
  subst hf
  exact ⟨rs_vret i_X8_next_403 m_X8_next rfl, SH⟩
noncomputable def g_X8_next_390 (n : Nat) (s1 : Int32) (h : Hp) : Option Hp :=
  g_X8_next_393 n (hsi h 96 28 s1)
set_option maxRecDepth 100000 in
set_option maxHeartbeats 4000000 in
theorem q_X8_next_390 {X : Nat → Int32} {d : Nat} (hd : 1 ≤ (d + 1)) {L hi : Nat} (hh : 125 ≤ hi) {n : Nat} {s1 : Int32} {d1 : Int32} {d2 : Int32} {h : Hp} {o : Hp}  (SH : SHP L hi h) (hf : g_X8_next_390 n s1 h = some o) : Run X (d + 1) 137 390 [some (.ref 96), some (.int d1), some (.int d2)] [.int s1, .ref 96] h (none, o) ∧ SHP L hi o := by
  unfold g_X8_next_390 at hf
  refine And.imp_left (rs_putI i_X8_next_390 (by decide) (sO8 SH hh)) ?_
  have SH := shi SH 96 28 s1
  exact q_X8_next_393 hd hh SH hf
noncomputable def g_X8_next_379 (n : Nat) (v1 : Int32) (s0 : Int32) (h : Hp) : Option Hp :=
  if s0 = 0 then
    g_X8_next_390 n (-1) h
  else
    g_X8_next_390 n v1 h
set_option maxRecDepth 100000 in
set_option maxHeartbeats 4000000 in
theorem q_X8_next_379 {X : Nat → Int32} {d : Nat} (hd : 1 ≤ (d + 1)) {L hi : Nat} (hh : 125 ≤ hi) {n : Nat} {v1 : Int32} {s0 : Int32} {h : Hp} {o : Hp}  (SH : SHP L hi h) (hf : g_X8_next_379 n v1 s0 h = some o) : Run X (d + 1) 137 379 [some (.ref 96), some (.int v1), none] [.int s0] h (none, o) ∧ SHP L hi o := by
  unfold g_X8_next_379 at hf
  refine And.imp_left (rs_istore_n i_X8_next_379 (Nat.le_of_ble_eq_true rfl) (lv' := [some (.ref 96), some (.int v1), some (.int s0)]) rfl) ?_
  refine And.imp_left (rs_aload_n i_X8_next_380 rfl) ?_
  refine And.imp_left (rs_iload_n i_X8_next_381 rfl) ?_
  by_cases c1 : s0 = 0
  · replace hf := (if_pos c1).symm.trans hf
    refine And.imp_left (rs_ifT i_X8_next_382 (ct_eq c1) (tg := 389) (by decide)) ?_
    refine And.imp_left (rs_iconst i_X8_next_389 (v := (-1)) (by decide)) ?_
    exact q_X8_next_390 hd hh SH hf
  · replace hf := (if_neg c1).symm.trans hf
    refine And.imp_left (rs_ifF i_X8_next_382 (cf_eq c1)) ?_
    refine And.imp_left (rs_iload_n i_X8_next_385 rfl) ?_
    refine And.imp_left (rs_goto i_X8_next_386 (tg := 390) (by decide)) ?_
    exact q_X8_next_390 hd hh SH hf
noncomputable def g_X8_next_374 (n : Nat) (v1 : Int32) (h : Hp) : Option Hp :=
  g_X8_next_379 n v1 1 h
set_option maxRecDepth 100000 in
set_option maxHeartbeats 4000000 in
theorem q_X8_next_374 {X : Nat → Int32} {d : Nat} (hd : 1 ≤ (d + 1)) {L hi : Nat} (hh : 125 ≤ hi) {n : Nat} {v1 : Int32} {h : Hp} {o : Hp}  (SH : SHP L hi h) (hf : g_X8_next_374 n v1 h = some o) : Run X (d + 1) 137 374 [some (.ref 96), some (.int v1), none] [] h (none, o) ∧ SHP L hi o := by
  unfold g_X8_next_374 at hf
  refine And.imp_left (rs_iconst i_X8_next_374 (v := 1) (by decide)) ?_
  refine And.imp_left (rs_goto i_X8_next_375 (tg := 379) (by decide)) ?_
  exact q_X8_next_379 hd hh SH hf
noncomputable def g_X8_next_320 (n : Nat) (s1 : Int32) (h : Hp) : Option Hp :=
  some (hsi h 96 28 s1)
set_option maxRecDepth 100000 in
set_option maxHeartbeats 4000000 in
theorem q_X8_next_320 {X : Nat → Int32} {d : Nat} (hd : 1 ≤ (d + 1)) {L hi : Nat} (hh : 125 ≤ hi) {n : Nat} {s1 : Int32} {d1 : Int32} {d2 : Int32} {h : Hp} {o : Hp}  (SH : SHP L hi h) (hf : g_X8_next_320 n s1 h = some o) : Run X (d + 1) 137 320 [some (.ref 96), some (.int d1), some (.int d2)] [.int s1, .ref 96] h (none, o) ∧ SHP L hi o := by
  unfold g_X8_next_320 at hf
  refine And.imp_left (rs_putI i_X8_next_320 (by decide) (sO8 SH hh)) ?_
  have SH := shi SH 96 28 s1
  refine And.imp_left (rs_goto i_X8_next_323 (tg := 403) (by decide)) ?_
  have hf := Option.some.inj hf
  subst hf
  exact ⟨rs_vret i_X8_next_403 m_X8_next rfl, SH⟩
noncomputable def g_X8_next_309 (n : Nat) (v2 : Int32) (h : Hp) : Option Hp :=
  if v2 ≤ 4 then
    g_X8_next_320 n 1 h
  else
    g_X8_next_320 n (-1) h
set_option maxRecDepth 100000 in
set_option maxHeartbeats 4000000 in
theorem q_X8_next_309 {X : Nat → Int32} {d : Nat} (hd : 1 ≤ (d + 1)) {L hi : Nat} (hh : 125 ≤ hi) {n : Nat} {v2 : Int32} {d1 : Int32} {h : Hp} {o : Hp}  (SH : SHP L hi h) (hf : g_X8_next_309 n v2 h = some o) : Run X (d + 1) 137 309 [some (.ref 96), some (.int d1), some (.int v2)] [] h (none, o) ∧ SHP L hi o := by
  unfold g_X8_next_309 at hf
  refine And.imp_left (rs_aload_n i_X8_next_309 rfl) ?_
  refine And.imp_left (rs_iload_n i_X8_next_310 rfl) ?_
  refine And.imp_left (rs_iconst i_X8_next_311 (v := 4) (by decide)) ?_
  by_cases c1 : v2 ≤ 4
  · replace hf := (if_pos c1).symm.trans hf
    refine And.imp_left (rs_icT i_X8_next_312 (ct_le c1) (tg := 319) (by decide)) ?_
    refine And.imp_left (rs_iconst i_X8_next_319 (v := 1) (by decide)) ?_
    exact q_X8_next_320 hd hh SH hf
  · replace hf := (if_neg c1).symm.trans hf
    refine And.imp_left (rs_icF i_X8_next_312 (cf_le c1)) ?_
    refine And.imp_left (rs_iconst i_X8_next_315 (v := (-1)) (by decide)) ?_
    refine And.imp_left (rs_goto i_X8_next_316 (tg := 320) (by decide)) ?_
    exact q_X8_next_320 hd hh SH hf
noncomputable def g_X8_next_293 (n : Nat) (K230 : Int32 → Hp → Option Hp) (v2 : Int32) (h : Hp) : Option Hp :=
  K230 (v2 + 1) (hsi h 96 26 ((gI h 96 26) + 1))
set_option maxRecDepth 100000 in
set_option maxHeartbeats 4000000 in
theorem q_X8_next_293 {X : Nat → Int32} {d : Nat} (hd : 1 ≤ (d + 1)) {L hi : Nat} (hh : 125 ≤ hi) {n : Nat} {K230 : Int32 → Hp → Option Hp} (HK230 : ∀ (v2 : Int32) (d1 : Int32) (h : Hp) (o : Hp), SHP L hi h → K230 v2 h = some o → Run X (d + 1) 137 230 [some (.ref 96), some (.int d1), some (.int v2)] [] h (none, o) ∧ SHP L hi o) {v2 : Int32} {d1 : Int32} {h : Hp} {o : Hp}  (SH : SHP L hi h) (hf : g_X8_next_293 n K230 v2 h = some o) : Run X (d + 1) 137 293 [some (.ref 96), some (.int d1), some (.int v2)] [] h (none, o) ∧ SHP L hi o := by
  unfold g_X8_next_293 at hf
  refine And.imp_left (rs_iinc i_X8_next_293 rfl (v := v2 + 1) rfl (Nat.le_of_ble_eq_true rfl) (lv' := [some (.ref 96), some (.int d1), some (.int (v2 + 1))]) rfl) ?_
  refine And.imp_left (rs_aload_n i_X8_next_296 rfl) ?_
  refine And.imp_left (rs_dup i_X8_next_297 rfl) ?_
  refine And.imp_left (rs_getI i_X8_next_298 (by decide) (by decide) (sO8 SH hh)) ?_
  refine And.imp_left (rs_iconst i_X8_next_301 (v := 1) (by decide)) ?_
  refine And.imp_left (rs_iadd i_X8_next_302) ?_
  refine And.imp_left (rs_putI i_X8_next_303 (by decide) (sO8 SH hh)) ?_
  have SH := shi SH 96 26 ((gI h 96 26) + 1)
  refine And.imp_left (rs_goto i_X8_next_306 (tg := 230) (by decide)) ?_
  exact HK230 _ _ _ _ SH hf
noncomputable def g_X8_next_290 (n : Nat) (K230 : Int32 → Hp → Option Hp) (v2 : Int32) (s1 : Int32) (h : Hp) : Option Hp :=
  g_X8_next_293 n K230 v2 (hsi h 96 29 s1)
set_option maxRecDepth 100000 in
set_option maxHeartbeats 4000000 in
theorem q_X8_next_290 {X : Nat → Int32} {d : Nat} (hd : 1 ≤ (d + 1)) {L hi : Nat} (hh : 125 ≤ hi) {n : Nat} {K230 : Int32 → Hp → Option Hp} (HK230 : ∀ (v2 : Int32) (d1 : Int32) (h : Hp) (o : Hp), SHP L hi h → K230 v2 h = some o → Run X (d + 1) 137 230 [some (.ref 96), some (.int d1), some (.int v2)] [] h (none, o) ∧ SHP L hi o) {v2 : Int32} {s1 : Int32} {d1 : Int32} {h : Hp} {o : Hp}  (SH : SHP L hi h) (hf : g_X8_next_290 n K230 v2 s1 h = some o) : Run X (d + 1) 137 290 [some (.ref 96), some (.int d1), some (.int v2)] [.int s1, .ref 96] h (none, o) ∧ SHP L hi o := by
  unfold g_X8_next_290 at hf
  refine And.imp_left (rs_putI i_X8_next_290 (by decide) (sO8 SH hh)) ?_
  have SH := shi SH 96 29 s1
  exact q_X8_next_293 hd hh HK230 SH hf
noncomputable def g_X8_next_230 (n : Nat) : Nat → Int32 → Hp → Option Hp
  | 0, _, _ => none
  | m + 1, v2, h =>
    if (gI h 96 10) ≤ (gI h 96 26) then
      g_X8_next_309 n v2 h
    else
      if inb (gI h 96 26) 160 = true then
      (g_X8_in (gI h 102 (ix (gI h 96 26))) 48 57 h).bind fun o3 =>
      if o3.1 = 0 then
        g_X8_next_309 n v2 o3.2
      else
        if 4 ≤ v2 then
          g_X8_next_290 n (g_X8_next_230 n m) v2 0 o3.2
        else
          if inb (gI o3.2 96 26) 160 = true then
          g_X8_next_290 n (g_X8_next_230 n m) v2 (((10 * (gI o3.2 96 29)) + (gI o3.2 102 (ix (gI o3.2 96 26)))) - 48) o3.2
          else none
      else none
set_option maxRecDepth 100000 in
set_option maxHeartbeats 4000000 in
theorem q_X8_next_230 {X : Nat → Int32} {d : Nat} (hd : 1 ≤ (d + 1)) {L hi : Nat} (hh : 125 ≤ hi) {n : Nat} : ∀ (m : Nat) (v2 : Int32) (d1 : Int32) (h : Hp) (o : Hp), SHP L hi h → g_X8_next_230 n m v2 h = some o → Run X (d + 1) 137 230 [some (.ref 96), some (.int d1), some (.int v2)] [] h (none, o) ∧ SHP L hi o := by
  intro m
  induction m with
  | zero => intro v2 d1 h o SH hf; cases hf
  | succ m ih =>
    intro v2 d1 h o SH hf
    rw [g_X8_next_230] at hf
    refine And.imp_left (rs_aload_n i_X8_next_230 rfl) ?_
    refine And.imp_left (rs_getI i_X8_next_231 (by decide) (by decide) (sO8 SH hh)) ?_
    refine And.imp_left (rs_aload_n i_X8_next_234 rfl) ?_
    refine And.imp_left (rs_getI i_X8_next_235 (by decide) (by decide) (sO8 SH hh)) ?_
    by_cases c1 : (gI h 96 10) ≤ (gI h 96 26)
    · replace hf := (if_pos c1).symm.trans hf
      refine And.imp_left (rs_icT i_X8_next_238 (ct_ge c1) (tg := 309) (by decide)) ?_
      exact q_X8_next_309 hd hh SH hf
    · replace hf := (if_neg c1).symm.trans hf
      refine And.imp_left (rs_icF i_X8_next_238 (cf_ge c1)) ?_
      refine And.imp_left (rs_aload_n i_X8_next_241 rfl) ?_
      refine And.imp_left (rs_getR i_X8_next_242 (by decide) (by decide) (sO8 SH hh) (sR8_9 SH hh)) ?_
      refine And.imp_left (rs_aload_n i_X8_next_245 rfl) ?_
      refine And.imp_left (rs_getI i_X8_next_246 (by decide) (by decide) (sO8 SH hh)) ?_
      obtain ⟨c2, hf⟩ := ite_some hf
      refine And.imp_left (rs_iald i_X8_next_249 (mkI (sA SH hh (k := 9) (n := 160) (by decide)) c2)) ?_
      refine And.imp_left (rs_bipush i_X8_next_250 (v := 48) (by decide)) ?_
      refine And.imp_left (rs_bipush i_X8_next_252 (v := 57) (by decide)) ?_
      obtain ⟨o3, e3, hf⟩ := bind_some hf
      obtain ⟨u3, SH2⟩ := k_X8_in (X := X) (d := d) (by omega) (by omega) SH e3
      refine And.imp_left (rs_inS i_X8_next_254 (by decide) m_X8_in rfl (As := [.int (gI h 102 (ix (gI h 96 26))), .int 48, .int 57]) (rest := []) rfl rfl (Nat.le_of_ble_eq_true rfl) u3 (st' := [.int o3.1]) rfl) ?_
      clear SH; have SH := SH2; clear SH2
      by_cases c4 : o3.1 = 0
      · replace hf := (if_pos c4).symm.trans hf
        refine And.imp_left (rs_ifT i_X8_next_257 (ct_eq c4) (tg := 309) (by decide)) ?_
        exact q_X8_next_309 hd hh SH hf
      · replace hf := (if_neg c4).symm.trans hf
        refine And.imp_left (rs_ifF i_X8_next_257 (cf_eq c4)) ?_
        refine And.imp_left (rs_aload_n i_X8_next_260 rfl) ?_
        refine And.imp_left (rs_iload_n i_X8_next_261 rfl) ?_
        refine And.imp_left (rs_iconst i_X8_next_262 (v := 4) (by decide)) ?_
        by_cases c5 : 4 ≤ v2
        · replace hf := (if_pos c5).symm.trans hf
          refine And.imp_left (rs_icT i_X8_next_263 (ct_ge c5) (tg := 289) (by decide)) ?_
          refine And.imp_left (rs_iconst i_X8_next_289 (v := 0) (by decide)) ?_
          exact q_X8_next_290 hd hh ih SH hf
        · replace hf := (if_neg c5).symm.trans hf
          refine And.imp_left (rs_icF i_X8_next_263 (cf_ge c5)) ?_
          refine And.imp_left (rs_bipush i_X8_next_266 (v := 10) (by decide)) ?_
          refine And.imp_left (rs_aload_n i_X8_next_268 rfl) ?_
          refine And.imp_left (rs_getI i_X8_next_269 (by decide) (by decide) (sO8 SH hh)) ?_
          refine And.imp_left (rs_imul i_X8_next_272) ?_
          refine And.imp_left (rs_aload_n i_X8_next_273 rfl) ?_
          refine And.imp_left (rs_getR i_X8_next_274 (by decide) (by decide) (sO8 SH hh) (sR8_9 SH hh)) ?_
          refine And.imp_left (rs_aload_n i_X8_next_277 rfl) ?_
          refine And.imp_left (rs_getI i_X8_next_278 (by decide) (by decide) (sO8 SH hh)) ?_
          obtain ⟨c6, hf⟩ := ite_some hf
          refine And.imp_left (rs_iald i_X8_next_281 (mkI (sA SH hh (k := 9) (n := 160) (by decide)) c6)) ?_
          refine And.imp_left (rs_iadd i_X8_next_282) ?_
          refine And.imp_left (rs_bipush i_X8_next_283 (v := 48) (by decide)) ?_
          refine And.imp_left (rs_isub i_X8_next_285) ?_
          refine And.imp_left (rs_goto i_X8_next_286 (tg := 290) (by decide)) ?_
          exact q_X8_next_290 hd hh ih SH hf
noncomputable def g_X8_next_211 (n : Nat) (s1 : Int32) (h : Hp) : Option Hp :=
  some (hsi h 96 29 s1)
set_option maxRecDepth 100000 in
set_option maxHeartbeats 4000000 in
theorem q_X8_next_211 {X : Nat → Int32} {d : Nat} (hd : 1 ≤ (d + 1)) {L hi : Nat} (hh : 125 ≤ hi) {n : Nat} {s1 : Int32} {d1 : Int32} {d2 : Int32} {h : Hp} {o : Hp}  (SH : SHP L hi h) (hf : g_X8_next_211 n s1 h = some o) : Run X (d + 1) 137 211 [some (.ref 96), some (.int d1), some (.int d2)] [.int s1, .ref 96] h (none, o) ∧ SHP L hi o := by
  unfold g_X8_next_211 at hf
  refine And.imp_left (rs_putI i_X8_next_211 (by decide) (sO8 SH hh)) ?_
  have SH := shi SH 96 29 s1
  refine And.imp_left (rs_goto i_X8_next_214 (tg := 403) (by decide)) ?_
  have hf := Option.some.inj hf
  subst hf
  exact ⟨rs_vret i_X8_next_403 m_X8_next rfl, SH⟩
noncomputable def g_X8_next_198 (n : Nat) (v2 : Int32) (h : Hp) : Option Hp :=
  if 3 ≤ v2 then
    g_X8_next_211 n (v2 - 3) h
  else
    g_X8_next_211 n v2 h
set_option maxRecDepth 100000 in
set_option maxHeartbeats 4000000 in
theorem q_X8_next_198 {X : Nat → Int32} {d : Nat} (hd : 1 ≤ (d + 1)) {L hi : Nat} (hh : 125 ≤ hi) {n : Nat} {v2 : Int32} {d1 : Int32} {h : Hp} {o : Hp}  (SH : SHP L hi h) (hf : g_X8_next_198 n v2 h = some o) : Run X (d + 1) 137 198 [some (.ref 96), some (.int d1), some (.int v2)] [] h (none, o) ∧ SHP L hi o := by
  unfold g_X8_next_198 at hf
  refine And.imp_left (rs_aload_n i_X8_next_198 rfl) ?_
  refine And.imp_left (rs_iload_n i_X8_next_199 rfl) ?_
  refine And.imp_left (rs_iconst i_X8_next_200 (v := 3) (by decide)) ?_
  by_cases c1 : 3 ≤ v2
  · replace hf := (if_pos c1).symm.trans hf
    refine And.imp_left (rs_icT i_X8_next_201 (ct_ge c1) (tg := 208) (by decide)) ?_
    refine And.imp_left (rs_iload_n i_X8_next_208 rfl) ?_
    refine And.imp_left (rs_iconst i_X8_next_209 (v := 3) (by decide)) ?_
    refine And.imp_left (rs_isub i_X8_next_210) ?_
    exact q_X8_next_211 hd hh SH hf
  · replace hf := (if_neg c1).symm.trans hf
    refine And.imp_left (rs_icF i_X8_next_201 (cf_ge c1)) ?_
    refine And.imp_left (rs_iload_n i_X8_next_204 rfl) ?_
    refine And.imp_left (rs_goto i_X8_next_205 (tg := 211) (by decide)) ?_
    exact q_X8_next_211 hd hh SH hf
noncomputable def g_X8_next_195 (n : Nat) (v2 : Int32) (s1 : Int32) (h : Hp) : Option Hp :=
  g_X8_next_198 n v2 (hsi h 96 28 s1)
set_option maxRecDepth 100000 in
set_option maxHeartbeats 4000000 in
theorem q_X8_next_195 {X : Nat → Int32} {d : Nat} (hd : 1 ≤ (d + 1)) {L hi : Nat} (hh : 125 ≤ hi) {n : Nat} {v2 : Int32} {s1 : Int32} {d1 : Int32} {h : Hp} {o : Hp}  (SH : SHP L hi h) (hf : g_X8_next_195 n v2 s1 h = some o) : Run X (d + 1) 137 195 [some (.ref 96), some (.int d1), some (.int v2)] [.int s1, .ref 96] h (none, o) ∧ SHP L hi o := by
  unfold g_X8_next_195 at hf
  refine And.imp_left (rs_putI i_X8_next_195 (by decide) (sO8 SH hh)) ?_
  have SH := shi SH 96 28 s1
  exact q_X8_next_198 hd hh SH hf
noncomputable def g_X8_next_146 (n : Nat)  (h : Hp) : Option Hp :=
  (g_X8_wordFrom n (gI h 96 27) (gI h 96 26) h).bind fun o1 =>
  if 3 ≤ o1.1 then
    if 9 ≤ o1.1 then
      if o1.1 ≠ 12 then
        g_X8_next_195 n o1.1 ((4 + o1.1) - 9) o1.2
      else
        g_X8_next_195 n o1.1 (-1) o1.2
    else
      g_X8_next_195 n o1.1 2 o1.2
  else
    g_X8_next_195 n o1.1 3 o1.2
set_option maxRecDepth 100000 in
set_option maxHeartbeats 4000000 in
theorem q_X8_next_146 {X : Nat → Int32} {d : Nat} (hd : 1 ≤ (d + 1)) {L hi : Nat} (hh : 125 ≤ hi) {n : Nat} {d1 : Int32} {h : Hp} {o : Hp}  (SH : SHP L hi h) (hf : g_X8_next_146 n h = some o) : Run X (d + 1) 137 146 [some (.ref 96), some (.int d1), none] [] h (none, o) ∧ SHP L hi o := by
  unfold g_X8_next_146 at hf
  refine And.imp_left (rs_aload_n i_X8_next_146 rfl) ?_
  refine And.imp_left (rs_aload_n i_X8_next_147 rfl) ?_
  refine And.imp_left (rs_getI i_X8_next_148 (by decide) (by decide) (sO8 SH hh)) ?_
  refine And.imp_left (rs_aload_n i_X8_next_151 rfl) ?_
  refine And.imp_left (rs_getI i_X8_next_152 (by decide) (by decide) (sO8 SH hh)) ?_
  obtain ⟨o1, e1, hf⟩ := bind_some hf
  obtain ⟨u1, SH2⟩ := k_X8_wordFrom (X := X) (d := d) (by omega) (by omega) SH e1
  refine And.imp_left (rs_inV i_X8_next_155 m_X8_wordFrom rfl (As := [.int (gI h 96 27), .int (gI h 96 26)]) (rest := []) rfl rfl (Nat.le_of_ble_eq_true rfl) (sO8 SH hh) u1 (st' := [.int o1.1]) rfl) ?_
  clear SH; have SH := SH2; clear SH2
  refine And.imp_left (rs_istore_n i_X8_next_158 (Nat.le_of_ble_eq_true rfl) (lv' := [some (.ref 96), some (.int d1), some (.int o1.1)]) rfl) ?_
  refine And.imp_left (rs_aload_n i_X8_next_159 rfl) ?_
  refine And.imp_left (rs_iload_n i_X8_next_160 rfl) ?_
  refine And.imp_left (rs_iconst i_X8_next_161 (v := 3) (by decide)) ?_
  by_cases c2 : 3 ≤ o1.1
  · replace hf := (if_pos c2).symm.trans hf
    refine And.imp_left (rs_icT i_X8_next_162 (ct_ge c2) (tg := 169) (by decide)) ?_
    refine And.imp_left (rs_iload_n i_X8_next_169 rfl) ?_
    refine And.imp_left (rs_bipush i_X8_next_170 (v := 9) (by decide)) ?_
    by_cases c3 : 9 ≤ o1.1
    · replace hf := (if_pos c3).symm.trans hf
      refine And.imp_left (rs_icT i_X8_next_172 (ct_ge c3) (tg := 179) (by decide)) ?_
      refine And.imp_left (rs_iload_n i_X8_next_179 rfl) ?_
      refine And.imp_left (rs_bipush i_X8_next_180 (v := 12) (by decide)) ?_
      by_cases c4 : o1.1 ≠ 12
      · replace hf := (if_pos c4).symm.trans hf
        refine And.imp_left (rs_icT i_X8_next_182 (ct_ne c4) (tg := 189) (by decide)) ?_
        refine And.imp_left (rs_iconst i_X8_next_189 (v := 4) (by decide)) ?_
        refine And.imp_left (rs_iload_n i_X8_next_190 rfl) ?_
        refine And.imp_left (rs_iadd i_X8_next_191) ?_
        refine And.imp_left (rs_bipush i_X8_next_192 (v := 9) (by decide)) ?_
        refine And.imp_left (rs_isub i_X8_next_194) ?_
        exact q_X8_next_195 hd hh SH hf
      · replace hf := (if_neg c4).symm.trans hf
        refine And.imp_left (rs_icF i_X8_next_182 (cf_ne c4)) ?_
        refine And.imp_left (rs_iconst i_X8_next_185 (v := (-1)) (by decide)) ?_
        refine And.imp_left (rs_goto i_X8_next_186 (tg := 195) (by decide)) ?_
        exact q_X8_next_195 hd hh SH hf
    · replace hf := (if_neg c3).symm.trans hf
      refine And.imp_left (rs_icF i_X8_next_172 (cf_ge c3)) ?_
      refine And.imp_left (rs_iconst i_X8_next_175 (v := 2) (by decide)) ?_
      refine And.imp_left (rs_goto i_X8_next_176 (tg := 195) (by decide)) ?_
      exact q_X8_next_195 hd hh SH hf
  · replace hf := (if_neg c2).symm.trans hf
    refine And.imp_left (rs_icF i_X8_next_162 (cf_ge c2)) ?_
    refine And.imp_left (rs_iconst i_X8_next_165 (v := 3) (by decide)) ?_
    refine And.imp_left (rs_goto i_X8_next_166 (tg := 195) (by decide)) ?_
    exact q_X8_next_195 hd hh SH hf
noncomputable def g_X8_next_103 (n : Nat) : Nat → Hp → Option Hp
  | 0, _ => none
  | m + 1, h =>
    if (gI h 96 10) ≤ (gI h 96 26) then
      g_X8_next_146 n h
    else
      if inb (gI h 96 26) 160 = true then
      (g_X8_in (gI h 102 (ix (gI h 96 26))) 97 122 h).bind fun o3 =>
      if o3.1 = 0 then
        g_X8_next_146 n o3.2
      else
        (g_X8_next_103 n m) (hsi o3.2 96 26 ((gI o3.2 96 26) + 1))
      else none
set_option maxRecDepth 100000 in
set_option maxHeartbeats 4000000 in
theorem q_X8_next_103 {X : Nat → Int32} {d : Nat} (hd : 1 ≤ (d + 1)) {L hi : Nat} (hh : 125 ≤ hi) {n : Nat} : ∀ (m : Nat) (d1 : Int32) (h : Hp) (o : Hp), SHP L hi h → g_X8_next_103 n m h = some o → Run X (d + 1) 137 103 [some (.ref 96), some (.int d1), none] [] h (none, o) ∧ SHP L hi o := by
  intro m
  induction m with
  | zero => intro d1 h o SH hf; cases hf
  | succ m ih =>
    intro d1 h o SH hf
    rw [g_X8_next_103] at hf
    refine And.imp_left (rs_aload_n i_X8_next_103 rfl) ?_
    refine And.imp_left (rs_getI i_X8_next_104 (by decide) (by decide) (sO8 SH hh)) ?_
    refine And.imp_left (rs_aload_n i_X8_next_107 rfl) ?_
    refine And.imp_left (rs_getI i_X8_next_108 (by decide) (by decide) (sO8 SH hh)) ?_
    by_cases c1 : (gI h 96 10) ≤ (gI h 96 26)
    · replace hf := (if_pos c1).symm.trans hf
      refine And.imp_left (rs_icT i_X8_next_111 (ct_ge c1) (tg := 146) (by decide)) ?_
      exact q_X8_next_146 hd hh SH hf
    · replace hf := (if_neg c1).symm.trans hf
      refine And.imp_left (rs_icF i_X8_next_111 (cf_ge c1)) ?_
      refine And.imp_left (rs_aload_n i_X8_next_114 rfl) ?_
      refine And.imp_left (rs_getR i_X8_next_115 (by decide) (by decide) (sO8 SH hh) (sR8_9 SH hh)) ?_
      refine And.imp_left (rs_aload_n i_X8_next_118 rfl) ?_
      refine And.imp_left (rs_getI i_X8_next_119 (by decide) (by decide) (sO8 SH hh)) ?_
      obtain ⟨c2, hf⟩ := ite_some hf
      refine And.imp_left (rs_iald i_X8_next_122 (mkI (sA SH hh (k := 9) (n := 160) (by decide)) c2)) ?_
      refine And.imp_left (rs_bipush i_X8_next_123 (v := 97) (by decide)) ?_
      refine And.imp_left (rs_bipush i_X8_next_125 (v := 122) (by decide)) ?_
      obtain ⟨o3, e3, hf⟩ := bind_some hf
      obtain ⟨u3, SH2⟩ := k_X8_in (X := X) (d := d) (by omega) (by omega) SH e3
      refine And.imp_left (rs_inS i_X8_next_127 (by decide) m_X8_in rfl (As := [.int (gI h 102 (ix (gI h 96 26))), .int 97, .int 122]) (rest := []) rfl rfl (Nat.le_of_ble_eq_true rfl) u3 (st' := [.int o3.1]) rfl) ?_
      clear SH; have SH := SH2; clear SH2
      by_cases c4 : o3.1 = 0
      · replace hf := (if_pos c4).symm.trans hf
        refine And.imp_left (rs_ifT i_X8_next_130 (ct_eq c4) (tg := 146) (by decide)) ?_
        exact q_X8_next_146 hd hh SH hf
      · replace hf := (if_neg c4).symm.trans hf
        refine And.imp_left (rs_ifF i_X8_next_130 (cf_eq c4)) ?_
        refine And.imp_left (rs_aload_n i_X8_next_133 rfl) ?_
        refine And.imp_left (rs_dup i_X8_next_134 rfl) ?_
        refine And.imp_left (rs_getI i_X8_next_135 (by decide) (by decide) (sO8 SH hh)) ?_
        refine And.imp_left (rs_iconst i_X8_next_138 (v := 1) (by decide)) ?_
        refine And.imp_left (rs_iadd i_X8_next_139) ?_
        refine And.imp_left (rs_putI i_X8_next_140 (by decide) (sO8 SH hh)) ?_
        have SH := shi SH 96 26 ((gI o3.2 96 26) + 1)
        refine And.imp_left (rs_goto i_X8_next_143 (tg := 103) (by decide)) ?_
        exact ih _ _ _ SH hf
noncomputable def g_X8_next_70 (n : Nat)  (h : Hp) : Option Hp :=
  if (gI h 96 26) ≠ (gI h 96 10) then
    if inb (gI h 96 26) 160 = true then
    (g_X8_in (gI h 102 (ix (gI h 96 26))) 97 122 h).bind fun o3 =>
    if o3.1 = 0 then
      (g_X8_in (gI h 102 (ix (gI h 96 26))) 48 57 o3.2).bind fun o5 =>
      if o5.1 = 0 then
        if (gI h 102 (ix (gI h 96 26))) = 40 then
          g_X8_next_374 n (gI h 102 (ix (gI h 96 26))) o5.2
        else
          if (gI h 102 (ix (gI h 96 26))) = 41 then
            g_X8_next_374 n (gI h 102 (ix (gI h 96 26))) o5.2
          else
            if (gI h 102 (ix (gI h 96 26))) = 59 then
              g_X8_next_374 n (gI h 102 (ix (gI h 96 26))) o5.2
            else
              if (gI h 102 (ix (gI h 96 26))) = 43 then
                g_X8_next_374 n (gI h 102 (ix (gI h 96 26))) o5.2
              else
                if (gI h 102 (ix (gI h 96 26))) = 45 then
                  g_X8_next_374 n (gI h 102 (ix (gI h 96 26))) o5.2
                else
                  if (gI h 102 (ix (gI h 96 26))) = 42 then
                    g_X8_next_374 n (gI h 102 (ix (gI h 96 26))) o5.2
                  else
                    if (gI h 102 (ix (gI h 96 26))) = 60 then
                      g_X8_next_374 n (gI h 102 (ix (gI h 96 26))) o5.2
                    else
                      if (gI h 102 (ix (gI h 96 26))) ≠ 61 then
                        g_X8_next_379 n (gI h 102 (ix (gI h 96 26))) 0 o5.2
                      else
                        g_X8_next_374 n (gI h 102 (ix (gI h 96 26))) o5.2
      else
        g_X8_next_230 n n 0 o5.2
    else
      g_X8_next_103 n n o3.2
    else none
  else
    some h
set_option maxRecDepth 100000 in
set_option maxHeartbeats 4000000 in
theorem q_X8_next_70 {X : Nat → Int32} {d : Nat} (hd : 1 ≤ (d + 1)) {L hi : Nat} (hh : 125 ≤ hi) {n : Nat}  {h : Hp} {o : Hp}  (SH : SHP L hi h) (hf : g_X8_next_70 n h = some o) : Run X (d + 1) 137 70 [some (.ref 96), none, none] [] h (none, o) ∧ SHP L hi o := by
  unfold g_X8_next_70 at hf
  refine And.imp_left (rs_aload_n i_X8_next_70 rfl) ?_
  refine And.imp_left (rs_getI i_X8_next_71 (by decide) (by decide) (sO8 SH hh)) ?_
  refine And.imp_left (rs_aload_n i_X8_next_74 rfl) ?_
  refine And.imp_left (rs_getI i_X8_next_75 (by decide) (by decide) (sO8 SH hh)) ?_
  by_cases c1 : (gI h 96 26) ≠ (gI h 96 10)
  · replace hf := (if_pos c1).symm.trans hf
    refine And.imp_left (rs_icT i_X8_next_78 (ct_ne c1) (tg := 82) (by decide)) ?_
    refine And.imp_left (rs_aload_n i_X8_next_82 rfl) ?_
    refine And.imp_left (rs_getR i_X8_next_83 (by decide) (by decide) (sO8 SH hh) (sR8_9 SH hh)) ?_
    refine And.imp_left (rs_aload_n i_X8_next_86 rfl) ?_
    refine And.imp_left (rs_getI i_X8_next_87 (by decide) (by decide) (sO8 SH hh)) ?_
    obtain ⟨c2, hf⟩ := ite_some hf
    refine And.imp_left (rs_iald i_X8_next_90 (mkI (sA SH hh (k := 9) (n := 160) (by decide)) c2)) ?_
    refine And.imp_left (rs_istore_n i_X8_next_91 (Nat.le_of_ble_eq_true rfl) (lv' := [some (.ref 96), some (.int (gI h 102 (ix (gI h 96 26)))), none]) rfl) ?_
    refine And.imp_left (rs_iload_n i_X8_next_92 rfl) ?_
    refine And.imp_left (rs_bipush i_X8_next_93 (v := 97) (by decide)) ?_
    refine And.imp_left (rs_bipush i_X8_next_95 (v := 122) (by decide)) ?_
    obtain ⟨o3, e3, hf⟩ := bind_some hf
    obtain ⟨u3, SH2⟩ := k_X8_in (X := X) (d := d) (by omega) (by omega) SH e3
    refine And.imp_left (rs_inS i_X8_next_97 (by decide) m_X8_in rfl (As := [.int (gI h 102 (ix (gI h 96 26))), .int 97, .int 122]) (rest := []) rfl rfl (Nat.le_of_ble_eq_true rfl) u3 (st' := [.int o3.1]) rfl) ?_
    clear SH; have SH := SH2; clear SH2
    by_cases c4 : o3.1 = 0
    · replace hf := (if_pos c4).symm.trans hf
      refine And.imp_left (rs_ifT i_X8_next_100 (ct_eq c4) (tg := 217) (by decide)) ?_
      refine And.imp_left (rs_iload_n i_X8_next_217 rfl) ?_
      refine And.imp_left (rs_bipush i_X8_next_218 (v := 48) (by decide)) ?_
      refine And.imp_left (rs_bipush i_X8_next_220 (v := 57) (by decide)) ?_
      obtain ⟨o5, e5, hf⟩ := bind_some hf
      obtain ⟨u5, SH2⟩ := k_X8_in (X := X) (d := d) (by omega) (by omega) SH e5
      refine And.imp_left (rs_inS i_X8_next_222 (by decide) m_X8_in rfl (As := [.int (gI h 102 (ix (gI h 96 26))), .int 48, .int 57]) (rest := []) rfl rfl (Nat.le_of_ble_eq_true rfl) u5 (st' := [.int o5.1]) rfl) ?_
      clear SH; have SH := SH2; clear SH2
      by_cases c6 : o5.1 = 0
      · replace hf := (if_pos c6).symm.trans hf
        refine And.imp_left (rs_ifT i_X8_next_225 (ct_eq c6) (tg := 326) (by decide)) ?_
        refine And.imp_left (rs_iload_n i_X8_next_326 rfl) ?_
        refine And.imp_left (rs_bipush i_X8_next_327 (v := 40) (by decide)) ?_
        by_cases c7 : (gI h 102 (ix (gI h 96 26))) = 40
        · replace hf := (if_pos c7).symm.trans hf
          refine And.imp_left (rs_icT i_X8_next_329 (ct_eq c7) (tg := 374) (by decide)) ?_
          exact q_X8_next_374 hd hh SH hf
        · replace hf := (if_neg c7).symm.trans hf
          refine And.imp_left (rs_icF i_X8_next_329 (cf_eq c7)) ?_
          refine And.imp_left (rs_iload_n i_X8_next_332 rfl) ?_
          refine And.imp_left (rs_bipush i_X8_next_333 (v := 41) (by decide)) ?_
          by_cases c8 : (gI h 102 (ix (gI h 96 26))) = 41
          · replace hf := (if_pos c8).symm.trans hf
            refine And.imp_left (rs_icT i_X8_next_335 (ct_eq c8) (tg := 374) (by decide)) ?_
            exact q_X8_next_374 hd hh SH hf
          · replace hf := (if_neg c8).symm.trans hf
            refine And.imp_left (rs_icF i_X8_next_335 (cf_eq c8)) ?_
            refine And.imp_left (rs_iload_n i_X8_next_338 rfl) ?_
            refine And.imp_left (rs_bipush i_X8_next_339 (v := 59) (by decide)) ?_
            by_cases c9 : (gI h 102 (ix (gI h 96 26))) = 59
            · replace hf := (if_pos c9).symm.trans hf
              refine And.imp_left (rs_icT i_X8_next_341 (ct_eq c9) (tg := 374) (by decide)) ?_
              exact q_X8_next_374 hd hh SH hf
            · replace hf := (if_neg c9).symm.trans hf
              refine And.imp_left (rs_icF i_X8_next_341 (cf_eq c9)) ?_
              refine And.imp_left (rs_iload_n i_X8_next_344 rfl) ?_
              refine And.imp_left (rs_bipush i_X8_next_345 (v := 43) (by decide)) ?_
              by_cases c10 : (gI h 102 (ix (gI h 96 26))) = 43
              · replace hf := (if_pos c10).symm.trans hf
                refine And.imp_left (rs_icT i_X8_next_347 (ct_eq c10) (tg := 374) (by decide)) ?_
                exact q_X8_next_374 hd hh SH hf
              · replace hf := (if_neg c10).symm.trans hf
                refine And.imp_left (rs_icF i_X8_next_347 (cf_eq c10)) ?_
                refine And.imp_left (rs_iload_n i_X8_next_350 rfl) ?_
                refine And.imp_left (rs_bipush i_X8_next_351 (v := 45) (by decide)) ?_
                by_cases c11 : (gI h 102 (ix (gI h 96 26))) = 45
                · replace hf := (if_pos c11).symm.trans hf
                  refine And.imp_left (rs_icT i_X8_next_353 (ct_eq c11) (tg := 374) (by decide)) ?_
                  exact q_X8_next_374 hd hh SH hf
                · replace hf := (if_neg c11).symm.trans hf
                  refine And.imp_left (rs_icF i_X8_next_353 (cf_eq c11)) ?_
                  refine And.imp_left (rs_iload_n i_X8_next_356 rfl) ?_
                  refine And.imp_left (rs_bipush i_X8_next_357 (v := 42) (by decide)) ?_
                  by_cases c12 : (gI h 102 (ix (gI h 96 26))) = 42
                  · replace hf := (if_pos c12).symm.trans hf
                    refine And.imp_left (rs_icT i_X8_next_359 (ct_eq c12) (tg := 374) (by decide)) ?_
                    exact q_X8_next_374 hd hh SH hf
                  · replace hf := (if_neg c12).symm.trans hf
                    refine And.imp_left (rs_icF i_X8_next_359 (cf_eq c12)) ?_
                    refine And.imp_left (rs_iload_n i_X8_next_362 rfl) ?_
                    refine And.imp_left (rs_bipush i_X8_next_363 (v := 60) (by decide)) ?_
                    by_cases c13 : (gI h 102 (ix (gI h 96 26))) = 60
                    · replace hf := (if_pos c13).symm.trans hf
                      refine And.imp_left (rs_icT i_X8_next_365 (ct_eq c13) (tg := 374) (by decide)) ?_
                      exact q_X8_next_374 hd hh SH hf
                    · replace hf := (if_neg c13).symm.trans hf
                      refine And.imp_left (rs_icF i_X8_next_365 (cf_eq c13)) ?_
                      refine And.imp_left (rs_iload_n i_X8_next_368 rfl) ?_
                      refine And.imp_left (rs_bipush i_X8_next_369 (v := 61) (by decide)) ?_
                      by_cases c14 : (gI h 102 (ix (gI h 96 26))) ≠ 61
                      · replace hf := (if_pos c14).symm.trans hf
                        refine And.imp_left (rs_icT i_X8_next_371 (ct_ne c14) (tg := 378) (by decide)) ?_
                        refine And.imp_left (rs_iconst i_X8_next_378 (v := 0) (by decide)) ?_
                        exact q_X8_next_379 hd hh SH hf
                      · replace hf := (if_neg c14).symm.trans hf
                        refine And.imp_left (rs_icF i_X8_next_371 (cf_ne c14)) ?_
                        exact q_X8_next_374 hd hh SH hf
      · replace hf := (if_neg c6).symm.trans hf
        refine And.imp_left (rs_ifF i_X8_next_225 (cf_eq c6)) ?_
        refine And.imp_left (rs_iconst i_X8_next_228 (v := 0) (by decide)) ?_
        refine And.imp_left (rs_istore_n i_X8_next_229 (Nat.le_of_ble_eq_true rfl) (lv' := [some (.ref 96), some (.int (gI h 102 (ix (gI h 96 26)))), some (.int 0)]) rfl) ?_
        exact q_X8_next_230 hd hh _ _ _ _ _ SH hf
    · replace hf := (if_neg c4).symm.trans hf
      refine And.imp_left (rs_ifF i_X8_next_100 (cf_eq c4)) ?_
      exact q_X8_next_103 hd hh _ _ _ _ SH hf
  · replace hf := (if_neg c1).symm.trans hf
    refine And.imp_left (rs_icF i_X8_next_78 (cf_ne c1)) ?_
    have hf := Option.some.inj hf
    subst hf
    exact ⟨rs_vret i_X8_next_81 m_X8_next rfl, SH⟩
noncomputable def g_X8_next_65 (n : Nat)  (h : Hp) : Option Hp :=
  g_X8_next_70 n (hsi h 96 29 0)
set_option maxRecDepth 100000 in
set_option maxHeartbeats 4000000 in
theorem q_X8_next_65 {X : Nat → Int32} {d : Nat} (hd : 1 ≤ (d + 1)) {L hi : Nat} (hh : 125 ≤ hi) {n : Nat}  {h : Hp} {o : Hp}  (SH : SHP L hi h) (hf : g_X8_next_65 n h = some o) : Run X (d + 1) 137 65 [some (.ref 96), none, none] [] h (none, o) ∧ SHP L hi o := by
  unfold g_X8_next_65 at hf
  refine And.imp_left (rs_aload_n i_X8_next_65 rfl) ?_
  refine And.imp_left (rs_iconst i_X8_next_66 (v := 0) (by decide)) ?_
  refine And.imp_left (rs_putI i_X8_next_67 (by decide) (sO8 SH hh)) ?_
  have SH := shi SH 96 29 0
  exact q_X8_next_70 hd hh SH hf
noncomputable def g_X8_next_60 (n : Nat)  (h : Hp) : Option Hp :=
  g_X8_next_65 n (hsi h 96 28 0)
set_option maxRecDepth 100000 in
set_option maxHeartbeats 4000000 in
theorem q_X8_next_60 {X : Nat → Int32} {d : Nat} (hd : 1 ≤ (d + 1)) {L hi : Nat} (hh : 125 ≤ hi) {n : Nat}  {h : Hp} {o : Hp}  (SH : SHP L hi h) (hf : g_X8_next_60 n h = some o) : Run X (d + 1) 137 60 [some (.ref 96), none, none] [] h (none, o) ∧ SHP L hi o := by
  unfold g_X8_next_60 at hf
  refine And.imp_left (rs_aload_n i_X8_next_60 rfl) ?_
  refine And.imp_left (rs_iconst i_X8_next_61 (v := 0) (by decide)) ?_
  refine And.imp_left (rs_putI i_X8_next_62 (by decide) (sO8 SH hh)) ?_
  have SH := shi SH 96 28 0
  exact q_X8_next_65 hd hh SH hf
noncomputable def g_X8_next_52 (n : Nat)  (h : Hp) : Option Hp :=
  g_X8_next_60 n (hsi h 96 27 (gI h 96 26))
set_option maxRecDepth 100000 in
set_option maxHeartbeats 4000000 in
theorem q_X8_next_52 {X : Nat → Int32} {d : Nat} (hd : 1 ≤ (d + 1)) {L hi : Nat} (hh : 125 ≤ hi) {n : Nat}  {h : Hp} {o : Hp}  (SH : SHP L hi h) (hf : g_X8_next_52 n h = some o) : Run X (d + 1) 137 52 [some (.ref 96), none, none] [] h (none, o) ∧ SHP L hi o := by
  unfold g_X8_next_52 at hf
  refine And.imp_left (rs_aload_n i_X8_next_52 rfl) ?_
  refine And.imp_left (rs_aload_n i_X8_next_53 rfl) ?_
  refine And.imp_left (rs_getI i_X8_next_54 (by decide) (by decide) (sO8 SH hh)) ?_
  refine And.imp_left (rs_putI i_X8_next_57 (by decide) (sO8 SH hh)) ?_
  have SH := shi SH 96 27 (gI h 96 26)
  exact q_X8_next_60 hd hh SH hf
noncomputable def g_X8_next_39 (n : Nat) (K0 : Hp → Option Hp)  (h : Hp) : Option Hp :=
  K0 (hsi h 96 26 ((gI h 96 26) + 1))
set_option maxRecDepth 100000 in
set_option maxHeartbeats 4000000 in
theorem q_X8_next_39 {X : Nat → Int32} {d : Nat} (hd : 1 ≤ (d + 1)) {L hi : Nat} (hh : 125 ≤ hi) {n : Nat} {K0 : Hp → Option Hp} (HK0 : ∀  (h : Hp) (o : Hp), SHP L hi h → K0 h = some o → Run X (d + 1) 137 0 [some (.ref 96), none, none] [] h (none, o) ∧ SHP L hi o)  {h : Hp} {o : Hp}  (SH : SHP L hi h) (hf : g_X8_next_39 n K0 h = some o) : Run X (d + 1) 137 39 [some (.ref 96), none, none] [] h (none, o) ∧ SHP L hi o := by
  unfold g_X8_next_39 at hf
  refine And.imp_left (rs_aload_n i_X8_next_39 rfl) ?_
  refine And.imp_left (rs_dup i_X8_next_40 rfl) ?_
  refine And.imp_left (rs_getI i_X8_next_41 (by decide) (by decide) (sO8 SH hh)) ?_
  refine And.imp_left (rs_iconst i_X8_next_44 (v := 1) (by decide)) ?_
  refine And.imp_left (rs_iadd i_X8_next_45) ?_
  refine And.imp_left (rs_putI i_X8_next_46 (by decide) (sO8 SH hh)) ?_
  have SH := shi SH 96 26 ((gI h 96 26) + 1)
  refine And.imp_left (rs_goto i_X8_next_49 (tg := 0) (by decide)) ?_
  exact HK0 _ _ SH hf
noncomputable def g_X8_next_0 (n : Nat) : Nat → Hp → Option Hp
  | 0, _ => none
  | m + 1, h =>
    if (gI h 96 10) ≤ (gI h 96 26) then
      g_X8_next_52 n h
    else
      if inb (gI h 96 26) 160 = true then
      if (gI h 102 (ix (gI h 96 26))) = 32 then
        g_X8_next_39 n (g_X8_next_0 n m) h
      else
        if (gI h 102 (ix (gI h 96 26))) ≠ 10 then
          g_X8_next_52 n h
        else
          g_X8_next_39 n (g_X8_next_0 n m) h
      else none
set_option maxRecDepth 100000 in
set_option maxHeartbeats 4000000 in
theorem q_X8_next_0 {X : Nat → Int32} {d : Nat} (hd : 1 ≤ (d + 1)) {L hi : Nat} (hh : 125 ≤ hi) {n : Nat} : ∀ (m : Nat)  (h : Hp) (o : Hp), SHP L hi h → g_X8_next_0 n m h = some o → Run X (d + 1) 137 0 [some (.ref 96), none, none] [] h (none, o) ∧ SHP L hi o := by
  intro m
  induction m with
  | zero => intro  h o SH hf; cases hf
  | succ m ih =>
    intro  h o SH hf
    rw [g_X8_next_0] at hf
    refine And.imp_left (rs_aload_n i_X8_next_0 rfl) ?_
    refine And.imp_left (rs_getI i_X8_next_1 (by decide) (by decide) (sO8 SH hh)) ?_
    refine And.imp_left (rs_aload_n i_X8_next_4 rfl) ?_
    refine And.imp_left (rs_getI i_X8_next_5 (by decide) (by decide) (sO8 SH hh)) ?_
    by_cases c1 : (gI h 96 10) ≤ (gI h 96 26)
    · replace hf := (if_pos c1).symm.trans hf
      refine And.imp_left (rs_icT i_X8_next_8 (ct_ge c1) (tg := 52) (by decide)) ?_
      exact q_X8_next_52 hd hh SH hf
    · replace hf := (if_neg c1).symm.trans hf
      refine And.imp_left (rs_icF i_X8_next_8 (cf_ge c1)) ?_
      refine And.imp_left (rs_aload_n i_X8_next_11 rfl) ?_
      refine And.imp_left (rs_getR i_X8_next_12 (by decide) (by decide) (sO8 SH hh) (sR8_9 SH hh)) ?_
      refine And.imp_left (rs_aload_n i_X8_next_15 rfl) ?_
      refine And.imp_left (rs_getI i_X8_next_16 (by decide) (by decide) (sO8 SH hh)) ?_
      obtain ⟨c2, hf⟩ := ite_some hf
      refine And.imp_left (rs_iald i_X8_next_19 (mkI (sA SH hh (k := 9) (n := 160) (by decide)) c2)) ?_
      refine And.imp_left (rs_bipush i_X8_next_20 (v := 32) (by decide)) ?_
      by_cases c3 : (gI h 102 (ix (gI h 96 26))) = 32
      · replace hf := (if_pos c3).symm.trans hf
        refine And.imp_left (rs_icT i_X8_next_22 (ct_eq c3) (tg := 39) (by decide)) ?_
        exact q_X8_next_39 hd hh ih SH hf
      · replace hf := (if_neg c3).symm.trans hf
        refine And.imp_left (rs_icF i_X8_next_22 (cf_eq c3)) ?_
        refine And.imp_left (rs_aload_n i_X8_next_25 rfl) ?_
        refine And.imp_left (rs_getR i_X8_next_26 (by decide) (by decide) (sO8 SH hh) (sR8_9 SH hh)) ?_
        refine And.imp_left (rs_aload_n i_X8_next_29 rfl) ?_
        refine And.imp_left (rs_getI i_X8_next_30 (by decide) (by decide) (sO8 SH hh)) ?_
        refine And.imp_left (rs_iald i_X8_next_33 (mkI (sA SH hh (k := 9) (n := 160) (by decide)) c2)) ?_
        refine And.imp_left (rs_bipush i_X8_next_34 (v := 10) (by decide)) ?_
        by_cases c4 : (gI h 102 (ix (gI h 96 26))) ≠ 10
        · replace hf := (if_pos c4).symm.trans hf
          refine And.imp_left (rs_icT i_X8_next_36 (ct_ne c4) (tg := 52) (by decide)) ?_
          exact q_X8_next_52 hd hh SH hf
        · replace hf := (if_neg c4).symm.trans hf
          refine And.imp_left (rs_icF i_X8_next_36 (cf_ne c4)) ?_
          exact q_X8_next_39 hd hh ih SH hf
noncomputable def g_X8_next (n : Nat)  (h : Hp) : Option Hp := g_X8_next_0 n n h
theorem k_X8_next {X : Nat → Int32} {d : Nat} (hd : 1 ≤ d) {L hi : Nat} (hh : 125 ≤ hi) {n : Nat}  {h : Hp} {o : Hp}  (SH : SHP L hi h) (hf : g_X8_next n h = some o) : Calls X d 137 [.ref 96] h (none, o) ∧ SHP L hi o := by
  obtain ⟨d, rfl⟩ : ∃ z, d = z + 1 := ⟨d - 1, by omega⟩
  obtain ⟨r, S2⟩ := q_X8_next_0 hd hh _ _ _ SH hf
  exact ⟨⟨_, rfl, r⟩, S2⟩
noncomputable def g_X8_opensOne_20 (v1 : Int32) (h : Hp) : Option (Int32 × Hp) :=
  (g_X8_holds v1 h).bind fun o1 =>
  some (1, o1)
set_option maxRecDepth 100000 in
set_option maxHeartbeats 4000000 in
theorem q_X8_opensOne_20 {X : Nat → Int32} {d : Nat} (hd : 1 ≤ (d + 1)) {L hi : Nat} (hh : 125 ≤ hi) {v1 : Int32} {h : Hp} {o : (Int32 × Hp)}  (SH : SHP L hi h) (hf : g_X8_opensOne_20 v1 h = some o) : Run X (d + 1) 142 20 [some (.ref 96), some (.int v1)] [] h (some (.int o.1), o.2) ∧ SHP L hi o.2 := by
  unfold g_X8_opensOne_20 at hf
  refine And.imp_left (rs_aload_n i_X8_opensOne_20 rfl) ?_
  refine And.imp_left (rs_iload_n i_X8_opensOne_21 rfl) ?_
  obtain ⟨o1, e1, hf⟩ := bind_some hf
  obtain ⟨u1, SH2⟩ := k_X8_holds (X := X) (d := d) (by omega) (by omega) SH e1
  refine And.imp_left (rs_inV i_X8_opensOne_22 m_X8_holds rfl (As := [.int v1]) (rest := []) rfl rfl (Nat.le_of_ble_eq_true rfl) (sO8 SH hh) u1 (st' := []) rfl) ?_
  clear SH; have SH := SH2; clear SH2
  refine And.imp_left (rs_iconst i_X8_opensOne_25 (v := 1) (by decide)) ?_
  have hf := Option.some.inj hf
  subst hf
  exact ⟨rs_iret i_X8_opensOne_26 m_X8_opensOne (by decide), SH⟩
noncomputable def g_X8_opensOne_0 (v1 : Int32) (h : Hp) : Option (Int32 × Hp) :=
  if (gI h 96 33) ≠ 5 then
    g_X8_opensOne_20 v1 (hsi h 96 33 ((gI h 96 33) + 1))
  else
    some (0, h)
set_option maxRecDepth 100000 in
set_option maxHeartbeats 4000000 in
theorem q_X8_opensOne_0 {X : Nat → Int32} {d : Nat} (hd : 1 ≤ (d + 1)) {L hi : Nat} (hh : 125 ≤ hi) {v1 : Int32} {h : Hp} {o : (Int32 × Hp)}  (SH : SHP L hi h) (hf : g_X8_opensOne_0 v1 h = some o) : Run X (d + 1) 142 0 [some (.ref 96), some (.int v1)] [] h (some (.int o.1), o.2) ∧ SHP L hi o.2 := by
  unfold g_X8_opensOne_0 at hf
  refine And.imp_left (rs_aload_n i_X8_opensOne_0 rfl) ?_
  refine And.imp_left (rs_getI i_X8_opensOne_1 (by decide) (by decide) (sO8 SH hh)) ?_
  refine And.imp_left (rs_iconst i_X8_opensOne_4 (v := 5) (by decide)) ?_
  by_cases c1 : (gI h 96 33) ≠ 5
  · replace hf := (if_pos c1).symm.trans hf
    refine And.imp_left (rs_icT i_X8_opensOne_5 (ct_ne c1) (tg := 10) (by decide)) ?_
    refine And.imp_left (rs_aload_n i_X8_opensOne_10 rfl) ?_
    refine And.imp_left (rs_dup i_X8_opensOne_11 rfl) ?_
    refine And.imp_left (rs_getI i_X8_opensOne_12 (by decide) (by decide) (sO8 SH hh)) ?_
    refine And.imp_left (rs_iconst i_X8_opensOne_15 (v := 1) (by decide)) ?_
    refine And.imp_left (rs_iadd i_X8_opensOne_16) ?_
    refine And.imp_left (rs_putI i_X8_opensOne_17 (by decide) (sO8 SH hh)) ?_
    have SH := shi SH 96 33 ((gI h 96 33) + 1)
    exact q_X8_opensOne_20 hd hh SH hf
  · replace hf := (if_neg c1).symm.trans hf
    refine And.imp_left (rs_icF i_X8_opensOne_5 (cf_ne c1)) ?_
    refine And.imp_left (rs_iconst i_X8_opensOne_8 (v := 0) (by decide)) ?_
    have hf := Option.some.inj hf
    subst hf
    exact ⟨rs_iret i_X8_opensOne_9 m_X8_opensOne (by decide), SH⟩
noncomputable def g_X8_opensOne (v1 : Int32) (h : Hp) : Option (Int32 × Hp) := g_X8_opensOne_0 v1 h
theorem k_X8_opensOne {X : Nat → Int32} {d : Nat} (hd : 1 ≤ d) {L hi : Nat} (hh : 125 ≤ hi) {v1 : Int32} {h : Hp} {o : (Int32 × Hp)}  (SH : SHP L hi h) (hf : g_X8_opensOne v1 h = some o) : Calls X d 142 [.ref 96, .int v1] h (some (.int o.1), o.2) ∧ SHP L hi o.2 := by
  obtain ⟨d, rfl⟩ : ∃ z, d = z + 1 := ⟨d - 1, by omega⟩
  obtain ⟨r, S2⟩ := q_X8_opensOne_0 hd hh SH hf
  exact ⟨⟨_, rfl, r⟩, S2⟩
noncomputable def g_X8_signOf_0  (h : Hp) : Option (Int32 × Hp) :=
  if (gI h 96 28) ≠ 4 then
    if (gI h 96 28) ≠ 5 then
      if (gI h 96 28) ≠ 60 then
        if (gI h 96 28) ≠ 61 then
          if (gI h 96 28) ≠ 43 then
            if (gI h 96 28) ≠ 45 then
              if (gI h 96 28) ≠ 42 then
                some ((-1), h)
              else
                some (18, h)
            else
              some (17, h)
          else
            some (16, h)
        else
          some (15, h)
      else
        some (14, h)
    else
      some (12, h)
  else
    some (11, h)
set_option maxRecDepth 100000 in
set_option maxHeartbeats 4000000 in
theorem q_X8_signOf_0 {X : Nat → Int32} {d : Nat} (hd : 0 ≤ d) {L hi : Nat} (hh : 125 ≤ hi)  {h : Hp} {o : (Int32 × Hp)}  (SH : SHP L hi h) (hf : g_X8_signOf_0 h = some o) : Run X d 144 0 [some (.ref 96)] [] h (some (.int o.1), o.2) ∧ SHP L hi o.2 := by
  unfold g_X8_signOf_0 at hf
  refine And.imp_left (rs_aload_n i_X8_signOf_0 rfl) ?_
  refine And.imp_left (rs_getI i_X8_signOf_1 (by decide) (by decide) (sO8 SH hh)) ?_
  refine And.imp_left (rs_iconst i_X8_signOf_4 (v := 4) (by decide)) ?_
  by_cases c1 : (gI h 96 28) ≠ 4
  · replace hf := (if_pos c1).symm.trans hf
    refine And.imp_left (rs_icT i_X8_signOf_5 (ct_ne c1) (tg := 13) (by decide)) ?_
    refine And.imp_left (rs_aload_n i_X8_signOf_13 rfl) ?_
    refine And.imp_left (rs_getI i_X8_signOf_14 (by decide) (by decide) (sO8 SH hh)) ?_
    refine And.imp_left (rs_iconst i_X8_signOf_17 (v := 5) (by decide)) ?_
    by_cases c2 : (gI h 96 28) ≠ 5
    · replace hf := (if_pos c2).symm.trans hf
      refine And.imp_left (rs_icT i_X8_signOf_18 (ct_ne c2) (tg := 26) (by decide)) ?_
      refine And.imp_left (rs_aload_n i_X8_signOf_26 rfl) ?_
      refine And.imp_left (rs_getI i_X8_signOf_27 (by decide) (by decide) (sO8 SH hh)) ?_
      refine And.imp_left (rs_bipush i_X8_signOf_30 (v := 60) (by decide)) ?_
      by_cases c3 : (gI h 96 28) ≠ 60
      · replace hf := (if_pos c3).symm.trans hf
        refine And.imp_left (rs_icT i_X8_signOf_32 (ct_ne c3) (tg := 40) (by decide)) ?_
        refine And.imp_left (rs_aload_n i_X8_signOf_40 rfl) ?_
        refine And.imp_left (rs_getI i_X8_signOf_41 (by decide) (by decide) (sO8 SH hh)) ?_
        refine And.imp_left (rs_bipush i_X8_signOf_44 (v := 61) (by decide)) ?_
        by_cases c4 : (gI h 96 28) ≠ 61
        · replace hf := (if_pos c4).symm.trans hf
          refine And.imp_left (rs_icT i_X8_signOf_46 (ct_ne c4) (tg := 54) (by decide)) ?_
          refine And.imp_left (rs_aload_n i_X8_signOf_54 rfl) ?_
          refine And.imp_left (rs_getI i_X8_signOf_55 (by decide) (by decide) (sO8 SH hh)) ?_
          refine And.imp_left (rs_bipush i_X8_signOf_58 (v := 43) (by decide)) ?_
          by_cases c5 : (gI h 96 28) ≠ 43
          · replace hf := (if_pos c5).symm.trans hf
            refine And.imp_left (rs_icT i_X8_signOf_60 (ct_ne c5) (tg := 68) (by decide)) ?_
            refine And.imp_left (rs_aload_n i_X8_signOf_68 rfl) ?_
            refine And.imp_left (rs_getI i_X8_signOf_69 (by decide) (by decide) (sO8 SH hh)) ?_
            refine And.imp_left (rs_bipush i_X8_signOf_72 (v := 45) (by decide)) ?_
            by_cases c6 : (gI h 96 28) ≠ 45
            · replace hf := (if_pos c6).symm.trans hf
              refine And.imp_left (rs_icT i_X8_signOf_74 (ct_ne c6) (tg := 82) (by decide)) ?_
              refine And.imp_left (rs_aload_n i_X8_signOf_82 rfl) ?_
              refine And.imp_left (rs_getI i_X8_signOf_83 (by decide) (by decide) (sO8 SH hh)) ?_
              refine And.imp_left (rs_bipush i_X8_signOf_86 (v := 42) (by decide)) ?_
              by_cases c7 : (gI h 96 28) ≠ 42
              · replace hf := (if_pos c7).symm.trans hf
                refine And.imp_left (rs_icT i_X8_signOf_88 (ct_ne c7) (tg := 96) (by decide)) ?_
                refine And.imp_left (rs_iconst i_X8_signOf_96 (v := (-1)) (by decide)) ?_
                have hf := Option.some.inj hf
                subst hf
                exact ⟨rs_iret i_X8_signOf_97 m_X8_signOf rfl, SH⟩
              · replace hf := (if_neg c7).symm.trans hf
                refine And.imp_left (rs_icF i_X8_signOf_88 (cf_ne c7)) ?_
                refine And.imp_left (rs_bipush i_X8_signOf_91 (v := 18) (by decide)) ?_
                refine And.imp_left (rs_goto i_X8_signOf_93 (tg := 97) (by decide)) ?_
                have hf := Option.some.inj hf
                subst hf
                exact ⟨rs_iret i_X8_signOf_97 m_X8_signOf rfl, SH⟩
            · replace hf := (if_neg c6).symm.trans hf
              refine And.imp_left (rs_icF i_X8_signOf_74 (cf_ne c6)) ?_
              refine And.imp_left (rs_bipush i_X8_signOf_77 (v := 17) (by decide)) ?_
              refine And.imp_left (rs_goto i_X8_signOf_79 (tg := 97) (by decide)) ?_
              have hf := Option.some.inj hf
              subst hf
              exact ⟨rs_iret i_X8_signOf_97 m_X8_signOf rfl, SH⟩
          · replace hf := (if_neg c5).symm.trans hf
            refine And.imp_left (rs_icF i_X8_signOf_60 (cf_ne c5)) ?_
            refine And.imp_left (rs_bipush i_X8_signOf_63 (v := 16) (by decide)) ?_
            refine And.imp_left (rs_goto i_X8_signOf_65 (tg := 97) (by decide)) ?_
            have hf := Option.some.inj hf
            subst hf
            exact ⟨rs_iret i_X8_signOf_97 m_X8_signOf rfl, SH⟩
        · replace hf := (if_neg c4).symm.trans hf
          refine And.imp_left (rs_icF i_X8_signOf_46 (cf_ne c4)) ?_
          refine And.imp_left (rs_bipush i_X8_signOf_49 (v := 15) (by decide)) ?_
          refine And.imp_left (rs_goto i_X8_signOf_51 (tg := 97) (by decide)) ?_
          have hf := Option.some.inj hf
          subst hf
          exact ⟨rs_iret i_X8_signOf_97 m_X8_signOf rfl, SH⟩
      · replace hf := (if_neg c3).symm.trans hf
        refine And.imp_left (rs_icF i_X8_signOf_32 (cf_ne c3)) ?_
        refine And.imp_left (rs_bipush i_X8_signOf_35 (v := 14) (by decide)) ?_
        refine And.imp_left (rs_goto i_X8_signOf_37 (tg := 97) (by decide)) ?_
        have hf := Option.some.inj hf
        subst hf
        exact ⟨rs_iret i_X8_signOf_97 m_X8_signOf rfl, SH⟩
    · replace hf := (if_neg c2).symm.trans hf
      refine And.imp_left (rs_icF i_X8_signOf_18 (cf_ne c2)) ?_
      refine And.imp_left (rs_bipush i_X8_signOf_21 (v := 12) (by decide)) ?_
      refine And.imp_left (rs_goto i_X8_signOf_23 (tg := 97) (by decide)) ?_
      have hf := Option.some.inj hf
      subst hf
      exact ⟨rs_iret i_X8_signOf_97 m_X8_signOf rfl, SH⟩
  · replace hf := (if_neg c1).symm.trans hf
    refine And.imp_left (rs_icF i_X8_signOf_5 (cf_ne c1)) ?_
    refine And.imp_left (rs_bipush i_X8_signOf_8 (v := 11) (by decide)) ?_
    refine And.imp_left (rs_goto i_X8_signOf_10 (tg := 97) (by decide)) ?_
    have hf := Option.some.inj hf
    subst hf
    exact ⟨rs_iret i_X8_signOf_97 m_X8_signOf rfl, SH⟩
noncomputable def g_X8_signOf  (h : Hp) : Option (Int32 × Hp) := g_X8_signOf_0 h
theorem k_X8_signOf {X : Nat → Int32} {d : Nat} (hd : 0 ≤ d) {L hi : Nat} (hh : 125 ≤ hi)  {h : Hp} {o : (Int32 × Hp)}  (SH : SHP L hi h) (hf : g_X8_signOf h = some o) : Calls X d 144 [.ref 96] h (some (.int o.1), o.2) ∧ SHP L hi o.2 := by
  obtain ⟨r, S2⟩ := q_X8_signOf_0 hd hh SH hf
  exact ⟨⟨_, rfl, r⟩, S2⟩
noncomputable def g_X8_eRead_262 (n : Nat) (K14 : Int32 → Int32 → Hp → Option (Int32 × Hp)) (v1 : Int32) (s0 : Int32) (h : Hp) : Option (Int32 × Hp) :=
  K14 v1 s0 h
set_option maxRecDepth 100000 in
set_option maxHeartbeats 4000000 in
theorem q_X8_eRead_262 {X : Nat → Int32} {d : Nat} (hd : 3 ≤ (d + 1)) {L hi : Nat} (hh : 125 ≤ hi) {n : Nat} {K14 : Int32 → Int32 → Hp → Option (Int32 × Hp)} (HK14 : ∀ (v1 : Int32) (v2 : Int32) (w3 : Option Value) (h : Hp) (o : (Int32 × Hp)), SHP L hi h → K14 v1 v2 h = some o → Run X (d + 1) 145 14 [some (.ref 96), some (.int v1), some (.int v2), w3] [] h (some (.int o.1), o.2) ∧ SHP L hi o.2) {v1 : Int32} {s0 : Int32} {d2 : Int32} {d3 : Int32} {h : Hp} {o : (Int32 × Hp)}  (SH : SHP L hi h) (hf : g_X8_eRead_262 n K14 v1 s0 h = some o) : Run X (d + 1) 145 262 [some (.ref 96), some (.int v1), some (.int d2), some (.int d3)] [.int s0] h (some (.int o.1), o.2) ∧ SHP L hi o.2 := by
  unfold g_X8_eRead_262 at hf
  refine And.imp_left (rs_istore_n i_X8_eRead_262 (Nat.le_of_ble_eq_true rfl) (lv' := [some (.ref 96), some (.int v1), some (.int s0), some (.int d3)]) rfl) ?_
  refine And.imp_left (rs_goto i_X8_eRead_263 (tg := 14) (by decide)) ?_
  exact HK14 _ _ _ _ _ SH hf
noncomputable def g_X8_eRead_220 (n : Nat) (K14 : Int32 → Int32 → Hp → Option (Int32 × Hp)) (v1 : Int32) (v2 : Int32) (h : Hp) : Option (Int32 × Hp) :=
  (g_X8_unwinds n 7 h).bind fun o1 =>
  K14 v1 v2 o1
set_option maxRecDepth 100000 in
set_option maxHeartbeats 4000000 in
theorem q_X8_eRead_220 {X : Nat → Int32} {d : Nat} (hd : 3 ≤ (d + 1)) {L hi : Nat} (hh : 125 ≤ hi) {n : Nat} {K14 : Int32 → Int32 → Hp → Option (Int32 × Hp)} (HK14 : ∀ (v1 : Int32) (v2 : Int32) (w3 : Option Value) (h : Hp) (o : (Int32 × Hp)), SHP L hi h → K14 v1 v2 h = some o → Run X (d + 1) 145 14 [some (.ref 96), some (.int v1), some (.int v2), w3] [] h (some (.int o.1), o.2) ∧ SHP L hi o.2) {v1 : Int32} {v2 : Int32} {w3 : Option Value} {h : Hp} {o : (Int32 × Hp)}  (SH : SHP L hi h) (hf : g_X8_eRead_220 n K14 v1 v2 h = some o) : Run X (d + 1) 145 220 [some (.ref 96), some (.int v1), some (.int v2), w3] [] h (some (.int o.1), o.2) ∧ SHP L hi o.2 := by
  unfold g_X8_eRead_220 at hf
  refine And.imp_left (rs_aload_n i_X8_eRead_220 rfl) ?_
  refine And.imp_left (rs_bipush i_X8_eRead_221 (v := 7) (by decide)) ?_
  obtain ⟨o1, e1, hf⟩ := bind_some hf
  obtain ⟨u1, SH2⟩ := k_X8_unwinds (X := X) (d := d) (by omega) (by omega) SH e1
  refine And.imp_left (rs_inV i_X8_eRead_223 m_X8_unwinds rfl (As := [.int 7]) (rest := []) rfl rfl (Nat.le_of_ble_eq_true rfl) (sO8 SH hh) u1 (st' := []) rfl) ?_
  clear SH; have SH := SH2; clear SH2
  refine And.imp_left (rs_goto i_X8_eRead_226 (tg := 14) (by decide)) ?_
  exact HK14 _ _ _ _ _ SH hf
noncomputable def g_X8_eRead_210 (n : Nat) (K14 : Int32 → Int32 → Hp → Option (Int32 × Hp)) (v1 : Int32) (v2 : Int32) (h : Hp) : Option (Int32 × Hp) :=
  g_X8_eRead_220 n K14 v1 v2 (hsi h 96 33 ((gI h 96 33) - 1))
set_option maxRecDepth 100000 in
set_option maxHeartbeats 4000000 in
theorem q_X8_eRead_210 {X : Nat → Int32} {d : Nat} (hd : 3 ≤ (d + 1)) {L hi : Nat} (hh : 125 ≤ hi) {n : Nat} {K14 : Int32 → Int32 → Hp → Option (Int32 × Hp)} (HK14 : ∀ (v1 : Int32) (v2 : Int32) (w3 : Option Value) (h : Hp) (o : (Int32 × Hp)), SHP L hi h → K14 v1 v2 h = some o → Run X (d + 1) 145 14 [some (.ref 96), some (.int v1), some (.int v2), w3] [] h (some (.int o.1), o.2) ∧ SHP L hi o.2) {v1 : Int32} {v2 : Int32} {w3 : Option Value} {h : Hp} {o : (Int32 × Hp)}  (SH : SHP L hi h) (hf : g_X8_eRead_210 n K14 v1 v2 h = some o) : Run X (d + 1) 145 210 [some (.ref 96), some (.int v1), some (.int v2), w3] [] h (some (.int o.1), o.2) ∧ SHP L hi o.2 := by
  unfold g_X8_eRead_210 at hf
  refine And.imp_left (rs_aload_n i_X8_eRead_210 rfl) ?_
  refine And.imp_left (rs_dup i_X8_eRead_211 rfl) ?_
  refine And.imp_left (rs_getI i_X8_eRead_212 (by decide) (by decide) (sO8 SH hh)) ?_
  refine And.imp_left (rs_iconst i_X8_eRead_215 (v := 1) (by decide)) ?_
  refine And.imp_left (rs_isub i_X8_eRead_216) ?_
  refine And.imp_left (rs_putI i_X8_eRead_217 (by decide) (sO8 SH hh)) ?_
  have SH := shi SH 96 33 ((gI h 96 33) - 1)
  exact q_X8_eRead_220 hd hh HK14 SH hf
noncomputable def g_X8_eRead_99 (n : Nat) (K14 : Int32 → Int32 → Hp → Option (Int32 × Hp)) (v1 : Int32) (h : Hp) : Option (Int32 × Hp) :=
  if (gI h 96 28) ≠ 45 then
    if (gI h 96 28) ≠ 40 then
      some (0, h)
    else
      (g_X8_opensOne 0 h).bind fun o3 =>
      if o3.1 ≠ 0 then
        K14 v1 1 o3.2
      else
        some (0, o3.2)
  else
    (g_X8_opensOne 19 h).bind fun o5 =>
    if o5.1 ≠ 0 then
      K14 v1 0 o5.2
    else
      some (0, o5.2)
set_option maxRecDepth 100000 in
set_option maxHeartbeats 4000000 in
theorem q_X8_eRead_99 {X : Nat → Int32} {d : Nat} (hd : 3 ≤ (d + 1)) {L hi : Nat} (hh : 125 ≤ hi) {n : Nat} {K14 : Int32 → Int32 → Hp → Option (Int32 × Hp)} (HK14 : ∀ (v1 : Int32) (v2 : Int32) (w3 : Option Value) (h : Hp) (o : (Int32 × Hp)), SHP L hi h → K14 v1 v2 h = some o → Run X (d + 1) 145 14 [some (.ref 96), some (.int v1), some (.int v2), w3] [] h (some (.int o.1), o.2) ∧ SHP L hi o.2) {v1 : Int32} {d2 : Int32} {w3 : Option Value} {h : Hp} {o : (Int32 × Hp)}  (SH : SHP L hi h) (hf : g_X8_eRead_99 n K14 v1 h = some o) : Run X (d + 1) 145 99 [some (.ref 96), some (.int v1), some (.int d2), w3] [] h (some (.int o.1), o.2) ∧ SHP L hi o.2 := by
  unfold g_X8_eRead_99 at hf
  refine And.imp_left (rs_aload_n i_X8_eRead_99 rfl) ?_
  refine And.imp_left (rs_getI i_X8_eRead_100 (by decide) (by decide) (sO8 SH hh)) ?_
  refine And.imp_left (rs_bipush i_X8_eRead_103 (v := 45) (by decide)) ?_
  by_cases c1 : (gI h 96 28) ≠ 45
  · replace hf := (if_pos c1).symm.trans hf
    refine And.imp_left (rs_icT i_X8_eRead_105 (ct_ne c1) (tg := 124) (by decide)) ?_
    refine And.imp_left (rs_aload_n i_X8_eRead_124 rfl) ?_
    refine And.imp_left (rs_getI i_X8_eRead_125 (by decide) (by decide) (sO8 SH hh)) ?_
    refine And.imp_left (rs_bipush i_X8_eRead_128 (v := 40) (by decide)) ?_
    by_cases c2 : (gI h 96 28) ≠ 40
    · replace hf := (if_pos c2).symm.trans hf
      refine And.imp_left (rs_icT i_X8_eRead_130 (ct_ne c2) (tg := 148) (by decide)) ?_
      refine And.imp_left (rs_iconst i_X8_eRead_148 (v := 0) (by decide)) ?_
      have hf := Option.some.inj hf
      subst hf
      exact ⟨rs_iret i_X8_eRead_149 m_X8_eRead (by decide), SH⟩
    · replace hf := (if_neg c2).symm.trans hf
      refine And.imp_left (rs_icF i_X8_eRead_130 (cf_ne c2)) ?_
      refine And.imp_left (rs_aload_n i_X8_eRead_133 rfl) ?_
      refine And.imp_left (rs_iconst i_X8_eRead_134 (v := 0) (by decide)) ?_
      obtain ⟨o3, e3, hf⟩ := bind_some hf
      obtain ⟨u3, SH2⟩ := k_X8_opensOne (X := X) (d := d) (by omega) (by omega) SH e3
      refine And.imp_left (rs_inV i_X8_eRead_135 m_X8_opensOne rfl (As := [.int 0]) (rest := []) rfl rfl (Nat.le_of_ble_eq_true rfl) (sO8 SH hh) u3 (st' := [.int o3.1]) rfl) ?_
      clear SH; have SH := SH2; clear SH2
      by_cases c4 : o3.1 ≠ 0
      · replace hf := (if_pos c4).symm.trans hf
        refine And.imp_left (rs_ifT i_X8_eRead_138 (ct_ne c4) (tg := 143) (by decide)) ?_
        refine And.imp_left (rs_iconst i_X8_eRead_143 (v := 1) (by decide)) ?_
        refine And.imp_left (rs_istore_n i_X8_eRead_144 (Nat.le_of_ble_eq_true rfl) (lv' := [some (.ref 96), some (.int v1), some (.int 1), w3]) rfl) ?_
        refine And.imp_left (rs_goto i_X8_eRead_145 (tg := 14) (by decide)) ?_
        exact HK14 _ _ _ _ _ SH hf
      · replace hf := (if_neg c4).symm.trans hf
        refine And.imp_left (rs_ifF i_X8_eRead_138 (cf_ne c4)) ?_
        refine And.imp_left (rs_iconst i_X8_eRead_141 (v := 0) (by decide)) ?_
        have hf := Option.some.inj hf
        subst hf
        exact ⟨rs_iret i_X8_eRead_142 m_X8_eRead (by decide), SH⟩
  · replace hf := (if_neg c1).symm.trans hf
    refine And.imp_left (rs_icF i_X8_eRead_105 (cf_ne c1)) ?_
    refine And.imp_left (rs_aload_n i_X8_eRead_108 rfl) ?_
    refine And.imp_left (rs_bipush i_X8_eRead_109 (v := 19) (by decide)) ?_
    obtain ⟨o5, e5, hf⟩ := bind_some hf
    obtain ⟨u5, SH2⟩ := k_X8_opensOne (X := X) (d := d) (by omega) (by omega) SH e5
    refine And.imp_left (rs_inV i_X8_eRead_111 m_X8_opensOne rfl (As := [.int 19]) (rest := []) rfl rfl (Nat.le_of_ble_eq_true rfl) (sO8 SH hh) u5 (st' := [.int o5.1]) rfl) ?_
    clear SH; have SH := SH2; clear SH2
    by_cases c6 : o5.1 ≠ 0
    · replace hf := (if_pos c6).symm.trans hf
      refine And.imp_left (rs_ifT i_X8_eRead_114 (ct_ne c6) (tg := 119) (by decide)) ?_
      refine And.imp_left (rs_iconst i_X8_eRead_119 (v := 0) (by decide)) ?_
      refine And.imp_left (rs_istore_n i_X8_eRead_120 (Nat.le_of_ble_eq_true rfl) (lv' := [some (.ref 96), some (.int v1), some (.int 0), w3]) rfl) ?_
      refine And.imp_left (rs_goto i_X8_eRead_121 (tg := 14) (by decide)) ?_
      exact HK14 _ _ _ _ _ SH hf
    · replace hf := (if_neg c6).symm.trans hf
      refine And.imp_left (rs_ifF i_X8_eRead_114 (cf_ne c6)) ?_
      refine And.imp_left (rs_iconst i_X8_eRead_117 (v := 0) (by decide)) ?_
      have hf := Option.some.inj hf
      subst hf
      exact ⟨rs_iret i_X8_eRead_118 m_X8_eRead (by decide), SH⟩
noncomputable def g_X8_eRead_61 (n : Nat) (K14 : Int32 → Int32 → Hp → Option (Int32 × Hp)) (v2 : Int32) (s1 : Int32) (h : Hp) : Option (Int32 × Hp) :=
  (g_X8_puts s1 h).bind fun o1 =>
  (g_X8_unwinds n 7 o1).bind fun o2 =>
  K14 0 v2 o2
set_option maxRecDepth 100000 in
set_option maxHeartbeats 4000000 in
theorem q_X8_eRead_61 {X : Nat → Int32} {d : Nat} (hd : 3 ≤ (d + 1)) {L hi : Nat} (hh : 125 ≤ hi) {n : Nat} {K14 : Int32 → Int32 → Hp → Option (Int32 × Hp)} (HK14 : ∀ (v1 : Int32) (v2 : Int32) (w3 : Option Value) (h : Hp) (o : (Int32 × Hp)), SHP L hi h → K14 v1 v2 h = some o → Run X (d + 1) 145 14 [some (.ref 96), some (.int v1), some (.int v2), w3] [] h (some (.int o.1), o.2) ∧ SHP L hi o.2) {v2 : Int32} {s1 : Int32} {d1 : Int32} {w3 : Option Value} {h : Hp} {o : (Int32 × Hp)}  (SH : SHP L hi h) (hf : g_X8_eRead_61 n K14 v2 s1 h = some o) : Run X (d + 1) 145 61 [some (.ref 96), some (.int d1), some (.int v2), w3] [.int s1, .ref 96] h (some (.int o.1), o.2) ∧ SHP L hi o.2 := by
  unfold g_X8_eRead_61 at hf
  obtain ⟨o1, e1, hf⟩ := bind_some hf
  obtain ⟨u1, SH2⟩ := k_X8_puts (X := X) (d := d) (by omega) (by omega) SH e1
  refine And.imp_left (rs_inV i_X8_eRead_61 m_X8_puts rfl (As := [.int s1]) (rest := []) rfl rfl (Nat.le_of_ble_eq_true rfl) (sO8 SH hh) u1 (st' := []) rfl) ?_
  clear SH; have SH := SH2; clear SH2
  refine And.imp_left (rs_aload_n i_X8_eRead_64 rfl) ?_
  refine And.imp_left (rs_bipush i_X8_eRead_65 (v := 7) (by decide)) ?_
  obtain ⟨o2, e2, hf⟩ := bind_some hf
  obtain ⟨u2, SH2⟩ := k_X8_unwinds (X := X) (d := d) (by omega) (by omega) SH e2
  refine And.imp_left (rs_inV i_X8_eRead_67 m_X8_unwinds rfl (As := [.int 7]) (rest := []) rfl rfl (Nat.le_of_ble_eq_true rfl) (sO8 SH hh) u2 (st' := []) rfl) ?_
  clear SH; have SH := SH2; clear SH2
  refine And.imp_left (rs_iconst i_X8_eRead_70 (v := 0) (by decide)) ?_
  refine And.imp_left (rs_istore_n i_X8_eRead_71 (Nat.le_of_ble_eq_true rfl) (lv' := [some (.ref 96), some (.int 0), some (.int v2), w3]) rfl) ?_
  refine And.imp_left (rs_goto i_X8_eRead_72 (tg := 14) (by decide)) ?_
  exact HK14 _ _ _ _ _ SH hf
noncomputable def g_X8_eRead_38 (n : Nat) (K14 : Int32 → Int32 → Hp → Option (Int32 × Hp)) (v2 : Int32) (h : Hp) : Option (Int32 × Hp) :=
  if (gI h 96 28) ≠ 1 then
    g_X8_eRead_61 n K14 v2 (gI h 96 29) h
  else
    g_X8_eRead_61 n K14 v2 (100000 + (gI h 96 29)) h
set_option maxRecDepth 100000 in
set_option maxHeartbeats 4000000 in
theorem q_X8_eRead_38 {X : Nat → Int32} {d : Nat} (hd : 3 ≤ (d + 1)) {L hi : Nat} (hh : 125 ≤ hi) {n : Nat} {K14 : Int32 → Int32 → Hp → Option (Int32 × Hp)} (HK14 : ∀ (v1 : Int32) (v2 : Int32) (w3 : Option Value) (h : Hp) (o : (Int32 × Hp)), SHP L hi h → K14 v1 v2 h = some o → Run X (d + 1) 145 14 [some (.ref 96), some (.int v1), some (.int v2), w3] [] h (some (.int o.1), o.2) ∧ SHP L hi o.2) {v2 : Int32} {d1 : Int32} {w3 : Option Value} {h : Hp} {o : (Int32 × Hp)}  (SH : SHP L hi h) (hf : g_X8_eRead_38 n K14 v2 h = some o) : Run X (d + 1) 145 38 [some (.ref 96), some (.int d1), some (.int v2), w3] [] h (some (.int o.1), o.2) ∧ SHP L hi o.2 := by
  unfold g_X8_eRead_38 at hf
  refine And.imp_left (rs_aload_n i_X8_eRead_38 rfl) ?_
  refine And.imp_left (rs_aload_n i_X8_eRead_39 rfl) ?_
  refine And.imp_left (rs_getI i_X8_eRead_40 (by decide) (by decide) (sO8 SH hh)) ?_
  refine And.imp_left (rs_iconst i_X8_eRead_43 (v := 1) (by decide)) ?_
  by_cases c1 : (gI h 96 28) ≠ 1
  · replace hf := (if_pos c1).symm.trans hf
    refine And.imp_left (rs_icT i_X8_eRead_44 (ct_ne c1) (tg := 57) (by decide)) ?_
    refine And.imp_left (rs_aload_n i_X8_eRead_57 rfl) ?_
    refine And.imp_left (rs_getI i_X8_eRead_58 (by decide) (by decide) (sO8 SH hh)) ?_
    exact q_X8_eRead_61 hd hh HK14 SH hf
  · replace hf := (if_neg c1).symm.trans hf
    refine And.imp_left (rs_icF i_X8_eRead_44 (cf_ne c1)) ?_
    refine And.imp_left (rs_ldc i_X8_eRead_47 (v := 100000) (by decide)) ?_
    refine And.imp_left (rs_aload_n i_X8_eRead_49 rfl) ?_
    refine And.imp_left (rs_getI i_X8_eRead_50 (by decide) (by decide) (sO8 SH hh)) ?_
    refine And.imp_left (rs_iadd i_X8_eRead_53) ?_
    refine And.imp_left (rs_goto i_X8_eRead_54 (tg := 61) (by decide)) ?_
    exact q_X8_eRead_61 hd hh HK14 SH hf
noncomputable def g_X8_eRead_14 (n : Nat) : Nat → Int32 → Int32 → Hp → Option (Int32 × Hp)
  | 0, _, _, _ => none
  | m + 1, v1, v2, h =>
    (g_X8_next n h).bind fun o1 =>
    if v1 = 0 then
      if (gI o1 96 28) ≠ 59 then
        if (gI o1 96 28) ≠ 41 then
          (g_X8_signOf o1).bind fun o5 =>
          if o5.1 = (-1) then
            some (0, o5.2)
          else
            (g_X8_between n o5.1 o5.2).bind fun o7 =>
            if o7.1 ≠ 0 then
              if 12 < o5.1 then
                g_X8_eRead_262 n (g_X8_eRead_14 n m) 1 0 o7.2
              else
                g_X8_eRead_262 n (g_X8_eRead_14 n m) 1 1 o7.2
            else
              some (0, o7.2)
        else
          (g_X8_unwinds n 1 o1).bind fun o10 =>
          if (gI o10 96 32) ≠ 0 then
            g_X8_eRead_210 n (g_X8_eRead_14 n m) v1 v2 (hsi o10 96 32 ((gI o10 96 32) - 1))
          else
            some (0, o10)
      else
        (g_X8_unwinds n 1 o1).bind fun o12 =>
        if (gI o12 96 32) ≠ 0 then
          some (0, o12)
        else
          some (1, o12)
    else
      if (gI o1 96 28) = 1 then
        g_X8_eRead_38 n (g_X8_eRead_14 n m) v2 o1
      else
        if (gI o1 96 28) ≠ 2 then
          if (gI o1 96 28) ≠ 6 then
            g_X8_eRead_99 n (g_X8_eRead_14 n m) v1 o1
          else
            if v2 = 0 then
              g_X8_eRead_99 n (g_X8_eRead_14 n m) v1 o1
            else
              (g_X8_opensOne 13 o1).bind fun o18 =>
              if o18.1 ≠ 0 then
                (g_X8_eRead_14 n m) v1 v2 o18.2
              else
                some (0, o18.2)
        else
          g_X8_eRead_38 n (g_X8_eRead_14 n m) v2 o1
set_option maxRecDepth 100000 in
set_option maxHeartbeats 4000000 in
theorem q_X8_eRead_14 {X : Nat → Int32} {d : Nat} (hd : 3 ≤ (d + 1)) {L hi : Nat} (hh : 125 ≤ hi) {n : Nat} : ∀ (m : Nat) (v1 : Int32) (v2 : Int32) (w3 : Option Value) (h : Hp) (o : (Int32 × Hp)), SHP L hi h → g_X8_eRead_14 n m v1 v2 h = some o → Run X (d + 1) 145 14 [some (.ref 96), some (.int v1), some (.int v2), w3] [] h (some (.int o.1), o.2) ∧ SHP L hi o.2 := by
  intro m
  induction m with
  | zero => intro v1 v2 w3 h o SH hf; cases hf
  | succ m ih =>
    intro v1 v2 w3 h o SH hf
    rw [g_X8_eRead_14] at hf
    refine And.imp_left (rs_aload_n i_X8_eRead_14 rfl) ?_
    obtain ⟨o1, e1, hf⟩ := bind_some hf
    obtain ⟨u1, SH2⟩ := k_X8_next (X := X) (d := d) (by omega) (by omega) SH e1
    refine And.imp_left (rs_inV i_X8_eRead_15 m_X8_next rfl (As := []) (rest := []) rfl rfl (Nat.le_of_ble_eq_true rfl) (sO8 SH hh) u1 (st' := []) rfl) ?_
    clear SH; have SH := SH2; clear SH2
    refine And.imp_left (rs_iload_n i_X8_eRead_18 rfl) ?_
    by_cases c2 : v1 = 0
    · replace hf := (if_pos c2).symm.trans hf
      refine And.imp_left (rs_ifT i_X8_eRead_19 (ct_eq c2) (tg := 150) (by decide)) ?_
      refine And.imp_left (rs_aload_n i_X8_eRead_150 rfl) ?_
      refine And.imp_left (rs_getI i_X8_eRead_151 (by decide) (by decide) (sO8 SH hh)) ?_
      refine And.imp_left (rs_bipush i_X8_eRead_154 (v := 59) (by decide)) ?_
      by_cases c3 : (gI o1 96 28) ≠ 59
      · replace hf := (if_pos c3).symm.trans hf
        refine And.imp_left (rs_icT i_X8_eRead_156 (ct_ne c3) (tg := 177) (by decide)) ?_
        refine And.imp_left (rs_aload_n i_X8_eRead_177 rfl) ?_
        refine And.imp_left (rs_getI i_X8_eRead_178 (by decide) (by decide) (sO8 SH hh)) ?_
        refine And.imp_left (rs_bipush i_X8_eRead_181 (v := 41) (by decide)) ?_
        by_cases c4 : (gI o1 96 28) ≠ 41
        · replace hf := (if_pos c4).symm.trans hf
          refine And.imp_left (rs_icT i_X8_eRead_183 (ct_ne c4) (tg := 229) (by decide)) ?_
          refine And.imp_left (rs_aload_n i_X8_eRead_229 rfl) ?_
          obtain ⟨o5, e5, hf⟩ := bind_some hf
          obtain ⟨u5, SH2⟩ := k_X8_signOf (X := X) (d := d) (by omega) (by omega) SH e5
          refine And.imp_left (rs_inV i_X8_eRead_230 m_X8_signOf rfl (As := []) (rest := []) rfl rfl (Nat.le_of_ble_eq_true rfl) (sO8 SH hh) u5 (st' := [.int o5.1]) rfl) ?_
          clear SH; have SH := SH2; clear SH2
          refine And.imp_left (rs_istore_n i_X8_eRead_233 (Nat.le_of_ble_eq_true rfl) (lv' := [some (.ref 96), some (.int v1), some (.int v2), some (.int o5.1)]) rfl) ?_
          refine And.imp_left (rs_iload_n i_X8_eRead_234 rfl) ?_
          refine And.imp_left (rs_iconst i_X8_eRead_235 (v := (-1)) (by decide)) ?_
          by_cases c6 : o5.1 = (-1)
          · replace hf := (if_pos c6).symm.trans hf
            refine And.imp_left (rs_icT i_X8_eRead_236 (ct_eq c6) (tg := 247) (by decide)) ?_
            refine And.imp_left (rs_iconst i_X8_eRead_247 (v := 0) (by decide)) ?_
            have hf := Option.some.inj hf
            subst hf
            exact ⟨rs_iret i_X8_eRead_248 m_X8_eRead (by decide), SH⟩
          · replace hf := (if_neg c6).symm.trans hf
            refine And.imp_left (rs_icF i_X8_eRead_236 (cf_eq c6)) ?_
            refine And.imp_left (rs_aload_n i_X8_eRead_239 rfl) ?_
            refine And.imp_left (rs_iload_n i_X8_eRead_240 rfl) ?_
            obtain ⟨o7, e7, hf⟩ := bind_some hf
            obtain ⟨u7, SH2⟩ := k_X8_between (X := X) (d := d) (by omega) (by omega) SH e7
            refine And.imp_left (rs_inV i_X8_eRead_241 m_X8_between rfl (As := [.int o5.1]) (rest := []) rfl rfl (Nat.le_of_ble_eq_true rfl) (sO8 SH hh) u7 (st' := [.int o7.1]) rfl) ?_
            clear SH; have SH := SH2; clear SH2
            by_cases c8 : o7.1 ≠ 0
            · replace hf := (if_pos c8).symm.trans hf
              refine And.imp_left (rs_ifT i_X8_eRead_244 (ct_ne c8) (tg := 249) (by decide)) ?_
              refine And.imp_left (rs_iconst i_X8_eRead_249 (v := 1) (by decide)) ?_
              refine And.imp_left (rs_istore_n i_X8_eRead_250 (Nat.le_of_ble_eq_true rfl) (lv' := [some (.ref 96), some (.int 1), some (.int v2), some (.int o5.1)]) rfl) ?_
              refine And.imp_left (rs_iload_n i_X8_eRead_251 rfl) ?_
              refine And.imp_left (rs_bipush i_X8_eRead_252 (v := 12) (by decide)) ?_
              by_cases c9 : 12 < o5.1
              · replace hf := (if_pos c9).symm.trans hf
                refine And.imp_left (rs_icT i_X8_eRead_254 (ct_gt c9) (tg := 261) (by decide)) ?_
                refine And.imp_left (rs_iconst i_X8_eRead_261 (v := 0) (by decide)) ?_
                exact q_X8_eRead_262 hd hh ih SH hf
              · replace hf := (if_neg c9).symm.trans hf
                refine And.imp_left (rs_icF i_X8_eRead_254 (cf_gt c9)) ?_
                refine And.imp_left (rs_iconst i_X8_eRead_257 (v := 1) (by decide)) ?_
                refine And.imp_left (rs_goto i_X8_eRead_258 (tg := 262) (by decide)) ?_
                exact q_X8_eRead_262 hd hh ih SH hf
            · replace hf := (if_neg c8).symm.trans hf
              refine And.imp_left (rs_ifF i_X8_eRead_244 (cf_ne c8)) ?_
              refine And.imp_left (rs_iconst i_X8_eRead_247 (v := 0) (by decide)) ?_
              have hf := Option.some.inj hf
              subst hf
              exact ⟨rs_iret i_X8_eRead_248 m_X8_eRead (by decide), SH⟩
        · replace hf := (if_neg c4).symm.trans hf
          refine And.imp_left (rs_icF i_X8_eRead_183 (cf_ne c4)) ?_
          refine And.imp_left (rs_aload_n i_X8_eRead_186 rfl) ?_
          refine And.imp_left (rs_iconst i_X8_eRead_187 (v := 1) (by decide)) ?_
          obtain ⟨o10, e10, hf⟩ := bind_some hf
          obtain ⟨u10, SH2⟩ := k_X8_unwinds (X := X) (d := d) (by omega) (by omega) SH e10
          refine And.imp_left (rs_inV i_X8_eRead_188 m_X8_unwinds rfl (As := [.int 1]) (rest := []) rfl rfl (Nat.le_of_ble_eq_true rfl) (sO8 SH hh) u10 (st' := []) rfl) ?_
          clear SH; have SH := SH2; clear SH2
          refine And.imp_left (rs_aload_n i_X8_eRead_191 rfl) ?_
          refine And.imp_left (rs_getI i_X8_eRead_192 (by decide) (by decide) (sO8 SH hh)) ?_
          by_cases c11 : (gI o10 96 32) ≠ 0
          · replace hf := (if_pos c11).symm.trans hf
            refine And.imp_left (rs_ifT i_X8_eRead_195 (ct_ne c11) (tg := 200) (by decide)) ?_
            refine And.imp_left (rs_aload_n i_X8_eRead_200 rfl) ?_
            refine And.imp_left (rs_dup i_X8_eRead_201 rfl) ?_
            refine And.imp_left (rs_getI i_X8_eRead_202 (by decide) (by decide) (sO8 SH hh)) ?_
            refine And.imp_left (rs_iconst i_X8_eRead_205 (v := 1) (by decide)) ?_
            refine And.imp_left (rs_isub i_X8_eRead_206) ?_
            refine And.imp_left (rs_putI i_X8_eRead_207 (by decide) (sO8 SH hh)) ?_
            have SH := shi SH 96 32 ((gI o10 96 32) - 1)
            exact q_X8_eRead_210 hd hh ih SH hf
          · replace hf := (if_neg c11).symm.trans hf
            refine And.imp_left (rs_ifF i_X8_eRead_195 (cf_ne c11)) ?_
            refine And.imp_left (rs_iconst i_X8_eRead_198 (v := 0) (by decide)) ?_
            have hf := Option.some.inj hf
            subst hf
            exact ⟨rs_iret i_X8_eRead_199 m_X8_eRead (by decide), SH⟩
      · replace hf := (if_neg c3).symm.trans hf
        refine And.imp_left (rs_icF i_X8_eRead_156 (cf_ne c3)) ?_
        refine And.imp_left (rs_aload_n i_X8_eRead_159 rfl) ?_
        refine And.imp_left (rs_iconst i_X8_eRead_160 (v := 1) (by decide)) ?_
        obtain ⟨o12, e12, hf⟩ := bind_some hf
        obtain ⟨u12, SH2⟩ := k_X8_unwinds (X := X) (d := d) (by omega) (by omega) SH e12
        refine And.imp_left (rs_inV i_X8_eRead_161 m_X8_unwinds rfl (As := [.int 1]) (rest := []) rfl rfl (Nat.le_of_ble_eq_true rfl) (sO8 SH hh) u12 (st' := []) rfl) ?_
        clear SH; have SH := SH2; clear SH2
        refine And.imp_left (rs_aload_n i_X8_eRead_164 rfl) ?_
        refine And.imp_left (rs_getI i_X8_eRead_165 (by decide) (by decide) (sO8 SH hh)) ?_
        by_cases c13 : (gI o12 96 32) ≠ 0
        · replace hf := (if_pos c13).symm.trans hf
          refine And.imp_left (rs_ifT i_X8_eRead_168 (ct_ne c13) (tg := 175) (by decide)) ?_
          refine And.imp_left (rs_iconst i_X8_eRead_175 (v := 0) (by decide)) ?_
          have hf := Option.some.inj hf
          subst hf
          exact ⟨rs_iret i_X8_eRead_176 m_X8_eRead (by decide), SH⟩
        · replace hf := (if_neg c13).symm.trans hf
          refine And.imp_left (rs_ifF i_X8_eRead_168 (cf_ne c13)) ?_
          refine And.imp_left (rs_iconst i_X8_eRead_171 (v := 1) (by decide)) ?_
          refine And.imp_left (rs_goto i_X8_eRead_172 (tg := 176) (by decide)) ?_
          have hf := Option.some.inj hf
          subst hf
          exact ⟨rs_iret i_X8_eRead_176 m_X8_eRead (by decide), SH⟩
    · replace hf := (if_neg c2).symm.trans hf
      refine And.imp_left (rs_ifF i_X8_eRead_19 (cf_eq c2)) ?_
      refine And.imp_left (rs_aload_n i_X8_eRead_22 rfl) ?_
      refine And.imp_left (rs_getI i_X8_eRead_23 (by decide) (by decide) (sO8 SH hh)) ?_
      refine And.imp_left (rs_iconst i_X8_eRead_26 (v := 1) (by decide)) ?_
      by_cases c14 : (gI o1 96 28) = 1
      · replace hf := (if_pos c14).symm.trans hf
        refine And.imp_left (rs_icT i_X8_eRead_27 (ct_eq c14) (tg := 38) (by decide)) ?_
        exact q_X8_eRead_38 hd hh ih SH hf
      · replace hf := (if_neg c14).symm.trans hf
        refine And.imp_left (rs_icF i_X8_eRead_27 (cf_eq c14)) ?_
        refine And.imp_left (rs_aload_n i_X8_eRead_30 rfl) ?_
        refine And.imp_left (rs_getI i_X8_eRead_31 (by decide) (by decide) (sO8 SH hh)) ?_
        refine And.imp_left (rs_iconst i_X8_eRead_34 (v := 2) (by decide)) ?_
        by_cases c15 : (gI o1 96 28) ≠ 2
        · replace hf := (if_pos c15).symm.trans hf
          refine And.imp_left (rs_icT i_X8_eRead_35 (ct_ne c15) (tg := 75) (by decide)) ?_
          refine And.imp_left (rs_aload_n i_X8_eRead_75 rfl) ?_
          refine And.imp_left (rs_getI i_X8_eRead_76 (by decide) (by decide) (sO8 SH hh)) ?_
          refine And.imp_left (rs_bipush i_X8_eRead_79 (v := 6) (by decide)) ?_
          by_cases c16 : (gI o1 96 28) ≠ 6
          · replace hf := (if_pos c16).symm.trans hf
            refine And.imp_left (rs_icT i_X8_eRead_81 (ct_ne c16) (tg := 99) (by decide)) ?_
            exact q_X8_eRead_99 hd hh ih SH hf
          · replace hf := (if_neg c16).symm.trans hf
            refine And.imp_left (rs_icF i_X8_eRead_81 (cf_ne c16)) ?_
            refine And.imp_left (rs_iload_n i_X8_eRead_84 rfl) ?_
            by_cases c17 : v2 = 0
            · replace hf := (if_pos c17).symm.trans hf
              refine And.imp_left (rs_ifT i_X8_eRead_85 (ct_eq c17) (tg := 99) (by decide)) ?_
              exact q_X8_eRead_99 hd hh ih SH hf
            · replace hf := (if_neg c17).symm.trans hf
              refine And.imp_left (rs_ifF i_X8_eRead_85 (cf_eq c17)) ?_
              refine And.imp_left (rs_aload_n i_X8_eRead_88 rfl) ?_
              refine And.imp_left (rs_bipush i_X8_eRead_89 (v := 13) (by decide)) ?_
              obtain ⟨o18, e18, hf⟩ := bind_some hf
              obtain ⟨u18, SH2⟩ := k_X8_opensOne (X := X) (d := d) (by omega) (by omega) SH e18
              refine And.imp_left (rs_inV i_X8_eRead_91 m_X8_opensOne rfl (As := [.int 13]) (rest := []) rfl rfl (Nat.le_of_ble_eq_true rfl) (sO8 SH hh) u18 (st' := [.int o18.1]) rfl) ?_
              clear SH; have SH := SH2; clear SH2
              by_cases c19 : o18.1 ≠ 0
              · replace hf := (if_pos c19).symm.trans hf
                refine And.imp_left (rs_ifT i_X8_eRead_94 (ct_ne c19) (tg := 14) (by decide)) ?_
                exact ih _ _ _ _ _ SH hf
              · replace hf := (if_neg c19).symm.trans hf
                refine And.imp_left (rs_ifF i_X8_eRead_94 (cf_ne c19)) ?_
                refine And.imp_left (rs_iconst i_X8_eRead_97 (v := 0) (by decide)) ?_
                have hf := Option.some.inj hf
                subst hf
                exact ⟨rs_iret i_X8_eRead_98 m_X8_eRead (by decide), SH⟩
        · replace hf := (if_neg c15).symm.trans hf
          refine And.imp_left (rs_icF i_X8_eRead_35 (cf_ne c15)) ?_
          exact q_X8_eRead_38 hd hh ih SH hf
noncomputable def g_X8_eRead_5 (n : Nat)  (h : Hp) : Option (Int32 × Hp) :=
  g_X8_eRead_14 n n 1 1 (hsi h 96 33 0)
set_option maxRecDepth 100000 in
set_option maxHeartbeats 4000000 in
theorem q_X8_eRead_5 {X : Nat → Int32} {d : Nat} (hd : 3 ≤ (d + 1)) {L hi : Nat} (hh : 125 ≤ hi) {n : Nat}  {h : Hp} {o : (Int32 × Hp)}  (SH : SHP L hi h) (hf : g_X8_eRead_5 n h = some o) : Run X (d + 1) 145 5 [some (.ref 96), none, none, none] [] h (some (.int o.1), o.2) ∧ SHP L hi o.2 := by
  unfold g_X8_eRead_5 at hf
  refine And.imp_left (rs_aload_n i_X8_eRead_5 rfl) ?_
  refine And.imp_left (rs_iconst i_X8_eRead_6 (v := 0) (by decide)) ?_
  refine And.imp_left (rs_putI i_X8_eRead_7 (by decide) (sO8 SH hh)) ?_
  have SH := shi SH 96 33 0
  refine And.imp_left (rs_iconst i_X8_eRead_10 (v := 1) (by decide)) ?_
  refine And.imp_left (rs_istore_n i_X8_eRead_11 (Nat.le_of_ble_eq_true rfl) (lv' := [some (.ref 96), some (.int 1), none, none]) rfl) ?_
  refine And.imp_left (rs_iconst i_X8_eRead_12 (v := 1) (by decide)) ?_
  refine And.imp_left (rs_istore_n i_X8_eRead_13 (Nat.le_of_ble_eq_true rfl) (lv' := [some (.ref 96), some (.int 1), some (.int 1), none]) rfl) ?_
  exact q_X8_eRead_14 hd hh _ _ _ _ _ _ SH hf
noncomputable def g_X8_eRead_0 (n : Nat)  (h : Hp) : Option (Int32 × Hp) :=
  g_X8_eRead_5 n (hsi h 96 32 0)
set_option maxRecDepth 100000 in
set_option maxHeartbeats 4000000 in
theorem q_X8_eRead_0 {X : Nat → Int32} {d : Nat} (hd : 3 ≤ (d + 1)) {L hi : Nat} (hh : 125 ≤ hi) {n : Nat}  {h : Hp} {o : (Int32 × Hp)}  (SH : SHP L hi h) (hf : g_X8_eRead_0 n h = some o) : Run X (d + 1) 145 0 [some (.ref 96), none, none, none] [] h (some (.int o.1), o.2) ∧ SHP L hi o.2 := by
  unfold g_X8_eRead_0 at hf
  refine And.imp_left (rs_aload_n i_X8_eRead_0 rfl) ?_
  refine And.imp_left (rs_iconst i_X8_eRead_1 (v := 0) (by decide)) ?_
  refine And.imp_left (rs_putI i_X8_eRead_2 (by decide) (sO8 SH hh)) ?_
  have SH := shi SH 96 32 0
  exact q_X8_eRead_5 hd hh SH hf
noncomputable def g_X8_eRead (n : Nat)  (h : Hp) : Option (Int32 × Hp) := g_X8_eRead_0 n h
theorem k_X8_eRead {X : Nat → Int32} {d : Nat} (hd : 3 ≤ d) {L hi : Nat} (hh : 125 ≤ hi) {n : Nat}  {h : Hp} {o : (Int32 × Hp)}  (SH : SHP L hi h) (hf : g_X8_eRead n h = some o) : Calls X d 145 [.ref 96] h (some (.int o.1), o.2) ∧ SHP L hi o.2 := by
  obtain ⟨d, rfl⟩ : ∃ z, d = z + 1 := ⟨d - 1, by omega⟩
  obtain ⟨r, S2⟩ := q_X8_eRead_0 hd hh SH hf
  exact ⟨⟨_, rfl, r⟩, S2⟩
noncomputable def g_X8_text_166 (n : Nat)  (h : Hp) : Option (Int32 × Hp) :=
  some (((gI h 96 13) - 1), h)
set_option maxRecDepth 100000 in
set_option maxHeartbeats 4000000 in
theorem q_X8_text_166 {X : Nat → Int32} {d : Nat} (hd : 4 ≤ (d + 1)) {L hi : Nat} (hh : 125 ≤ hi) {n : Nat} {d1 : Int32} {d2 : Int32} {h : Hp} {o : (Int32 × Hp)}  (SH : SHP L hi h) (hf : g_X8_text_166 n h = some o) : Run X (d + 1) 146 166 [some (.ref 96), some (.int d1), some (.int d2)] [] h (some (.int o.1), o.2) ∧ SHP L hi o.2 := by
  unfold g_X8_text_166 at hf
  refine And.imp_left (rs_aload_n i_X8_text_166 rfl) ?_
  refine And.imp_left (rs_getI i_X8_text_167 (by decide) (by decide) (sO8 SH hh)) ?_
  refine And.imp_left (rs_iconst i_X8_text_170 (v := 1) (by decide)) ?_
  refine And.imp_left (rs_isub i_X8_text_171) ?_
  have hf := Option.some.inj hf
  subst hf
  exact ⟨rs_iret i_X8_text_172 m_X8_text rfl, SH⟩
noncomputable def g_X8_text_144 (n : Nat) (v1 : Int32) (h : Hp) : Option (Int32 × Hp) :=
  if v1 ≠ 0 then
    g_X8_text_166 n (hsi h 96 13 ((gI h 96 13) + 1))
  else
    some (((-100) - (gI h 96 27)), h)
set_option maxRecDepth 100000 in
set_option maxHeartbeats 4000000 in
theorem q_X8_text_144 {X : Nat → Int32} {d : Nat} (hd : 4 ≤ (d + 1)) {L hi : Nat} (hh : 125 ≤ hi) {n : Nat} {v1 : Int32} {d2 : Int32} {h : Hp} {o : (Int32 × Hp)}  (SH : SHP L hi h) (hf : g_X8_text_144 n v1 h = some o) : Run X (d + 1) 146 144 [some (.ref 96), some (.int v1), some (.int d2)] [] h (some (.int o.1), o.2) ∧ SHP L hi o.2 := by
  unfold g_X8_text_144 at hf
  refine And.imp_left (rs_iload_n i_X8_text_144 rfl) ?_
  by_cases c1 : v1 ≠ 0
  · replace hf := (if_pos c1).symm.trans hf
    refine And.imp_left (rs_ifT i_X8_text_145 (ct_ne c1) (tg := 156) (by decide)) ?_
    refine And.imp_left (rs_aload_n i_X8_text_156 rfl) ?_
    refine And.imp_left (rs_dup i_X8_text_157 rfl) ?_
    refine And.imp_left (rs_getI i_X8_text_158 (by decide) (by decide) (sO8 SH hh)) ?_
    refine And.imp_left (rs_iconst i_X8_text_161 (v := 1) (by decide)) ?_
    refine And.imp_left (rs_iadd i_X8_text_162) ?_
    refine And.imp_left (rs_putI i_X8_text_163 (by decide) (sO8 SH hh)) ?_
    have SH := shi SH 96 13 ((gI h 96 13) + 1)
    exact q_X8_text_166 hd hh SH hf
  · replace hf := (if_neg c1).symm.trans hf
    refine And.imp_left (rs_ifF i_X8_text_145 (cf_ne c1)) ?_
    refine And.imp_left (rs_bipush i_X8_text_148 (v := (-100)) (by decide)) ?_
    refine And.imp_left (rs_aload_n i_X8_text_150 rfl) ?_
    refine And.imp_left (rs_getI i_X8_text_151 (by decide) (by decide) (sO8 SH hh)) ?_
    refine And.imp_left (rs_isub i_X8_text_154) ?_
    have hf := Option.some.inj hf
    subst hf
    exact ⟨rs_iret i_X8_text_155 m_X8_text rfl, SH⟩
noncomputable def g_X8_text_139 (n : Nat) (v1 : Int32) (h : Hp) : Option (Int32 × Hp) :=
  g_X8_text_144 n v1 (hsi h 96 10 0)
set_option maxRecDepth 100000 in
set_option maxHeartbeats 4000000 in
theorem q_X8_text_139 {X : Nat → Int32} {d : Nat} (hd : 4 ≤ (d + 1)) {L hi : Nat} (hh : 125 ≤ hi) {n : Nat} {v1 : Int32} {d2 : Int32} {h : Hp} {o : (Int32 × Hp)}  (SH : SHP L hi h) (hf : g_X8_text_139 n v1 h = some o) : Run X (d + 1) 146 139 [some (.ref 96), some (.int v1), some (.int d2)] [] h (some (.int o.1), o.2) ∧ SHP L hi o.2 := by
  unfold g_X8_text_139 at hf
  refine And.imp_left (rs_aload_n i_X8_text_139 rfl) ?_
  refine And.imp_left (rs_iconst i_X8_text_140 (v := 0) (by decide)) ?_
  refine And.imp_left (rs_putI i_X8_text_141 (by decide) (sO8 SH hh)) ?_
  have SH := shi SH 96 10 0
  exact q_X8_text_144 hd hh SH hf
noncomputable def g_X8_text_122 (n : Nat) (v1 : Int32) (h : Hp) : Option (Int32 × Hp) :=
  if inb ((4 * (gI h 96 13)) + 3) 24 = true then
  g_X8_text_139 n v1 (hsi h 104 (ix ((4 * (gI h 96 13)) + 3)) (gI h 96 34))
  else none
set_option maxRecDepth 100000 in
set_option maxHeartbeats 4000000 in
theorem q_X8_text_122 {X : Nat → Int32} {d : Nat} (hd : 4 ≤ (d + 1)) {L hi : Nat} (hh : 125 ≤ hi) {n : Nat} {v1 : Int32} {d2 : Int32} {h : Hp} {o : (Int32 × Hp)}  (SH : SHP L hi h) (hf : g_X8_text_122 n v1 h = some o) : Run X (d + 1) 146 122 [some (.ref 96), some (.int v1), some (.int d2)] [] h (some (.int o.1), o.2) ∧ SHP L hi o.2 := by
  unfold g_X8_text_122 at hf
  refine And.imp_left (rs_aload_n i_X8_text_122 rfl) ?_
  refine And.imp_left (rs_getR i_X8_text_123 (by decide) (by decide) (sO8 SH hh) (sR8_12 SH hh)) ?_
  refine And.imp_left (rs_iconst i_X8_text_126 (v := 4) (by decide)) ?_
  refine And.imp_left (rs_aload_n i_X8_text_127 rfl) ?_
  refine And.imp_left (rs_getI i_X8_text_128 (by decide) (by decide) (sO8 SH hh)) ?_
  refine And.imp_left (rs_imul i_X8_text_131) ?_
  refine And.imp_left (rs_iconst i_X8_text_132 (v := 3) (by decide)) ?_
  refine And.imp_left (rs_iadd i_X8_text_133) ?_
  refine And.imp_left (rs_aload_n i_X8_text_134 rfl) ?_
  refine And.imp_left (rs_getI i_X8_text_135 (by decide) (by decide) (sO8 SH hh)) ?_
  obtain ⟨c1, hf⟩ := ite_some hf
  refine And.imp_left (rs_iast i_X8_text_138 (mkI (sA SH hh (k := 9) (n := 24) (by decide)) c1)) ?_
  have SH := shi SH 104 (ix ((4 * (gI h 96 13)) + 3)) (gI h 96 34)
  exact q_X8_text_139 hd hh SH hf
noncomputable def g_X8_text_121 (n : Nat) (s0 : Int32) (h : Hp) : Option (Int32 × Hp) :=
  g_X8_text_122 n s0 h
set_option maxRecDepth 100000 in
set_option maxHeartbeats 4000000 in
theorem q_X8_text_121 {X : Nat → Int32} {d : Nat} (hd : 4 ≤ (d + 1)) {L hi : Nat} (hh : 125 ≤ hi) {n : Nat} {s0 : Int32} {d1 : Int32} {d2 : Int32} {h : Hp} {o : (Int32 × Hp)}  (SH : SHP L hi h) (hf : g_X8_text_121 n s0 h = some o) : Run X (d + 1) 146 121 [some (.ref 96), some (.int d1), some (.int d2)] [.int s0] h (some (.int o.1), o.2) ∧ SHP L hi o.2 := by
  unfold g_X8_text_121 at hf
  refine And.imp_left (rs_istore_n i_X8_text_121 (Nat.le_of_ble_eq_true rfl) (lv' := [some (.ref 96), some (.int s0), some (.int d2)]) rfl) ?_
  exact q_X8_text_122 hd hh SH hf
noncomputable def g_X8_text_101 (n : Nat) (v1 : Int32) (h : Hp) : Option (Int32 × Hp) :=
  if v1 = 0 then
    g_X8_text_122 n v1 h
  else
    (g_X8_next n h).bind fun o2 =>
    if (gI o2 96 28) ≠ 0 then
      g_X8_text_121 n 0 o2
    else
      g_X8_text_121 n 1 o2
set_option maxRecDepth 100000 in
set_option maxHeartbeats 4000000 in
theorem q_X8_text_101 {X : Nat → Int32} {d : Nat} (hd : 4 ≤ (d + 1)) {L hi : Nat} (hh : 125 ≤ hi) {n : Nat} {v1 : Int32} {d2 : Int32} {h : Hp} {o : (Int32 × Hp)}  (SH : SHP L hi h) (hf : g_X8_text_101 n v1 h = some o) : Run X (d + 1) 146 101 [some (.ref 96), some (.int v1), some (.int d2)] [] h (some (.int o.1), o.2) ∧ SHP L hi o.2 := by
  unfold g_X8_text_101 at hf
  refine And.imp_left (rs_iload_n i_X8_text_101 rfl) ?_
  by_cases c1 : v1 = 0
  · replace hf := (if_pos c1).symm.trans hf
    refine And.imp_left (rs_ifT i_X8_text_102 (ct_eq c1) (tg := 122) (by decide)) ?_
    exact q_X8_text_122 hd hh SH hf
  · replace hf := (if_neg c1).symm.trans hf
    refine And.imp_left (rs_ifF i_X8_text_102 (cf_eq c1)) ?_
    refine And.imp_left (rs_aload_n i_X8_text_105 rfl) ?_
    obtain ⟨o2, e2, hf⟩ := bind_some hf
    obtain ⟨u2, SH2⟩ := k_X8_next (X := X) (d := d) (by omega) (by omega) SH e2
    refine And.imp_left (rs_inV i_X8_text_106 m_X8_next rfl (As := []) (rest := []) rfl rfl (Nat.le_of_ble_eq_true rfl) (sO8 SH hh) u2 (st' := []) rfl) ?_
    clear SH; have SH := SH2; clear SH2
    refine And.imp_left (rs_aload_n i_X8_text_109 rfl) ?_
    refine And.imp_left (rs_getI i_X8_text_110 (by decide) (by decide) (sO8 SH hh)) ?_
    by_cases c3 : (gI o2 96 28) ≠ 0
    · replace hf := (if_pos c3).symm.trans hf
      refine And.imp_left (rs_ifT i_X8_text_113 (ct_ne c3) (tg := 120) (by decide)) ?_
      refine And.imp_left (rs_iconst i_X8_text_120 (v := 0) (by decide)) ?_
      exact q_X8_text_121 hd hh SH hf
    · replace hf := (if_neg c3).symm.trans hf
      refine And.imp_left (rs_ifF i_X8_text_113 (cf_ne c3)) ?_
      refine And.imp_left (rs_iconst i_X8_text_116 (v := 1) (by decide)) ?_
      refine And.imp_left (rs_goto i_X8_text_117 (tg := 121) (by decide)) ?_
      exact q_X8_text_121 hd hh SH hf
noncomputable def g_X8_text_94 (n : Nat) (K26 : Int32 → Int32 → Hp → Option (Int32 × Hp)) (v2 : Int32) (s0 : Int32) (h : Hp) : Option (Int32 × Hp) :=
  K26 s0 (v2 + 1) h
set_option maxRecDepth 100000 in
set_option maxHeartbeats 4000000 in
theorem q_X8_text_94 {X : Nat → Int32} {d : Nat} (hd : 4 ≤ (d + 1)) {L hi : Nat} (hh : 125 ≤ hi) {n : Nat} {K26 : Int32 → Int32 → Hp → Option (Int32 × Hp)} (HK26 : ∀ (v1 : Int32) (v2 : Int32) (h : Hp) (o : (Int32 × Hp)), SHP L hi h → K26 v1 v2 h = some o → Run X (d + 1) 146 26 [some (.ref 96), some (.int v1), some (.int v2)] [] h (some (.int o.1), o.2) ∧ SHP L hi o.2) {v2 : Int32} {s0 : Int32} {d1 : Int32} {h : Hp} {o : (Int32 × Hp)}  (SH : SHP L hi h) (hf : g_X8_text_94 n K26 v2 s0 h = some o) : Run X (d + 1) 146 94 [some (.ref 96), some (.int d1), some (.int v2)] [.int s0] h (some (.int o.1), o.2) ∧ SHP L hi o.2 := by
  unfold g_X8_text_94 at hf
  refine And.imp_left (rs_istore_n i_X8_text_94 (Nat.le_of_ble_eq_true rfl) (lv' := [some (.ref 96), some (.int s0), some (.int v2)]) rfl) ?_
  refine And.imp_left (rs_iinc i_X8_text_95 rfl (v := v2 + 1) rfl (Nat.le_of_ble_eq_true rfl) (lv' := [some (.ref 96), some (.int s0), some (.int (v2 + 1))]) rfl) ?_
  refine And.imp_left (rs_goto i_X8_text_98 (tg := 26) (by decide)) ?_
  exact HK26 _ _ _ _ SH hf
noncomputable def g_X8_text_93 (n : Nat) (K26 : Int32 → Int32 → Hp → Option (Int32 × Hp)) (v2 : Int32) (h : Hp) : Option (Int32 × Hp) :=
  g_X8_text_94 n K26 v2 0 h
set_option maxRecDepth 100000 in
set_option maxHeartbeats 4000000 in
theorem q_X8_text_93 {X : Nat → Int32} {d : Nat} (hd : 4 ≤ (d + 1)) {L hi : Nat} (hh : 125 ≤ hi) {n : Nat} {K26 : Int32 → Int32 → Hp → Option (Int32 × Hp)} (HK26 : ∀ (v1 : Int32) (v2 : Int32) (h : Hp) (o : (Int32 × Hp)), SHP L hi h → K26 v1 v2 h = some o → Run X (d + 1) 146 26 [some (.ref 96), some (.int v1), some (.int v2)] [] h (some (.int o.1), o.2) ∧ SHP L hi o.2) {v2 : Int32} {d1 : Int32} {h : Hp} {o : (Int32 × Hp)}  (SH : SHP L hi h) (hf : g_X8_text_93 n K26 v2 h = some o) : Run X (d + 1) 146 93 [some (.ref 96), some (.int d1), some (.int v2)] [] h (some (.int o.1), o.2) ∧ SHP L hi o.2 := by
  unfold g_X8_text_93 at hf
  refine And.imp_left (rs_iconst i_X8_text_93 (v := 0) (by decide)) ?_
  exact q_X8_text_94 hd hh HK26 SH hf
noncomputable def g_X8_text_78 (n : Nat) (K26 : Int32 → Int32 → Hp → Option (Int32 × Hp)) (v1 : Int32) (v2 : Int32) (h : Hp) : Option (Int32 × Hp) :=
  if v1 = 0 then
    g_X8_text_93 n K26 v2 h
  else
    (g_X8_eRead n h).bind fun o2 =>
    if o2.1 = 0 then
      g_X8_text_93 n K26 v2 o2.2
    else
      g_X8_text_94 n K26 v2 1 o2.2
set_option maxRecDepth 100000 in
set_option maxHeartbeats 4000000 in
theorem q_X8_text_78 {X : Nat → Int32} {d : Nat} (hd : 4 ≤ (d + 1)) {L hi : Nat} (hh : 125 ≤ hi) {n : Nat} {K26 : Int32 → Int32 → Hp → Option (Int32 × Hp)} (HK26 : ∀ (v1 : Int32) (v2 : Int32) (h : Hp) (o : (Int32 × Hp)), SHP L hi h → K26 v1 v2 h = some o → Run X (d + 1) 146 26 [some (.ref 96), some (.int v1), some (.int v2)] [] h (some (.int o.1), o.2) ∧ SHP L hi o.2) {v1 : Int32} {v2 : Int32} {h : Hp} {o : (Int32 × Hp)}  (SH : SHP L hi h) (hf : g_X8_text_78 n K26 v1 v2 h = some o) : Run X (d + 1) 146 78 [some (.ref 96), some (.int v1), some (.int v2)] [] h (some (.int o.1), o.2) ∧ SHP L hi o.2 := by
  unfold g_X8_text_78 at hf
  refine And.imp_left (rs_iload_n i_X8_text_78 rfl) ?_
  by_cases c1 : v1 = 0
  · replace hf := (if_pos c1).symm.trans hf
    refine And.imp_left (rs_ifT i_X8_text_79 (ct_eq c1) (tg := 93) (by decide)) ?_
    exact q_X8_text_93 hd hh HK26 SH hf
  · replace hf := (if_neg c1).symm.trans hf
    refine And.imp_left (rs_ifF i_X8_text_79 (cf_eq c1)) ?_
    refine And.imp_left (rs_aload_n i_X8_text_82 rfl) ?_
    obtain ⟨o2, e2, hf⟩ := bind_some hf
    obtain ⟨u2, SH2⟩ := k_X8_eRead (X := X) (d := d) (by omega) (by omega) SH e2
    refine And.imp_left (rs_inV i_X8_text_83 m_X8_eRead rfl (As := []) (rest := []) rfl rfl (Nat.le_of_ble_eq_true rfl) (sO8 SH hh) u2 (st' := [.int o2.1]) rfl) ?_
    clear SH; have SH := SH2; clear SH2
    by_cases c3 : o2.1 = 0
    · replace hf := (if_pos c3).symm.trans hf
      refine And.imp_left (rs_ifT i_X8_text_86 (ct_eq c3) (tg := 93) (by decide)) ?_
      exact q_X8_text_93 hd hh HK26 SH hf
    · replace hf := (if_neg c3).symm.trans hf
      refine And.imp_left (rs_ifF i_X8_text_86 (cf_eq c3)) ?_
      refine And.imp_left (rs_iconst i_X8_text_89 (v := 1) (by decide)) ?_
      refine And.imp_left (rs_goto i_X8_text_90 (tg := 94) (by decide)) ?_
      exact q_X8_text_94 hd hh HK26 SH hf
noncomputable def g_X8_text_60 (n : Nat) (K26 : Int32 → Int32 → Hp → Option (Int32 × Hp)) (v2 : Int32) (s0 : Int32) (h : Hp) : Option (Int32 × Hp) :=
  if inb ((4 * (gI h 96 13)) + v2) 24 = true then
  g_X8_text_78 n K26 s0 v2 (hsi h 104 (ix ((4 * (gI h 96 13)) + v2)) (gI h 96 34))
  else none
set_option maxRecDepth 100000 in
set_option maxHeartbeats 4000000 in
theorem q_X8_text_60 {X : Nat → Int32} {d : Nat} (hd : 4 ≤ (d + 1)) {L hi : Nat} (hh : 125 ≤ hi) {n : Nat} {K26 : Int32 → Int32 → Hp → Option (Int32 × Hp)} (HK26 : ∀ (v1 : Int32) (v2 : Int32) (h : Hp) (o : (Int32 × Hp)), SHP L hi h → K26 v1 v2 h = some o → Run X (d + 1) 146 26 [some (.ref 96), some (.int v1), some (.int v2)] [] h (some (.int o.1), o.2) ∧ SHP L hi o.2) {v2 : Int32} {s0 : Int32} {d1 : Int32} {h : Hp} {o : (Int32 × Hp)}  (SH : SHP L hi h) (hf : g_X8_text_60 n K26 v2 s0 h = some o) : Run X (d + 1) 146 60 [some (.ref 96), some (.int d1), some (.int v2)] [.int s0] h (some (.int o.1), o.2) ∧ SHP L hi o.2 := by
  unfold g_X8_text_60 at hf
  refine And.imp_left (rs_istore_n i_X8_text_60 (Nat.le_of_ble_eq_true rfl) (lv' := [some (.ref 96), some (.int s0), some (.int v2)]) rfl) ?_
  refine And.imp_left (rs_aload_n i_X8_text_61 rfl) ?_
  refine And.imp_left (rs_getR i_X8_text_62 (by decide) (by decide) (sO8 SH hh) (sR8_12 SH hh)) ?_
  refine And.imp_left (rs_iconst i_X8_text_65 (v := 4) (by decide)) ?_
  refine And.imp_left (rs_aload_n i_X8_text_66 rfl) ?_
  refine And.imp_left (rs_getI i_X8_text_67 (by decide) (by decide) (sO8 SH hh)) ?_
  refine And.imp_left (rs_imul i_X8_text_70) ?_
  refine And.imp_left (rs_iload_n i_X8_text_71 rfl) ?_
  refine And.imp_left (rs_iadd i_X8_text_72) ?_
  refine And.imp_left (rs_aload_n i_X8_text_73 rfl) ?_
  refine And.imp_left (rs_getI i_X8_text_74 (by decide) (by decide) (sO8 SH hh)) ?_
  obtain ⟨c1, hf⟩ := ite_some hf
  refine And.imp_left (rs_iast i_X8_text_77 (mkI (sA SH hh (k := 9) (n := 24) (by decide)) c1)) ?_
  have SH := shi SH 104 (ix ((4 * (gI h 96 13)) + v2)) (gI h 96 34)
  exact q_X8_text_78 hd hh HK26 SH hf
noncomputable def g_X8_text_59 (n : Nat) (K26 : Int32 → Int32 → Hp → Option (Int32 × Hp)) (v2 : Int32) (h : Hp) : Option (Int32 × Hp) :=
  g_X8_text_60 n K26 v2 0 h
set_option maxRecDepth 100000 in
set_option maxHeartbeats 4000000 in
theorem q_X8_text_59 {X : Nat → Int32} {d : Nat} (hd : 4 ≤ (d + 1)) {L hi : Nat} (hh : 125 ≤ hi) {n : Nat} {K26 : Int32 → Int32 → Hp → Option (Int32 × Hp)} (HK26 : ∀ (v1 : Int32) (v2 : Int32) (h : Hp) (o : (Int32 × Hp)), SHP L hi h → K26 v1 v2 h = some o → Run X (d + 1) 146 26 [some (.ref 96), some (.int v1), some (.int v2)] [] h (some (.int o.1), o.2) ∧ SHP L hi o.2) {v2 : Int32} {d1 : Int32} {h : Hp} {o : (Int32 × Hp)}  (SH : SHP L hi h) (hf : g_X8_text_59 n K26 v2 h = some o) : Run X (d + 1) 146 59 [some (.ref 96), some (.int d1), some (.int v2)] [] h (some (.int o.1), o.2) ∧ SHP L hi o.2 := by
  unfold g_X8_text_59 at hf
  refine And.imp_left (rs_iconst i_X8_text_59 (v := 0) (by decide)) ?_
  exact q_X8_text_60 hd hh HK26 SH hf
noncomputable def g_X8_text_26 (n : Nat) : Nat → Int32 → Int32 → Hp → Option (Int32 × Hp)
  | 0, _, _, _ => none
  | m + 1, v1, v2, h =>
    if 3 ≤ v2 then
      g_X8_text_101 n v1 h
    else
      if v1 = 0 then
        g_X8_text_101 n v1 h
      else
        (g_X8_next n h).bind fun o3 =>
        if (gI o3 96 28) ≠ 3 then
          g_X8_text_59 n (g_X8_text_26 n m) v2 o3
        else
          if (gI o3 96 29) ≠ v2 then
            g_X8_text_59 n (g_X8_text_26 n m) v2 o3
          else
            g_X8_text_60 n (g_X8_text_26 n m) v2 1 o3
set_option maxRecDepth 100000 in
set_option maxHeartbeats 4000000 in
theorem q_X8_text_26 {X : Nat → Int32} {d : Nat} (hd : 4 ≤ (d + 1)) {L hi : Nat} (hh : 125 ≤ hi) {n : Nat} : ∀ (m : Nat) (v1 : Int32) (v2 : Int32) (h : Hp) (o : (Int32 × Hp)), SHP L hi h → g_X8_text_26 n m v1 v2 h = some o → Run X (d + 1) 146 26 [some (.ref 96), some (.int v1), some (.int v2)] [] h (some (.int o.1), o.2) ∧ SHP L hi o.2 := by
  intro m
  induction m with
  | zero => intro v1 v2 h o SH hf; cases hf
  | succ m ih =>
    intro v1 v2 h o SH hf
    rw [g_X8_text_26] at hf
    refine And.imp_left (rs_iload_n i_X8_text_26 rfl) ?_
    refine And.imp_left (rs_iconst i_X8_text_27 (v := 3) (by decide)) ?_
    by_cases c1 : 3 ≤ v2
    · replace hf := (if_pos c1).symm.trans hf
      refine And.imp_left (rs_icT i_X8_text_28 (ct_ge c1) (tg := 101) (by decide)) ?_
      exact q_X8_text_101 hd hh SH hf
    · replace hf := (if_neg c1).symm.trans hf
      refine And.imp_left (rs_icF i_X8_text_28 (cf_ge c1)) ?_
      refine And.imp_left (rs_iload_n i_X8_text_31 rfl) ?_
      by_cases c2 : v1 = 0
      · replace hf := (if_pos c2).symm.trans hf
        refine And.imp_left (rs_ifT i_X8_text_32 (ct_eq c2) (tg := 101) (by decide)) ?_
        exact q_X8_text_101 hd hh SH hf
      · replace hf := (if_neg c2).symm.trans hf
        refine And.imp_left (rs_ifF i_X8_text_32 (cf_eq c2)) ?_
        refine And.imp_left (rs_aload_n i_X8_text_35 rfl) ?_
        obtain ⟨o3, e3, hf⟩ := bind_some hf
        obtain ⟨u3, SH2⟩ := k_X8_next (X := X) (d := d) (by omega) (by omega) SH e3
        refine And.imp_left (rs_inV i_X8_text_36 m_X8_next rfl (As := []) (rest := []) rfl rfl (Nat.le_of_ble_eq_true rfl) (sO8 SH hh) u3 (st' := []) rfl) ?_
        clear SH; have SH := SH2; clear SH2
        refine And.imp_left (rs_aload_n i_X8_text_39 rfl) ?_
        refine And.imp_left (rs_getI i_X8_text_40 (by decide) (by decide) (sO8 SH hh)) ?_
        refine And.imp_left (rs_iconst i_X8_text_43 (v := 3) (by decide)) ?_
        by_cases c4 : (gI o3 96 28) ≠ 3
        · replace hf := (if_pos c4).symm.trans hf
          refine And.imp_left (rs_icT i_X8_text_44 (ct_ne c4) (tg := 59) (by decide)) ?_
          exact q_X8_text_59 hd hh ih SH hf
        · replace hf := (if_neg c4).symm.trans hf
          refine And.imp_left (rs_icF i_X8_text_44 (cf_ne c4)) ?_
          refine And.imp_left (rs_aload_n i_X8_text_47 rfl) ?_
          refine And.imp_left (rs_getI i_X8_text_48 (by decide) (by decide) (sO8 SH hh)) ?_
          refine And.imp_left (rs_iload_n i_X8_text_51 rfl) ?_
          by_cases c5 : (gI o3 96 29) ≠ v2
          · replace hf := (if_pos c5).symm.trans hf
            refine And.imp_left (rs_icT i_X8_text_52 (ct_ne c5) (tg := 59) (by decide)) ?_
            exact q_X8_text_59 hd hh ih SH hf
          · replace hf := (if_neg c5).symm.trans hf
            refine And.imp_left (rs_icF i_X8_text_52 (cf_ne c5)) ?_
            refine And.imp_left (rs_iconst i_X8_text_55 (v := 1) (by decide)) ?_
            refine And.imp_left (rs_goto i_X8_text_56 (tg := 60) (by decide)) ?_
            exact q_X8_text_60 hd hh ih SH hf
noncomputable def g_X8_text_17 (n : Nat)  (h : Hp) : Option (Int32 × Hp) :=
  g_X8_text_26 n n 1 0 (hsi h 96 34 0)
set_option maxRecDepth 100000 in
set_option maxHeartbeats 4000000 in
theorem q_X8_text_17 {X : Nat → Int32} {d : Nat} (hd : 4 ≤ (d + 1)) {L hi : Nat} (hh : 125 ≤ hi) {n : Nat}  {h : Hp} {o : (Int32 × Hp)}  (SH : SHP L hi h) (hf : g_X8_text_17 n h = some o) : Run X (d + 1) 146 17 [some (.ref 96), none, none] [] h (some (.int o.1), o.2) ∧ SHP L hi o.2 := by
  unfold g_X8_text_17 at hf
  refine And.imp_left (rs_aload_n i_X8_text_17 rfl) ?_
  refine And.imp_left (rs_iconst i_X8_text_18 (v := 0) (by decide)) ?_
  refine And.imp_left (rs_putI i_X8_text_19 (by decide) (sO8 SH hh)) ?_
  have SH := shi SH 96 34 0
  refine And.imp_left (rs_iconst i_X8_text_22 (v := 1) (by decide)) ?_
  refine And.imp_left (rs_istore_n i_X8_text_23 (Nat.le_of_ble_eq_true rfl) (lv' := [some (.ref 96), some (.int 1), none]) rfl) ?_
  refine And.imp_left (rs_iconst i_X8_text_24 (v := 0) (by decide)) ?_
  refine And.imp_left (rs_istore_n i_X8_text_25 (Nat.le_of_ble_eq_true rfl) (lv' := [some (.ref 96), some (.int 1), some (.int 0)]) rfl) ?_
  exact q_X8_text_26 hd hh _ _ _ _ _ SH hf
noncomputable def g_X8_text_0 (n : Nat)  (h : Hp) : Option (Int32 × Hp) :=
  if (gI h 96 13) ≠ 6 then
    g_X8_text_17 n (hsi h 96 26 0)
  else
    some ((-4), h)
set_option maxRecDepth 100000 in
set_option maxHeartbeats 4000000 in
theorem q_X8_text_0 {X : Nat → Int32} {d : Nat} (hd : 4 ≤ (d + 1)) {L hi : Nat} (hh : 125 ≤ hi) {n : Nat}  {h : Hp} {o : (Int32 × Hp)}  (SH : SHP L hi h) (hf : g_X8_text_0 n h = some o) : Run X (d + 1) 146 0 [some (.ref 96), none, none] [] h (some (.int o.1), o.2) ∧ SHP L hi o.2 := by
  unfold g_X8_text_0 at hf
  refine And.imp_left (rs_aload_n i_X8_text_0 rfl) ?_
  refine And.imp_left (rs_getI i_X8_text_1 (by decide) (by decide) (sO8 SH hh)) ?_
  refine And.imp_left (rs_bipush i_X8_text_4 (v := 6) (by decide)) ?_
  by_cases c1 : (gI h 96 13) ≠ 6
  · replace hf := (if_pos c1).symm.trans hf
    refine And.imp_left (rs_icT i_X8_text_6 (ct_ne c1) (tg := 12) (by decide)) ?_
    refine And.imp_left (rs_aload_n i_X8_text_12 rfl) ?_
    refine And.imp_left (rs_iconst i_X8_text_13 (v := 0) (by decide)) ?_
    refine And.imp_left (rs_putI i_X8_text_14 (by decide) (sO8 SH hh)) ?_
    have SH := shi SH 96 26 0
    exact q_X8_text_17 hd hh SH hf
  · replace hf := (if_neg c1).symm.trans hf
    refine And.imp_left (rs_icF i_X8_text_6 (cf_ne c1)) ?_
    refine And.imp_left (rs_bipush i_X8_text_9 (v := (-4)) (by decide)) ?_
    have hf := Option.some.inj hf
    subst hf
    exact ⟨rs_iret i_X8_text_11 m_X8_text rfl, SH⟩
noncomputable def g_X8_text (n : Nat)  (h : Hp) : Option (Int32 × Hp) := g_X8_text_0 n h
theorem k_X8_text {X : Nat → Int32} {d : Nat} (hd : 4 ≤ d) {L hi : Nat} (hh : 125 ≤ hi) {n : Nat}  {h : Hp} {o : (Int32 × Hp)}  (SH : SHP L hi h) (hf : g_X8_text n h = some o) : Calls X d 146 [.ref 96] h (some (.int o.1), o.2) ∧ SHP L hi o.2 := by
  obtain ⟨d, rfl⟩ : ∃ z, d = z + 1 := ⟨d - 1, by omega⟩
  obtain ⟨r, S2⟩ := q_X8_text_0 hd hh SH hf
  exact ⟨⟨_, rfl, r⟩, S2⟩
noncomputable def g_X8_init_1488 (n : Nat)  (h : Hp) : Option Hp :=
  (g_X8_text n h).bind fun o1 =>
  some o1.2
set_option maxRecDepth 100000 in
set_option maxHeartbeats 4000000 in
theorem q_X8_init_1488 {X : Nat → Int32} {d : Nat} (hd : 5 ≤ (d + 1)) {L hi : Nat} (hh : 125 ≤ hi) {n : Nat} {d1 : Int32} {h : Hp} {o : Hp}  (SH : SHP L hi h) (hf : g_X8_init_1488 n h = some o) : Run X (d + 1) 125 1488 [some (.ref 96), some (.int d1)] [] h (none, o) ∧ SHP L hi o := by
  unfold g_X8_init_1488 at hf
  refine And.imp_left (rs_aload_n i_X8_init_1488 rfl) ?_
  obtain ⟨o1, e1, hf⟩ := bind_some hf
  obtain ⟨u1, SH2⟩ := k_X8_text (X := X) (d := d) (by omega) (by omega) SH e1
  refine And.imp_left (rs_inV i_X8_init_1489 m_X8_text rfl (As := []) (rest := []) rfl rfl (Nat.le_of_ble_eq_true rfl) (sO8 SH hh) u1 (st' := [.int o1.1]) rfl) ?_
  clear SH; have SH := SH2; clear SH2
  refine And.imp_left (rs_pop i_X8_init_1492 rfl) ?_
  have hf := Option.some.inj hf
  subst hf
  exact ⟨rs_vret i_X8_init_1493 m_X8_init rfl, SH⟩
noncomputable def g_X8_init_1458 (n : Nat) : Nat → Int32 → Hp → Option Hp
  | 0, _, _ => none
  | m + 1, v1, h =>
    if 83 ≤ v1 then
      g_X8_init_1488 n (hsi h 96 10 83)
    else
      if inb v1 83 = true then
      if inb v1 160 = true then
      (g_X8_init_1458 n m) (v1 + 1) (hsi h 102 (ix v1) (gI h 110 (ix v1)))
      else none
      else none
set_option maxRecDepth 100000 in
set_option maxHeartbeats 4000000 in
theorem q_X8_init_1458 {X : Nat → Int32} {d : Nat} (hd : 5 ≤ (d + 1)) {L hi : Nat} (hh : 125 ≤ hi) {n : Nat} : ∀ (m : Nat) (v1 : Int32) (h : Hp) (o : Hp), SHP L hi h → g_X8_init_1458 n m v1 h = some o → Run X (d + 1) 125 1458 [some (.ref 96), some (.int v1)] [] h (none, o) ∧ SHP L hi o := by
  intro m
  induction m with
  | zero => intro v1 h o SH hf; cases hf
  | succ m ih =>
    intro v1 h o SH hf
    rw [g_X8_init_1458] at hf
    refine And.imp_left (rs_iload_n i_X8_init_1458 rfl) ?_
    refine And.imp_left (rs_bipush i_X8_init_1459 (v := 83) (by decide)) ?_
    by_cases c1 : 83 ≤ v1
    · replace hf := (if_pos c1).symm.trans hf
      refine And.imp_left (rs_icT i_X8_init_1461 (ct_ge c1) (tg := 1482) (by decide)) ?_
      refine And.imp_left (rs_aload_n i_X8_init_1482 rfl) ?_
      refine And.imp_left (rs_bipush i_X8_init_1483 (v := 83) (by decide)) ?_
      refine And.imp_left (rs_putI i_X8_init_1485 (by decide) (sO8 SH hh)) ?_
      have SH := shi SH 96 10 83
      exact q_X8_init_1488 hd hh SH hf
    · replace hf := (if_neg c1).symm.trans hf
      refine And.imp_left (rs_icF i_X8_init_1461 (cf_ge c1)) ?_
      refine And.imp_left (rs_aload_n i_X8_init_1464 rfl) ?_
      refine And.imp_left (rs_getR i_X8_init_1465 (by decide) (by decide) (sO8 SH hh) (sR8_9 SH hh)) ?_
      refine And.imp_left (rs_iload_n i_X8_init_1468 rfl) ?_
      refine And.imp_left (rs_aload_n i_X8_init_1469 rfl) ?_
      refine And.imp_left (rs_getR i_X8_init_1470 (by decide) (by decide) (sO8 SH hh) (sR8_25 SH hh)) ?_
      refine And.imp_left (rs_iload_n i_X8_init_1473 rfl) ?_
      obtain ⟨c2, hf⟩ := ite_some hf
      refine And.imp_left (rs_iald i_X8_init_1474 (mkI (sA SH hh (k := 9) (n := 83) (by decide)) c2)) ?_
      obtain ⟨c3, hf⟩ := ite_some hf
      refine And.imp_left (rs_iast i_X8_init_1475 (mkI (sA SH hh (k := 9) (n := 160) (by decide)) c3)) ?_
      have SH := shi SH 102 (ix v1) (gI h 110 (ix v1))
      refine And.imp_left (rs_iinc i_X8_init_1476 rfl (v := v1 + 1) rfl (Nat.le_of_ble_eq_true rfl) (lv' := [some (.ref 96), some (.int (v1 + 1))]) rfl) ?_
      refine And.imp_left (rs_goto i_X8_init_1479 (tg := 1458) (by decide)) ?_
      exact ih _ _ _ SH hf
noncomputable def g_X8_init_1456 (n : Nat)  (h : Hp) : Option Hp :=
  g_X8_init_1458 n n 0 h
set_option maxRecDepth 100000 in
set_option maxHeartbeats 4000000 in
theorem q_X8_init_1456 {X : Nat → Int32} {d : Nat} (hd : 5 ≤ (d + 1)) {L hi : Nat} (hh : 125 ≤ hi) {n : Nat}  {h : Hp} {o : Hp}  (SH : SHP L hi h) (hf : g_X8_init_1456 n h = some o) : Run X (d + 1) 125 1456 [some (.ref 96), none] [] h (none, o) ∧ SHP L hi o := by
  unfold g_X8_init_1456 at hf
  refine And.imp_left (rs_iconst i_X8_init_1456 (v := 0) (by decide)) ?_
  refine And.imp_left (rs_istore_n i_X8_init_1457 (Nat.le_of_ble_eq_true rfl) (lv' := [some (.ref 96), some (.int 0)]) rfl) ?_
  exact q_X8_init_1458 hd hh _ _ _ _ SH hf
noncomputable def g_X8_isCell_0 (v0 : Int32) (h : Hp) : Option (Int32 × Hp) :=
  (g_X8_in v0 0 11 h).bind fun o1 =>
  if o1.1 = 0 ∨ o1.1 = 1 then
  some (o1.1, o1.2)
  else none
set_option maxRecDepth 100000 in
set_option maxHeartbeats 4000000 in
theorem q_X8_isCell_0 {X : Nat → Int32} {d : Nat} (hd : 1 ≤ (d + 1)) {L hi : Nat} (hh : 125 ≤ hi) {v0 : Int32} {h : Hp} {o : (Int32 × Hp)}  (SH : SHP L hi h) (hf : g_X8_isCell_0 v0 h = some o) : Run X (d + 1) 127 0 [some (.int v0)] [] h (some (.int o.1), o.2) ∧ SHP L hi o.2 := by
  unfold g_X8_isCell_0 at hf
  refine And.imp_left (rs_iload_n i_X8_isCell_0 rfl) ?_
  refine And.imp_left (rs_iconst i_X8_isCell_1 (v := 0) (by decide)) ?_
  refine And.imp_left (rs_bipush i_X8_isCell_2 (v := 11) (by decide)) ?_
  obtain ⟨o1, e1, hf⟩ := bind_some hf
  obtain ⟨u1, SH2⟩ := k_X8_in (X := X) (d := d) (by omega) (by omega) SH e1
  refine And.imp_left (rs_inS i_X8_isCell_4 (by decide) m_X8_in rfl (As := [.int v0, .int 0, .int 11]) (rest := []) rfl rfl (Nat.le_of_ble_eq_true rfl) u1 (st' := [.int o1.1]) rfl) ?_
  clear SH; have SH := SH2; clear SH2
  obtain ⟨c2, hf⟩ := ite_some hf
  have hf := Option.some.inj hf
  subst hf
  exact ⟨rs_iret i_X8_isCell_7 m_X8_isCell (decide_eq_true c2), SH⟩
noncomputable def g_X8_isCell (v0 : Int32) (h : Hp) : Option (Int32 × Hp) := g_X8_isCell_0 v0 h
theorem k_X8_isCell {X : Nat → Int32} {d : Nat} (hd : 1 ≤ d) {L hi : Nat} (hh : 125 ≤ hi) {v0 : Int32} {h : Hp} {o : (Int32 × Hp)}  (SH : SHP L hi h) (hf : g_X8_isCell v0 h = some o) : Calls X d 127 [.int v0] h (some (.int o.1), o.2) ∧ SHP L hi o.2 := by
  obtain ⟨d, rfl⟩ : ∃ z, d = z + 1 := ⟨d - 1, by omega⟩
  obtain ⟨r, S2⟩ := q_X8_isCell_0 hd hh SH hf
  exact ⟨⟨_, rfl, r⟩, S2⟩
noncomputable def g_X8_areSteps_0 (v1 : Int32) (h : Hp) : Option (Int32 × Hp) :=
  (g_X8_in v1 0 (gI h 96 5) h).bind fun o1 =>
  if o1.1 = 0 ∨ o1.1 = 1 then
  some (o1.1, o1.2)
  else none
set_option maxRecDepth 100000 in
set_option maxHeartbeats 4000000 in
theorem q_X8_areSteps_0 {X : Nat → Int32} {d : Nat} (hd : 1 ≤ (d + 1)) {L hi : Nat} (hh : 125 ≤ hi) {v1 : Int32} {h : Hp} {o : (Int32 × Hp)}  (SH : SHP L hi h) (hf : g_X8_areSteps_0 v1 h = some o) : Run X (d + 1) 128 0 [some (.ref 96), some (.int v1)] [] h (some (.int o.1), o.2) ∧ SHP L hi o.2 := by
  unfold g_X8_areSteps_0 at hf
  refine And.imp_left (rs_iload_n i_X8_areSteps_0 rfl) ?_
  refine And.imp_left (rs_iconst i_X8_areSteps_1 (v := 0) (by decide)) ?_
  refine And.imp_left (rs_aload_n i_X8_areSteps_2 rfl) ?_
  refine And.imp_left (rs_getI i_X8_areSteps_3 (by decide) (by decide) (sO8 SH hh)) ?_
  obtain ⟨o1, e1, hf⟩ := bind_some hf
  obtain ⟨u1, SH2⟩ := k_X8_in (X := X) (d := d) (by omega) (by omega) SH e1
  refine And.imp_left (rs_inS i_X8_areSteps_6 (by decide) m_X8_in rfl (As := [.int v1, .int 0, .int (gI h 96 5)]) (rest := []) rfl rfl (Nat.le_of_ble_eq_true rfl) u1 (st' := [.int o1.1]) rfl) ?_
  clear SH; have SH := SH2; clear SH2
  obtain ⟨c2, hf⟩ := ite_some hf
  have hf := Option.some.inj hf
  subst hf
  exact ⟨rs_iret i_X8_areSteps_9 m_X8_areSteps (decide_eq_true c2), SH⟩
noncomputable def g_X8_areSteps (v1 : Int32) (h : Hp) : Option (Int32 × Hp) := g_X8_areSteps_0 v1 h
theorem k_X8_areSteps {X : Nat → Int32} {d : Nat} (hd : 1 ≤ d) {L hi : Nat} (hh : 125 ≤ hi) {v1 : Int32} {h : Hp} {o : (Int32 × Hp)}  (SH : SHP L hi h) (hf : g_X8_areSteps v1 h = some o) : Calls X d 128 [.ref 96, .int v1] h (some (.int o.1), o.2) ∧ SHP L hi o.2 := by
  obtain ⟨d, rfl⟩ : ∃ z, d = z + 1 := ⟨d - 1, by omega⟩
  obtain ⟨r, S2⟩ := q_X8_areSteps_0 hd hh SH hf
  exact ⟨⟨_, rfl, r⟩, S2⟩
noncomputable def g_X8_size_0 (v0 : Int32) (h : Hp) : Option (Int32 × Hp) :=
  if 0 ≤ v0 then
    some (v0, h)
  else
    some ((-v0), h)
set_option maxRecDepth 100000 in
set_option maxHeartbeats 4000000 in
theorem q_X8_size_0 {X : Nat → Int32} {d : Nat} (hd : 0 ≤ d) {L hi : Nat} (hh : 125 ≤ hi) {v0 : Int32} {h : Hp} {o : (Int32 × Hp)}  (SH : SHP L hi h) (hf : g_X8_size_0 v0 h = some o) : Run X d 129 0 [some (.int v0)] [] h (some (.int o.1), o.2) ∧ SHP L hi o.2 := by
  unfold g_X8_size_0 at hf
  refine And.imp_left (rs_iload_n i_X8_size_0 rfl) ?_
  by_cases c1 : 0 ≤ v0
  · replace hf := (if_pos c1).symm.trans hf
    refine And.imp_left (rs_ifT i_X8_size_1 (ct_ge c1) (tg := 9) (by decide)) ?_
    refine And.imp_left (rs_iload_n i_X8_size_9 rfl) ?_
    have hf := Option.some.inj hf
    subst hf
    exact ⟨rs_iret i_X8_size_10 m_X8_size rfl, SH⟩
  · replace hf := (if_neg c1).symm.trans hf
    refine And.imp_left (rs_ifF i_X8_size_1 (cf_ge c1)) ?_
    refine And.imp_left (rs_iload_n i_X8_size_4 rfl) ?_
    refine And.imp_left (rs_ineg i_X8_size_5) ?_
    refine And.imp_left (rs_goto i_X8_size_6 (tg := 10) (by decide)) ?_
    have hf := Option.some.inj hf
    subst hf
    exact ⟨rs_iret i_X8_size_10 m_X8_size rfl, SH⟩
noncomputable def g_X8_size (v0 : Int32) (h : Hp) : Option (Int32 × Hp) := g_X8_size_0 v0 h
theorem k_X8_size {X : Nat → Int32} {d : Nat} (hd : 0 ≤ d) {L hi : Nat} (hh : 125 ≤ hi) {v0 : Int32} {h : Hp} {o : (Int32 × Hp)}  (SH : SHP L hi h) (hf : g_X8_size v0 h = some o) : Calls X d 129 [.int v0] h (some (.int o.1), o.2) ∧ SHP L hi o.2 := by
  obtain ⟨r, S2⟩ := q_X8_size_0 hd hh SH hf
  exact ⟨⟨_, rfl, r⟩, S2⟩
noncomputable def g_X8_within_0 (v0 : Int32) (v1 : Int32) (v2 : Int32) (h : Hp) : Option (Int32 × Hp) :=
  if v1 ≤ v0 then
    if v0 ≤ v2 then
      some (v0, h)
    else
      some (v2, h)
  else
    some (v1, h)
set_option maxRecDepth 100000 in
set_option maxHeartbeats 4000000 in
theorem q_X8_within_0 {X : Nat → Int32} {d : Nat} (hd : 0 ≤ d) {L hi : Nat} (hh : 125 ≤ hi) {v0 : Int32} {v1 : Int32} {v2 : Int32} {h : Hp} {o : (Int32 × Hp)}  (SH : SHP L hi h) (hf : g_X8_within_0 v0 v1 v2 h = some o) : Run X d 130 0 [some (.int v0), some (.int v1), some (.int v2)] [] h (some (.int o.1), o.2) ∧ SHP L hi o.2 := by
  unfold g_X8_within_0 at hf
  refine And.imp_left (rs_iload_n i_X8_within_0 rfl) ?_
  refine And.imp_left (rs_iload_n i_X8_within_1 rfl) ?_
  by_cases c1 : v1 ≤ v0
  · replace hf := (if_pos c1).symm.trans hf
    refine And.imp_left (rs_icT i_X8_within_2 (ct_ge c1) (tg := 9) (by decide)) ?_
    refine And.imp_left (rs_iload_n i_X8_within_9 rfl) ?_
    refine And.imp_left (rs_iload_n i_X8_within_10 rfl) ?_
    by_cases c2 : v0 ≤ v2
    · replace hf := (if_pos c2).symm.trans hf
      refine And.imp_left (rs_icT i_X8_within_11 (ct_le c2) (tg := 18) (by decide)) ?_
      refine And.imp_left (rs_iload_n i_X8_within_18 rfl) ?_
      have hf := Option.some.inj hf
      subst hf
      exact ⟨rs_iret i_X8_within_19 m_X8_within rfl, SH⟩
    · replace hf := (if_neg c2).symm.trans hf
      refine And.imp_left (rs_icF i_X8_within_11 (cf_le c2)) ?_
      refine And.imp_left (rs_iload_n i_X8_within_14 rfl) ?_
      refine And.imp_left (rs_goto i_X8_within_15 (tg := 19) (by decide)) ?_
      have hf := Option.some.inj hf
      subst hf
      exact ⟨rs_iret i_X8_within_19 m_X8_within rfl, SH⟩
  · replace hf := (if_neg c1).symm.trans hf
    refine And.imp_left (rs_icF i_X8_within_2 (cf_ge c1)) ?_
    refine And.imp_left (rs_iload_n i_X8_within_5 rfl) ?_
    refine And.imp_left (rs_goto i_X8_within_6 (tg := 19) (by decide)) ?_
    have hf := Option.some.inj hf
    subst hf
    exact ⟨rs_iret i_X8_within_19 m_X8_within rfl, SH⟩
noncomputable def g_X8_within (v0 : Int32) (v1 : Int32) (v2 : Int32) (h : Hp) : Option (Int32 × Hp) := g_X8_within_0 v0 v1 v2 h
theorem k_X8_within {X : Nat → Int32} {d : Nat} (hd : 0 ≤ d) {L hi : Nat} (hh : 125 ≤ hi) {v0 : Int32} {v1 : Int32} {v2 : Int32} {h : Hp} {o : (Int32 × Hp)}  (SH : SHP L hi h) (hf : g_X8_within v0 v1 v2 h = some o) : Calls X d 130 [.int v0, .int v1, .int v2] h (some (.int o.1), o.2) ∧ SHP L hi o.2 := by
  obtain ⟨r, S2⟩ := q_X8_within_0 hd hh SH hf
  exact ⟨⟨_, rfl, r⟩, S2⟩
