noncomputable def g_X8_lowest_16 (n : Nat) : Nat → Int64 → Int64 → Int32 → Int64 → Int64 → Hp → Option (Int64 × Hp)
  | 0, _, _, _, _, _, _ => none
  | m + 1, v0, v2, v4, v5, v7, h =>
    if v7 = 0 then
      if v4 ≠ 0 then
        if ¬ v5 = 0 then
        some ((v2 / v5), h)
        else none
      else
        if ¬ v5 = 0 then
        some ((v0 / v5), h)
        else none
    else
      if ¬ v7 = 0 then
      (g_X8_lowest_16 n m) v0 v2 v4 v7 (v5 - v5 / v7 * v7) h
      else none
set_option maxRecDepth 100000 in
set_option maxHeartbeats 4000000 in
theorem q_X8_lowest_16 {X : Nat → Int32} {d : Nat} (hd : 0 ≤ d) {L hi : Nat} (hh : 125 ≤ hi) {n : Nat} : ∀ (m : Nat) (v0 : Int64) (v2 : Int64) (v4 : Int32) (v5 : Int64) (v7 : Int64) (w9 : Option Value) (w10 : Option Value) (h : Hp) (o : (Int64 × Hp)), SHP L hi h → g_X8_lowest_16 n m v0 v2 v4 v5 v7 h = some o → Run X d 204 16 [some (.long v0), none, some (.long v2), none, some (.int v4), some (.long v5), none, some (.long v7), none, w9, w10] [] h (some (.long o.1), o.2) ∧ SHP L hi o.2 := by
  intro m
  induction m with
  | zero => intro v0 v2 v4 v5 v7 w9 w10 h o SH hf; cases hf
  | succ m ih =>
    intro v0 v2 v4 v5 v7 w9 w10 h o SH hf
    rw [g_X8_lowest_16] at hf
    refine And.imp_left (rs_lload i_X8_lowest_16 rfl) ?_
    refine And.imp_left (rs_lconst i_X8_lowest_18 (v := 0) (by decide)) ?_
    refine And.imp_left (rs_lcmp i_X8_lowest_19) ?_
    by_cases c1 : v7 = 0
    · replace hf := (if_pos c1).symm.trans hf
      refine And.imp_left (rs_ifT i_X8_lowest_20 (by rw [lc_eq]; exact decide_eq_true c1) (tg := 41) (by decide)) ?_
      refine And.imp_left (rs_iload i_X8_lowest_41 rfl) ?_
      by_cases c2 : v4 ≠ 0
      · replace hf := (if_pos c2).symm.trans hf
        refine And.imp_left (rs_ifT i_X8_lowest_43 (ct_ne c2) (tg := 50) (by decide)) ?_
        refine And.imp_left (rs_lload_n i_X8_lowest_50 rfl) ?_
        refine And.imp_left (rs_lload i_X8_lowest_51 rfl) ?_
        obtain ⟨c3, hf⟩ := ite_some hf
        refine And.imp_left (rs_ldiv i_X8_lowest_53 c3) ?_
        have hf := Option.some.inj hf
        subst hf
        exact ⟨rs_lret i_X8_lowest_54 m_X8_lowest rfl, SH⟩
      · replace hf := (if_neg c2).symm.trans hf
        refine And.imp_left (rs_ifF i_X8_lowest_43 (cf_ne c2)) ?_
        refine And.imp_left (rs_lload_n i_X8_lowest_46 rfl) ?_
        refine And.imp_left (rs_goto i_X8_lowest_47 (tg := 51) (by decide)) ?_
        refine And.imp_left (rs_lload i_X8_lowest_51 rfl) ?_
        obtain ⟨c4, hf⟩ := ite_some hf
        refine And.imp_left (rs_ldiv i_X8_lowest_53 c4) ?_
        have hf := Option.some.inj hf
        subst hf
        exact ⟨rs_lret i_X8_lowest_54 m_X8_lowest rfl, SH⟩
    · replace hf := (if_neg c1).symm.trans hf
      refine And.imp_left (rs_ifF i_X8_lowest_20 (by rw [lc_eq]; exact decide_eq_false c1)) ?_
      refine And.imp_left (rs_lload i_X8_lowest_23 rfl) ?_
      refine And.imp_left (rs_lload i_X8_lowest_25 rfl) ?_
      obtain ⟨c5, hf⟩ := ite_some hf
      refine And.imp_left (rs_lrem i_X8_lowest_27 c5) ?_
      refine And.imp_left (rs_lstore i_X8_lowest_28 (Nat.le_of_ble_eq_true rfl) (lv' := [some (.long v0), none, some (.long v2), none, some (.int v4), some (.long v5), none, some (.long v7), none, some (.long (v5 - v5 / v7 * v7)), none]) rfl) ?_
      refine And.imp_left (rs_lload i_X8_lowest_30 rfl) ?_
      refine And.imp_left (rs_lstore i_X8_lowest_32 (Nat.le_of_ble_eq_true rfl) (lv' := [some (.long v0), none, some (.long v2), none, some (.int v4), some (.long v7), none, some (.long v7), none, some (.long (v5 - v5 / v7 * v7)), none]) rfl) ?_
      refine And.imp_left (rs_lload i_X8_lowest_34 rfl) ?_
      refine And.imp_left (rs_lstore i_X8_lowest_36 (Nat.le_of_ble_eq_true rfl) (lv' := [some (.long v0), none, some (.long v2), none, some (.int v4), some (.long v7), none, some (.long (v5 - v5 / v7 * v7)), none, some (.long (v5 - v5 / v7 * v7)), none]) rfl) ?_
      refine And.imp_left (rs_goto i_X8_lowest_38 (tg := 16) (by decide)) ?_
      exact ih _ _ _ _ _ _ _ _ _ SH hf
noncomputable def g_X8_lowest_0 (n : Nat) (v0 : Int64) (v2 : Int64) (v4 : Int32) (h : Hp) : Option (Int64 × Hp) :=
  if v0 ≠ 0 then
    g_X8_lowest_16 n n v0 v2 v4 v0 v2 h
  else
    some ((Int32.toInt64 v4), h)
set_option maxRecDepth 100000 in
set_option maxHeartbeats 4000000 in
theorem q_X8_lowest_0 {X : Nat → Int32} {d : Nat} (hd : 0 ≤ d) {L hi : Nat} (hh : 125 ≤ hi) {n : Nat} {v0 : Int64} {v2 : Int64} {v4 : Int32} {h : Hp} {o : (Int64 × Hp)}  (SH : SHP L hi h) (hf : g_X8_lowest_0 n v0 v2 v4 h = some o) : Run X d 204 0 [some (.long v0), none, some (.long v2), none, some (.int v4), none, none, none, none, none, none] [] h (some (.long o.1), o.2) ∧ SHP L hi o.2 := by
  unfold g_X8_lowest_0 at hf
  refine And.imp_left (rs_lload_n i_X8_lowest_0 rfl) ?_
  refine And.imp_left (rs_lconst i_X8_lowest_1 (v := 0) (by decide)) ?_
  refine And.imp_left (rs_lcmp i_X8_lowest_2) ?_
  by_cases c1 : v0 ≠ 0
  · replace hf := (if_pos c1).symm.trans hf
    refine And.imp_left (rs_ifT i_X8_lowest_3 (by rw [lc_ne]; exact decide_eq_true c1) (tg := 10) (by decide)) ?_
    refine And.imp_left (rs_lload_n i_X8_lowest_10 rfl) ?_
    refine And.imp_left (rs_lstore i_X8_lowest_11 (Nat.le_of_ble_eq_true rfl) (lv' := [some (.long v0), none, some (.long v2), none, some (.int v4), some (.long v0), none, none, none, none, none]) rfl) ?_
    refine And.imp_left (rs_lload_n i_X8_lowest_13 rfl) ?_
    refine And.imp_left (rs_lstore i_X8_lowest_14 (Nat.le_of_ble_eq_true rfl) (lv' := [some (.long v0), none, some (.long v2), none, some (.int v4), some (.long v0), none, some (.long v2), none, none, none]) rfl) ?_
    exact q_X8_lowest_16 hd hh _ _ _ _ _ _ _ _ _ _ SH hf
  · replace hf := (if_neg c1).symm.trans hf
    refine And.imp_left (rs_ifF i_X8_lowest_3 (by rw [lc_ne]; exact decide_eq_false c1)) ?_
    refine And.imp_left (rs_iload i_X8_lowest_6 rfl) ?_
    refine And.imp_left (rs_i2l i_X8_lowest_8) ?_
    have hf := Option.some.inj hf
    subst hf
    exact ⟨rs_lret i_X8_lowest_9 m_X8_lowest rfl, SH⟩
noncomputable def g_X8_lowest (n : Nat) (v0 : Int64) (v2 : Int64) (v4 : Int32) (h : Hp) : Option (Int64 × Hp) := g_X8_lowest_0 n v0 v2 v4 h
theorem k_X8_lowest {X : Nat → Int32} {d : Nat} (hd : 0 ≤ d) {L hi : Nat} (hh : 125 ≤ hi) {n : Nat} {v0 : Int64} {v2 : Int64} {v4 : Int32} {h : Hp} {o : (Int64 × Hp)}  (SH : SHP L hi h) (hf : g_X8_lowest n v0 v2 v4 h = some o) : Calls X d 204 [.long v0, .long v2, .int v4] h (some (.long o.1), o.2) ∧ SHP L hi o.2 := by
  obtain ⟨r, S2⟩ := q_X8_lowest_0 hd hh SH hf
  exact ⟨⟨_, rfl, r⟩, S2⟩
noncomputable def g_X8_power_5 (n : Nat) : Nat → Int64 → Int32 → Int64 → Int32 → Hp → Option (Int64 × Hp)
  | 0, _, _, _, _, _ => none
  | m + 1, v0, v2, v3, v5, h =>
    if v2 ≤ v5 then
      some (v3, h)
    else
      (g_X8_power_5 n m) v0 v2 (v3 * v0) (v5 + 1) h
set_option maxRecDepth 100000 in
set_option maxHeartbeats 4000000 in
theorem q_X8_power_5 {X : Nat → Int32} {d : Nat} (hd : 0 ≤ d) {L hi : Nat} (hh : 125 ≤ hi) {n : Nat} : ∀ (m : Nat) (v0 : Int64) (v2 : Int32) (v3 : Int64) (v5 : Int32) (h : Hp) (o : (Int64 × Hp)), SHP L hi h → g_X8_power_5 n m v0 v2 v3 v5 h = some o → Run X d 205 5 [some (.long v0), none, some (.int v2), some (.long v3), none, some (.int v5)] [] h (some (.long o.1), o.2) ∧ SHP L hi o.2 := by
  intro m
  induction m with
  | zero => intro v0 v2 v3 v5 h o SH hf; cases hf
  | succ m ih =>
    intro v0 v2 v3 v5 h o SH hf
    rw [g_X8_power_5] at hf
    refine And.imp_left (rs_iload i_X8_power_5 rfl) ?_
    refine And.imp_left (rs_iload_n i_X8_power_7 rfl) ?_
    by_cases c1 : v2 ≤ v5
    · replace hf := (if_pos c1).symm.trans hf
      refine And.imp_left (rs_icT i_X8_power_8 (ct_ge c1) (tg := 21) (by decide)) ?_
      refine And.imp_left (rs_lload_n i_X8_power_21 rfl) ?_
      have hf := Option.some.inj hf
      subst hf
      exact ⟨rs_lret i_X8_power_22 m_X8_power rfl, SH⟩
    · replace hf := (if_neg c1).symm.trans hf
      refine And.imp_left (rs_icF i_X8_power_8 (cf_ge c1)) ?_
      refine And.imp_left (rs_lload_n i_X8_power_11 rfl) ?_
      refine And.imp_left (rs_lload_n i_X8_power_12 rfl) ?_
      refine And.imp_left (rs_lmul i_X8_power_13) ?_
      refine And.imp_left (rs_lstore_n i_X8_power_14 (Nat.le_of_ble_eq_true rfl) (lv' := [some (.long v0), none, some (.int v2), some (.long (v3 * v0)), none, some (.int v5)]) rfl) ?_
      refine And.imp_left (rs_iinc i_X8_power_15 rfl (v := v5 + 1) rfl (Nat.le_of_ble_eq_true rfl) (lv' := [some (.long v0), none, some (.int v2), some (.long (v3 * v0)), none, some (.int (v5 + 1))]) rfl) ?_
      refine And.imp_left (rs_goto i_X8_power_18 (tg := 5) (by decide)) ?_
      exact ih _ _ _ _ _ _ SH hf
noncomputable def g_X8_power_0 (n : Nat) (v0 : Int64) (v2 : Int32) (h : Hp) : Option (Int64 × Hp) :=
  g_X8_power_5 n n v0 v2 1 0 h
set_option maxRecDepth 100000 in
set_option maxHeartbeats 4000000 in
theorem q_X8_power_0 {X : Nat → Int32} {d : Nat} (hd : 0 ≤ d) {L hi : Nat} (hh : 125 ≤ hi) {n : Nat} {v0 : Int64} {v2 : Int32} {h : Hp} {o : (Int64 × Hp)}  (SH : SHP L hi h) (hf : g_X8_power_0 n v0 v2 h = some o) : Run X d 205 0 [some (.long v0), none, some (.int v2), none, none, none] [] h (some (.long o.1), o.2) ∧ SHP L hi o.2 := by
  unfold g_X8_power_0 at hf
  refine And.imp_left (rs_lconst i_X8_power_0 (v := 1) (by decide)) ?_
  refine And.imp_left (rs_lstore_n i_X8_power_1 (Nat.le_of_ble_eq_true rfl) (lv' := [some (.long v0), none, some (.int v2), some (.long 1), none, none]) rfl) ?_
  refine And.imp_left (rs_iconst i_X8_power_2 (v := 0) (by decide)) ?_
  refine And.imp_left (rs_istore i_X8_power_3 (Nat.le_of_ble_eq_true rfl) (lv' := [some (.long v0), none, some (.int v2), some (.long 1), none, some (.int 0)]) rfl) ?_
  exact q_X8_power_5 hd hh _ _ _ _ _ _ _ SH hf
noncomputable def g_X8_power (n : Nat) (v0 : Int64) (v2 : Int32) (h : Hp) : Option (Int64 × Hp) := g_X8_power_0 n v0 v2 h
theorem k_X8_power {X : Nat → Int32} {d : Nat} (hd : 0 ≤ d) {L hi : Nat} (hh : 125 ≤ hi) {n : Nat} {v0 : Int64} {v2 : Int32} {h : Hp} {o : (Int64 × Hp)}  (SH : SHP L hi h) (hf : g_X8_power n v0 v2 h = some o) : Calls X d 205 [.long v0, .int v2] h (some (.long o.1), o.2) ∧ SHP L hi o.2 := by
  obtain ⟨r, S2⟩ := q_X8_power_0 hd hh SH hf
  exact ⟨⟨_, rfl, r⟩, S2⟩
noncomputable def g_X8_thin_0 (n : Nat) (v1 : Int32) (v2 : Int32) (v3 : Int32) (h : Hp) : Option (Int64 × Hp) :=
  (g_X8_in v1 1 999999 h).bind fun o1 =>
  if o1.1 = 0 then
    some ((-4611686018427387904), o1.2)
  else
    (g_X8_in v2 0 30 o1.2).bind fun o3 =>
    if o3.1 = 0 then
      some ((-4611686018427387904), o3.2)
    else
      (g_X8_in v3 0 1 o3.2).bind fun o5 =>
      if o5.1 = 0 then
        some ((-4611686018427387904), o5.2)
      else
        (g_X8_power n 2 v2 o5.2).bind fun o7 =>
        (g_X8_lowest n (Int32.toInt64 v1) o7.1 v3 o7.2).bind fun o8 =>
        some (o8.1, o8.2)
set_option maxRecDepth 100000 in
set_option maxHeartbeats 4000000 in
theorem q_X8_thin_0 {X : Nat → Int32} {d : Nat} (hd : 1 ≤ (d + 1)) {L hi : Nat} (hh : 125 ≤ hi) {n : Nat} {v1 : Int32} {v2 : Int32} {v3 : Int32} {h : Hp} {o : (Int64 × Hp)}  (SH : SHP L hi h) (hf : g_X8_thin_0 n v1 v2 v3 h = some o) : Run X (d + 1) 206 0 [some (.ref 96), some (.int v1), some (.int v2), some (.int v3)] [] h (some (.long o.1), o.2) ∧ SHP L hi o.2 := by
  unfold g_X8_thin_0 at hf
  refine And.imp_left (rs_iload_n i_X8_thin_0 rfl) ?_
  refine And.imp_left (rs_iconst i_X8_thin_1 (v := 1) (by decide)) ?_
  refine And.imp_left (rs_ldcw i_X8_thin_2 (v := 999999) (by decide)) ?_
  obtain ⟨o1, e1, hf⟩ := bind_some hf
  obtain ⟨u1, SH2⟩ := k_X8_in (X := X) (d := d) (by omega) (by omega) SH e1
  refine And.imp_left (rs_inS i_X8_thin_5 (by decide) m_X8_in rfl (As := [.int v1, .int 1, .int 999999]) (rest := []) rfl rfl (Nat.le_of_ble_eq_true rfl) u1 (st' := [.int o1.1]) rfl) ?_
  clear SH; have SH := SH2; clear SH2
  by_cases c2 : o1.1 = 0
  · replace hf := (if_pos c2).symm.trans hf
    refine And.imp_left (rs_ifT i_X8_thin_8 (ct_eq c2) (tg := 46) (by decide)) ?_
    refine And.imp_left (rs_ldc2 i_X8_thin_46 (v := (-4611686018427387904)) (by decide)) ?_
    have hf := Option.some.inj hf
    subst hf
    exact ⟨rs_lret i_X8_thin_49 m_X8_thin rfl, SH⟩
  · replace hf := (if_neg c2).symm.trans hf
    refine And.imp_left (rs_ifF i_X8_thin_8 (cf_eq c2)) ?_
    refine And.imp_left (rs_iload_n i_X8_thin_11 rfl) ?_
    refine And.imp_left (rs_iconst i_X8_thin_12 (v := 0) (by decide)) ?_
    refine And.imp_left (rs_bipush i_X8_thin_13 (v := 30) (by decide)) ?_
    obtain ⟨o3, e3, hf⟩ := bind_some hf
    obtain ⟨u3, SH2⟩ := k_X8_in (X := X) (d := d) (by omega) (by omega) SH e3
    refine And.imp_left (rs_inS i_X8_thin_15 (by decide) m_X8_in rfl (As := [.int v2, .int 0, .int 30]) (rest := []) rfl rfl (Nat.le_of_ble_eq_true rfl) u3 (st' := [.int o3.1]) rfl) ?_
    clear SH; have SH := SH2; clear SH2
    by_cases c4 : o3.1 = 0
    · replace hf := (if_pos c4).symm.trans hf
      refine And.imp_left (rs_ifT i_X8_thin_18 (ct_eq c4) (tg := 46) (by decide)) ?_
      refine And.imp_left (rs_ldc2 i_X8_thin_46 (v := (-4611686018427387904)) (by decide)) ?_
      have hf := Option.some.inj hf
      subst hf
      exact ⟨rs_lret i_X8_thin_49 m_X8_thin rfl, SH⟩
    · replace hf := (if_neg c4).symm.trans hf
      refine And.imp_left (rs_ifF i_X8_thin_18 (cf_eq c4)) ?_
      refine And.imp_left (rs_iload_n i_X8_thin_21 rfl) ?_
      refine And.imp_left (rs_iconst i_X8_thin_22 (v := 0) (by decide)) ?_
      refine And.imp_left (rs_iconst i_X8_thin_23 (v := 1) (by decide)) ?_
      obtain ⟨o5, e5, hf⟩ := bind_some hf
      obtain ⟨u5, SH2⟩ := k_X8_in (X := X) (d := d) (by omega) (by omega) SH e5
      refine And.imp_left (rs_inS i_X8_thin_24 (by decide) m_X8_in rfl (As := [.int v3, .int 0, .int 1]) (rest := []) rfl rfl (Nat.le_of_ble_eq_true rfl) u5 (st' := [.int o5.1]) rfl) ?_
      clear SH; have SH := SH2; clear SH2
      by_cases c6 : o5.1 = 0
      · replace hf := (if_pos c6).symm.trans hf
        refine And.imp_left (rs_ifT i_X8_thin_27 (ct_eq c6) (tg := 46) (by decide)) ?_
        refine And.imp_left (rs_ldc2 i_X8_thin_46 (v := (-4611686018427387904)) (by decide)) ?_
        have hf := Option.some.inj hf
        subst hf
        exact ⟨rs_lret i_X8_thin_49 m_X8_thin rfl, SH⟩
      · replace hf := (if_neg c6).symm.trans hf
        refine And.imp_left (rs_ifF i_X8_thin_27 (cf_eq c6)) ?_
        refine And.imp_left (rs_iload_n i_X8_thin_30 rfl) ?_
        refine And.imp_left (rs_i2l i_X8_thin_31) ?_
        refine And.imp_left (rs_ldc2 i_X8_thin_32 (v := 2) (by decide)) ?_
        refine And.imp_left (rs_iload_n i_X8_thin_35 rfl) ?_
        obtain ⟨o7, e7, hf⟩ := bind_some hf
        obtain ⟨u7, SH2⟩ := k_X8_power (X := X) (d := d) (by omega) (by omega) SH e7
        refine And.imp_left (rs_inS i_X8_thin_36 (by decide) m_X8_power rfl (As := [.long 2, .int v2]) (rest := [.long (Int32.toInt64 v1)]) rfl rfl (Nat.le_of_ble_eq_true rfl) u7 (st' := [.long o7.1, .long (Int32.toInt64 v1)]) rfl) ?_
        clear SH; have SH := SH2; clear SH2
        refine And.imp_left (rs_iload_n i_X8_thin_39 rfl) ?_
        obtain ⟨o8, e8, hf⟩ := bind_some hf
        obtain ⟨u8, SH2⟩ := k_X8_lowest (X := X) (d := d) (by omega) (by omega) SH e8
        refine And.imp_left (rs_inS i_X8_thin_40 (by decide) m_X8_lowest rfl (As := [.long (Int32.toInt64 v1), .long o7.1, .int v3]) (rest := []) rfl rfl (Nat.le_of_ble_eq_true rfl) u8 (st' := [.long o8.1]) rfl) ?_
        clear SH; have SH := SH2; clear SH2
        refine And.imp_left (rs_goto i_X8_thin_43 (tg := 49) (by decide)) ?_
        have hf := Option.some.inj hf
        subst hf
        exact ⟨rs_lret i_X8_thin_49 m_X8_thin rfl, SH⟩
noncomputable def g_X8_thin (n : Nat) (v1 : Int32) (v2 : Int32) (v3 : Int32) (h : Hp) : Option (Int64 × Hp) := g_X8_thin_0 n v1 v2 v3 h
theorem k_X8_thin {X : Nat → Int32} {d : Nat} (hd : 1 ≤ d) {L hi : Nat} (hh : 125 ≤ hi) {n : Nat} {v1 : Int32} {v2 : Int32} {v3 : Int32} {h : Hp} {o : (Int64 × Hp)}  (SH : SHP L hi h) (hf : g_X8_thin n v1 v2 v3 h = some o) : Calls X d 206 [.ref 96, .int v1, .int v2, .int v3] h (some (.long o.1), o.2) ∧ SHP L hi o.2 := by
  obtain ⟨d, rfl⟩ : ∃ z, d = z + 1 := ⟨d - 1, by omega⟩
  obtain ⟨r, S2⟩ := q_X8_thin_0 hd hh SH hf
  exact ⟨⟨_, rfl, r⟩, S2⟩
noncomputable def g_X8_areOdds_0 (v0 : Int32) (v1 : Int32) (h : Hp) : Option (Int32 × Hp) :=
  (g_X8_in v1 1 30 h).bind fun o1 =>
  if o1.1 = 0 then
    some (0, o1.2)
  else
    (g_X8_in v0 0 v1 o1.2).bind fun o3 =>
    if o3.1 = 0 then
      some (0, o3.2)
    else
      some (1, o3.2)
set_option maxRecDepth 100000 in
set_option maxHeartbeats 4000000 in
theorem q_X8_areOdds_0 {X : Nat → Int32} {d : Nat} (hd : 1 ≤ (d + 1)) {L hi : Nat} (hh : 125 ≤ hi) {v0 : Int32} {v1 : Int32} {h : Hp} {o : (Int32 × Hp)}  (SH : SHP L hi h) (hf : g_X8_areOdds_0 v0 v1 h = some o) : Run X (d + 1) 207 0 [some (.int v0), some (.int v1)] [] h (some (.int o.1), o.2) ∧ SHP L hi o.2 := by
  unfold g_X8_areOdds_0 at hf
  refine And.imp_left (rs_iload_n i_X8_areOdds_0 rfl) ?_
  refine And.imp_left (rs_iconst i_X8_areOdds_1 (v := 1) (by decide)) ?_
  refine And.imp_left (rs_bipush i_X8_areOdds_2 (v := 30) (by decide)) ?_
  obtain ⟨o1, e1, hf⟩ := bind_some hf
  obtain ⟨u1, SH2⟩ := k_X8_in (X := X) (d := d) (by omega) (by omega) SH e1
  refine And.imp_left (rs_inS i_X8_areOdds_4 (by decide) m_X8_in rfl (As := [.int v1, .int 1, .int 30]) (rest := []) rfl rfl (Nat.le_of_ble_eq_true rfl) u1 (st' := [.int o1.1]) rfl) ?_
  clear SH; have SH := SH2; clear SH2
  by_cases c2 : o1.1 = 0
  · replace hf := (if_pos c2).symm.trans hf
    refine And.imp_left (rs_ifT i_X8_areOdds_7 (ct_eq c2) (tg := 23) (by decide)) ?_
    refine And.imp_left (rs_iconst i_X8_areOdds_23 (v := 0) (by decide)) ?_
    have hf := Option.some.inj hf
    subst hf
    exact ⟨rs_iret i_X8_areOdds_24 m_X8_areOdds (by decide), SH⟩
  · replace hf := (if_neg c2).symm.trans hf
    refine And.imp_left (rs_ifF i_X8_areOdds_7 (cf_eq c2)) ?_
    refine And.imp_left (rs_iload_n i_X8_areOdds_10 rfl) ?_
    refine And.imp_left (rs_iconst i_X8_areOdds_11 (v := 0) (by decide)) ?_
    refine And.imp_left (rs_iload_n i_X8_areOdds_12 rfl) ?_
    obtain ⟨o3, e3, hf⟩ := bind_some hf
    obtain ⟨u3, SH2⟩ := k_X8_in (X := X) (d := d) (by omega) (by omega) SH e3
    refine And.imp_left (rs_inS i_X8_areOdds_13 (by decide) m_X8_in rfl (As := [.int v0, .int 0, .int v1]) (rest := []) rfl rfl (Nat.le_of_ble_eq_true rfl) u3 (st' := [.int o3.1]) rfl) ?_
    clear SH; have SH := SH2; clear SH2
    by_cases c4 : o3.1 = 0
    · replace hf := (if_pos c4).symm.trans hf
      refine And.imp_left (rs_ifT i_X8_areOdds_16 (ct_eq c4) (tg := 23) (by decide)) ?_
      refine And.imp_left (rs_iconst i_X8_areOdds_23 (v := 0) (by decide)) ?_
      have hf := Option.some.inj hf
      subst hf
      exact ⟨rs_iret i_X8_areOdds_24 m_X8_areOdds (by decide), SH⟩
    · replace hf := (if_neg c4).symm.trans hf
      refine And.imp_left (rs_ifF i_X8_areOdds_16 (cf_eq c4)) ?_
      refine And.imp_left (rs_iconst i_X8_areOdds_19 (v := 1) (by decide)) ?_
      refine And.imp_left (rs_goto i_X8_areOdds_20 (tg := 24) (by decide)) ?_
      have hf := Option.some.inj hf
      subst hf
      exact ⟨rs_iret i_X8_areOdds_24 m_X8_areOdds (by decide), SH⟩
noncomputable def g_X8_areOdds (v0 : Int32) (v1 : Int32) (h : Hp) : Option (Int32 × Hp) := g_X8_areOdds_0 v0 v1 h
theorem k_X8_areOdds {X : Nat → Int32} {d : Nat} (hd : 1 ≤ d) {L hi : Nat} (hh : 125 ≤ hi) {v0 : Int32} {v1 : Int32} {h : Hp} {o : (Int32 × Hp)}  (SH : SHP L hi h) (hf : g_X8_areOdds v0 v1 h = some o) : Calls X d 207 [.int v0, .int v1] h (some (.int o.1), o.2) ∧ SHP L hi o.2 := by
  obtain ⟨d, rfl⟩ : ∃ z, d = z + 1 := ⟨d - 1, by omega⟩
  obtain ⟨r, S2⟩ := q_X8_areOdds_0 hd hh SH hf
  exact ⟨⟨_, rfl, r⟩, S2⟩
noncomputable def g_X8_odds_0 (n : Nat) (v1 : Int32) (v2 : Int32) (v3 : Int32) (v4 : Int32) (h : Hp) : Option (Int64 × Hp) :=
  (g_X8_areOdds v1 v2 h).bind fun o1 =>
  if o1.1 = 0 then
    some ((-4611686018427387904), o1.2)
  else
    (g_X8_in v3 0 10 o1.2).bind fun o3 =>
    if o3.1 = 0 then
      some ((-4611686018427387904), o3.2)
    else
      (g_X8_in v4 0 1 o3.2).bind fun o5 =>
      if o5.1 = 0 then
        some ((-4611686018427387904), o5.2)
      else
        (g_X8_power n (Int32.toInt64 (v2 - v1)) v3 o5.2).bind fun o7 =>
        (g_X8_power n (Int32.toInt64 v2) v3 o7.2).bind fun o8 =>
        (g_X8_lowest n o7.1 o8.1 v4 o8.2).bind fun o9 =>
        some (o9.1, o9.2)
set_option maxRecDepth 100000 in
set_option maxHeartbeats 4000000 in
theorem q_X8_odds_0 {X : Nat → Int32} {d : Nat} (hd : 2 ≤ (d + 1)) {L hi : Nat} (hh : 125 ≤ hi) {n : Nat} {v1 : Int32} {v2 : Int32} {v3 : Int32} {v4 : Int32} {h : Hp} {o : (Int64 × Hp)}  (SH : SHP L hi h) (hf : g_X8_odds_0 n v1 v2 v3 v4 h = some o) : Run X (d + 1) 208 0 [some (.ref 96), some (.int v1), some (.int v2), some (.int v3), some (.int v4)] [] h (some (.long o.1), o.2) ∧ SHP L hi o.2 := by
  unfold g_X8_odds_0 at hf
  refine And.imp_left (rs_iload_n i_X8_odds_0 rfl) ?_
  refine And.imp_left (rs_iload_n i_X8_odds_1 rfl) ?_
  obtain ⟨o1, e1, hf⟩ := bind_some hf
  obtain ⟨u1, SH2⟩ := k_X8_areOdds (X := X) (d := d) (by omega) (by omega) SH e1
  refine And.imp_left (rs_inS i_X8_odds_2 (by decide) m_X8_areOdds rfl (As := [.int v1, .int v2]) (rest := []) rfl rfl (Nat.le_of_ble_eq_true rfl) u1 (st' := [.int o1.1]) rfl) ?_
  clear SH; have SH := SH2; clear SH2
  by_cases c2 : o1.1 = 0
  · replace hf := (if_pos c2).symm.trans hf
    refine And.imp_left (rs_ifT i_X8_odds_5 (ct_eq c2) (tg := 50) (by decide)) ?_
    refine And.imp_left (rs_ldc2 i_X8_odds_50 (v := (-4611686018427387904)) (by decide)) ?_
    have hf := Option.some.inj hf
    subst hf
    exact ⟨rs_lret i_X8_odds_53 m_X8_odds rfl, SH⟩
  · replace hf := (if_neg c2).symm.trans hf
    refine And.imp_left (rs_ifF i_X8_odds_5 (cf_eq c2)) ?_
    refine And.imp_left (rs_iload_n i_X8_odds_8 rfl) ?_
    refine And.imp_left (rs_iconst i_X8_odds_9 (v := 0) (by decide)) ?_
    refine And.imp_left (rs_bipush i_X8_odds_10 (v := 10) (by decide)) ?_
    obtain ⟨o3, e3, hf⟩ := bind_some hf
    obtain ⟨u3, SH2⟩ := k_X8_in (X := X) (d := d) (by omega) (by omega) SH e3
    refine And.imp_left (rs_inS i_X8_odds_12 (by decide) m_X8_in rfl (As := [.int v3, .int 0, .int 10]) (rest := []) rfl rfl (Nat.le_of_ble_eq_true rfl) u3 (st' := [.int o3.1]) rfl) ?_
    clear SH; have SH := SH2; clear SH2
    by_cases c4 : o3.1 = 0
    · replace hf := (if_pos c4).symm.trans hf
      refine And.imp_left (rs_ifT i_X8_odds_15 (ct_eq c4) (tg := 50) (by decide)) ?_
      refine And.imp_left (rs_ldc2 i_X8_odds_50 (v := (-4611686018427387904)) (by decide)) ?_
      have hf := Option.some.inj hf
      subst hf
      exact ⟨rs_lret i_X8_odds_53 m_X8_odds rfl, SH⟩
    · replace hf := (if_neg c4).symm.trans hf
      refine And.imp_left (rs_ifF i_X8_odds_15 (cf_eq c4)) ?_
      refine And.imp_left (rs_iload i_X8_odds_18 rfl) ?_
      refine And.imp_left (rs_iconst i_X8_odds_20 (v := 0) (by decide)) ?_
      refine And.imp_left (rs_iconst i_X8_odds_21 (v := 1) (by decide)) ?_
      obtain ⟨o5, e5, hf⟩ := bind_some hf
      obtain ⟨u5, SH2⟩ := k_X8_in (X := X) (d := d) (by omega) (by omega) SH e5
      refine And.imp_left (rs_inS i_X8_odds_22 (by decide) m_X8_in rfl (As := [.int v4, .int 0, .int 1]) (rest := []) rfl rfl (Nat.le_of_ble_eq_true rfl) u5 (st' := [.int o5.1]) rfl) ?_
      clear SH; have SH := SH2; clear SH2
      by_cases c6 : o5.1 = 0
      · replace hf := (if_pos c6).symm.trans hf
        refine And.imp_left (rs_ifT i_X8_odds_25 (ct_eq c6) (tg := 50) (by decide)) ?_
        refine And.imp_left (rs_ldc2 i_X8_odds_50 (v := (-4611686018427387904)) (by decide)) ?_
        have hf := Option.some.inj hf
        subst hf
        exact ⟨rs_lret i_X8_odds_53 m_X8_odds rfl, SH⟩
      · replace hf := (if_neg c6).symm.trans hf
        refine And.imp_left (rs_ifF i_X8_odds_25 (cf_eq c6)) ?_
        refine And.imp_left (rs_iload_n i_X8_odds_28 rfl) ?_
        refine And.imp_left (rs_iload_n i_X8_odds_29 rfl) ?_
        refine And.imp_left (rs_isub i_X8_odds_30) ?_
        refine And.imp_left (rs_i2l i_X8_odds_31) ?_
        refine And.imp_left (rs_iload_n i_X8_odds_32 rfl) ?_
        obtain ⟨o7, e7, hf⟩ := bind_some hf
        obtain ⟨u7, SH2⟩ := k_X8_power (X := X) (d := d) (by omega) (by omega) SH e7
        refine And.imp_left (rs_inS i_X8_odds_33 (by decide) m_X8_power rfl (As := [.long (Int32.toInt64 (v2 - v1)), .int v3]) (rest := []) rfl rfl (Nat.le_of_ble_eq_true rfl) u7 (st' := [.long o7.1]) rfl) ?_
        clear SH; have SH := SH2; clear SH2
        refine And.imp_left (rs_iload_n i_X8_odds_36 rfl) ?_
        refine And.imp_left (rs_i2l i_X8_odds_37) ?_
        refine And.imp_left (rs_iload_n i_X8_odds_38 rfl) ?_
        obtain ⟨o8, e8, hf⟩ := bind_some hf
        obtain ⟨u8, SH2⟩ := k_X8_power (X := X) (d := d) (by omega) (by omega) SH e8
        refine And.imp_left (rs_inS i_X8_odds_39 (by decide) m_X8_power rfl (As := [.long (Int32.toInt64 v2), .int v3]) (rest := [.long o7.1]) rfl rfl (Nat.le_of_ble_eq_true rfl) u8 (st' := [.long o8.1, .long o7.1]) rfl) ?_
        clear SH; have SH := SH2; clear SH2
        refine And.imp_left (rs_iload i_X8_odds_42 rfl) ?_
        obtain ⟨o9, e9, hf⟩ := bind_some hf
        obtain ⟨u9, SH2⟩ := k_X8_lowest (X := X) (d := d) (by omega) (by omega) SH e9
        refine And.imp_left (rs_inS i_X8_odds_44 (by decide) m_X8_lowest rfl (As := [.long o7.1, .long o8.1, .int v4]) (rest := []) rfl rfl (Nat.le_of_ble_eq_true rfl) u9 (st' := [.long o9.1]) rfl) ?_
        clear SH; have SH := SH2; clear SH2
        refine And.imp_left (rs_goto i_X8_odds_47 (tg := 53) (by decide)) ?_
        have hf := Option.some.inj hf
        subst hf
        exact ⟨rs_lret i_X8_odds_53 m_X8_odds rfl, SH⟩
noncomputable def g_X8_odds (n : Nat) (v1 : Int32) (v2 : Int32) (v3 : Int32) (v4 : Int32) (h : Hp) : Option (Int64 × Hp) := g_X8_odds_0 n v1 v2 v3 v4 h
theorem k_X8_odds {X : Nat → Int32} {d : Nat} (hd : 2 ≤ d) {L hi : Nat} (hh : 125 ≤ hi) {n : Nat} {v1 : Int32} {v2 : Int32} {v3 : Int32} {v4 : Int32} {h : Hp} {o : (Int64 × Hp)}  (SH : SHP L hi h) (hf : g_X8_odds n v1 v2 v3 v4 h = some o) : Calls X d 208 [.ref 96, .int v1, .int v2, .int v3, .int v4] h (some (.long o.1), o.2) ∧ SHP L hi o.2 := by
  obtain ⟨d, rfl⟩ : ∃ z, d = z + 1 := ⟨d - 1, by omega⟩
  obtain ⟨r, S2⟩ := q_X8_odds_0 hd hh SH hf
  exact ⟨⟨_, rfl, r⟩, S2⟩
noncomputable def g_X8_record_68 (n : Nat) (K27 : Int32 → Int32 → Int32 → Int32 → Int32 → Hp → Option (Int32 × Hp)) (v1 : Int32) (v2 : Int32) (v3 : Int32) (v5 : Int32) (s0 : Int32) (h : Hp) : Option (Int32 × Hp) :=
  K27 v1 v2 v3 s0 (v5 + 1) h
set_option maxRecDepth 100000 in
set_option maxHeartbeats 4000000 in
theorem q_X8_record_68 {X : Nat → Int32} {d : Nat} (hd : 2 ≤ (d + 1)) {L hi : Nat} (hh : 125 ≤ hi) {n : Nat} {K27 : Int32 → Int32 → Int32 → Int32 → Int32 → Hp → Option (Int32 × Hp)} (HK27 : ∀ (v1 : Int32) (v2 : Int32) (v3 : Int32) (v4 : Int32) (v5 : Int32) (h : Hp) (o : (Int32 × Hp)), SHP L hi h → K27 v1 v2 v3 v4 v5 h = some o → Run X (d + 1) 209 27 [some (.ref 96), some (.int v1), some (.int v2), some (.int v3), some (.int v4), some (.int v5)] [] h (some (.int o.1), o.2) ∧ SHP L hi o.2) {v1 : Int32} {v2 : Int32} {v3 : Int32} {v5 : Int32} {s0 : Int32} {d4 : Int32} {h : Hp} {o : (Int32 × Hp)}  (SH : SHP L hi h) (hf : g_X8_record_68 n K27 v1 v2 v3 v5 s0 h = some o) : Run X (d + 1) 209 68 [some (.ref 96), some (.int v1), some (.int v2), some (.int v3), some (.int d4), some (.int v5)] [.int s0] h (some (.int o.1), o.2) ∧ SHP L hi o.2 := by
  unfold g_X8_record_68 at hf
  refine And.imp_left (rs_istore i_X8_record_68 (Nat.le_of_ble_eq_true rfl) (lv' := [some (.ref 96), some (.int v1), some (.int v2), some (.int v3), some (.int s0), some (.int v5)]) rfl) ?_
  refine And.imp_left (rs_iinc i_X8_record_70 rfl (v := v5 + 1) rfl (Nat.le_of_ble_eq_true rfl) (lv' := [some (.ref 96), some (.int v1), some (.int v2), some (.int v3), some (.int s0), some (.int (v5 + 1))]) rfl) ?_
  refine And.imp_left (rs_goto i_X8_record_73 (tg := 27) (by decide)) ?_
  exact HK27 _ _ _ _ _ _ _ SH hf
noncomputable def g_X8_record_27 (n : Nat) : Nat → Int32 → Int32 → Int32 → Int32 → Int32 → Hp → Option (Int32 × Hp)
  | 0, _, _, _, _, _, _ => none
  | m + 1, v1, v2, v3, v4, v5, h =>
    if 10 < v5 then
      some (v4, h)
    else
      (g_X8_power n (Int32.toInt64 (v2 - v1)) v5 h).bind fun o2 =>
      (g_X8_power n (Int32.toInt64 v2) v5 o2.2).bind fun o3 =>
      if (o2.1 * 100) < ((Int32.toInt64 v3) * o3.1) then
        g_X8_record_68 n (g_X8_record_27 n m) v1 v2 v3 v5 v4 o3.2
      else
        g_X8_record_68 n (g_X8_record_27 n m) v1 v2 v3 v5 v5 o3.2
set_option maxRecDepth 100000 in
set_option maxHeartbeats 4000000 in
theorem q_X8_record_27 {X : Nat → Int32} {d : Nat} (hd : 2 ≤ (d + 1)) {L hi : Nat} (hh : 125 ≤ hi) {n : Nat} : ∀ (m : Nat) (v1 : Int32) (v2 : Int32) (v3 : Int32) (v4 : Int32) (v5 : Int32) (h : Hp) (o : (Int32 × Hp)), SHP L hi h → g_X8_record_27 n m v1 v2 v3 v4 v5 h = some o → Run X (d + 1) 209 27 [some (.ref 96), some (.int v1), some (.int v2), some (.int v3), some (.int v4), some (.int v5)] [] h (some (.int o.1), o.2) ∧ SHP L hi o.2 := by
  intro m
  induction m with
  | zero => intro v1 v2 v3 v4 v5 h o SH hf; cases hf
  | succ m ih =>
    intro v1 v2 v3 v4 v5 h o SH hf
    rw [g_X8_record_27] at hf
    refine And.imp_left (rs_iload i_X8_record_27 rfl) ?_
    refine And.imp_left (rs_bipush i_X8_record_29 (v := 10) (by decide)) ?_
    by_cases c1 : 10 < v5
    · replace hf := (if_pos c1).symm.trans hf
      refine And.imp_left (rs_icT i_X8_record_31 (ct_gt c1) (tg := 76) (by decide)) ?_
      refine And.imp_left (rs_iload i_X8_record_76 rfl) ?_
      have hf := Option.some.inj hf
      subst hf
      exact ⟨rs_iret i_X8_record_78 m_X8_record rfl, SH⟩
    · replace hf := (if_neg c1).symm.trans hf
      refine And.imp_left (rs_icF i_X8_record_31 (cf_gt c1)) ?_
      refine And.imp_left (rs_iload_n i_X8_record_34 rfl) ?_
      refine And.imp_left (rs_iload_n i_X8_record_35 rfl) ?_
      refine And.imp_left (rs_isub i_X8_record_36) ?_
      refine And.imp_left (rs_i2l i_X8_record_37) ?_
      refine And.imp_left (rs_iload i_X8_record_38 rfl) ?_
      obtain ⟨o2, e2, hf⟩ := bind_some hf
      obtain ⟨u2, SH2⟩ := k_X8_power (X := X) (d := d) (by omega) (by omega) SH e2
      refine And.imp_left (rs_inS i_X8_record_40 (by decide) m_X8_power rfl (As := [.long (Int32.toInt64 (v2 - v1)), .int v5]) (rest := []) rfl rfl (Nat.le_of_ble_eq_true rfl) u2 (st' := [.long o2.1]) rfl) ?_
      clear SH; have SH := SH2; clear SH2
      refine And.imp_left (rs_ldc2 i_X8_record_43 (v := 100) (by decide)) ?_
      refine And.imp_left (rs_lmul i_X8_record_46) ?_
      refine And.imp_left (rs_iload_n i_X8_record_47 rfl) ?_
      refine And.imp_left (rs_i2l i_X8_record_48) ?_
      refine And.imp_left (rs_iload_n i_X8_record_49 rfl) ?_
      refine And.imp_left (rs_i2l i_X8_record_50) ?_
      refine And.imp_left (rs_iload i_X8_record_51 rfl) ?_
      obtain ⟨o3, e3, hf⟩ := bind_some hf
      obtain ⟨u3, SH2⟩ := k_X8_power (X := X) (d := d) (by omega) (by omega) SH e3
      refine And.imp_left (rs_inS i_X8_record_53 (by decide) m_X8_power rfl (As := [.long (Int32.toInt64 v2), .int v5]) (rest := [.long (Int32.toInt64 v3), .long (o2.1 * 100)]) rfl rfl (Nat.le_of_ble_eq_true rfl) u3 (st' := [.long o3.1, .long (Int32.toInt64 v3), .long (o2.1 * 100)]) rfl) ?_
      clear SH; have SH := SH2; clear SH2
      refine And.imp_left (rs_lmul i_X8_record_56) ?_
      refine And.imp_left (rs_lcmp i_X8_record_57) ?_
      by_cases c4 : (o2.1 * 100) < ((Int32.toInt64 v3) * o3.1)
      · replace hf := (if_pos c4).symm.trans hf
        refine And.imp_left (rs_ifT i_X8_record_58 (by rw [lc_lt]; exact decide_eq_true c4) (tg := 66) (by decide)) ?_
        refine And.imp_left (rs_iload i_X8_record_66 rfl) ?_
        exact q_X8_record_68 hd hh ih SH hf
      · replace hf := (if_neg c4).symm.trans hf
        refine And.imp_left (rs_ifF i_X8_record_58 (by rw [lc_lt]; exact decide_eq_false c4)) ?_
        refine And.imp_left (rs_iload i_X8_record_61 rfl) ?_
        refine And.imp_left (rs_goto i_X8_record_63 (tg := 68) (by decide)) ?_
        exact q_X8_record_68 hd hh ih SH hf
noncomputable def g_X8_record_0 (n : Nat) (v1 : Int32) (v2 : Int32) (v3 : Int32) (h : Hp) : Option (Int32 × Hp) :=
  (g_X8_areOdds v1 v2 h).bind fun o1 =>
  if o1.1 = 0 then
    some ((-2), o1.2)
  else
    (g_X8_in v3 0 100 o1.2).bind fun o3 =>
    if o3.1 ≠ 0 then
      g_X8_record_27 n n v1 v2 v3 0 1 o3.2
    else
      some ((-2), o3.2)
set_option maxRecDepth 100000 in
set_option maxHeartbeats 4000000 in
theorem q_X8_record_0 {X : Nat → Int32} {d : Nat} (hd : 2 ≤ (d + 1)) {L hi : Nat} (hh : 125 ≤ hi) {n : Nat} {v1 : Int32} {v2 : Int32} {v3 : Int32} {h : Hp} {o : (Int32 × Hp)}  (SH : SHP L hi h) (hf : g_X8_record_0 n v1 v2 v3 h = some o) : Run X (d + 1) 209 0 [some (.ref 96), some (.int v1), some (.int v2), some (.int v3), none, none] [] h (some (.int o.1), o.2) ∧ SHP L hi o.2 := by
  unfold g_X8_record_0 at hf
  refine And.imp_left (rs_iload_n i_X8_record_0 rfl) ?_
  refine And.imp_left (rs_iload_n i_X8_record_1 rfl) ?_
  obtain ⟨o1, e1, hf⟩ := bind_some hf
  obtain ⟨u1, SH2⟩ := k_X8_areOdds (X := X) (d := d) (by omega) (by omega) SH e1
  refine And.imp_left (rs_inS i_X8_record_2 (by decide) m_X8_areOdds rfl (As := [.int v1, .int v2]) (rest := []) rfl rfl (Nat.le_of_ble_eq_true rfl) u1 (st' := [.int o1.1]) rfl) ?_
  clear SH; have SH := SH2; clear SH2
  by_cases c2 : o1.1 = 0
  · replace hf := (if_pos c2).symm.trans hf
    refine And.imp_left (rs_ifT i_X8_record_5 (ct_eq c2) (tg := 18) (by decide)) ?_
    refine And.imp_left (rs_bipush i_X8_record_18 (v := (-2)) (by decide)) ?_
    have hf := Option.some.inj hf
    subst hf
    exact ⟨rs_iret i_X8_record_20 m_X8_record rfl, SH⟩
  · replace hf := (if_neg c2).symm.trans hf
    refine And.imp_left (rs_ifF i_X8_record_5 (cf_eq c2)) ?_
    refine And.imp_left (rs_iload_n i_X8_record_8 rfl) ?_
    refine And.imp_left (rs_iconst i_X8_record_9 (v := 0) (by decide)) ?_
    refine And.imp_left (rs_bipush i_X8_record_10 (v := 100) (by decide)) ?_
    obtain ⟨o3, e3, hf⟩ := bind_some hf
    obtain ⟨u3, SH2⟩ := k_X8_in (X := X) (d := d) (by omega) (by omega) SH e3
    refine And.imp_left (rs_inS i_X8_record_12 (by decide) m_X8_in rfl (As := [.int v3, .int 0, .int 100]) (rest := []) rfl rfl (Nat.le_of_ble_eq_true rfl) u3 (st' := [.int o3.1]) rfl) ?_
    clear SH; have SH := SH2; clear SH2
    by_cases c4 : o3.1 ≠ 0
    · replace hf := (if_pos c4).symm.trans hf
      refine And.imp_left (rs_ifT i_X8_record_15 (ct_ne c4) (tg := 21) (by decide)) ?_
      refine And.imp_left (rs_iconst i_X8_record_21 (v := 0) (by decide)) ?_
      refine And.imp_left (rs_istore i_X8_record_22 (Nat.le_of_ble_eq_true rfl) (lv' := [some (.ref 96), some (.int v1), some (.int v2), some (.int v3), some (.int 0), none]) rfl) ?_
      refine And.imp_left (rs_iconst i_X8_record_24 (v := 1) (by decide)) ?_
      refine And.imp_left (rs_istore i_X8_record_25 (Nat.le_of_ble_eq_true rfl) (lv' := [some (.ref 96), some (.int v1), some (.int v2), some (.int v3), some (.int 0), some (.int 1)]) rfl) ?_
      exact q_X8_record_27 hd hh _ _ _ _ _ _ _ _ SH hf
    · replace hf := (if_neg c4).symm.trans hf
      refine And.imp_left (rs_ifF i_X8_record_15 (cf_ne c4)) ?_
      refine And.imp_left (rs_bipush i_X8_record_18 (v := (-2)) (by decide)) ?_
      have hf := Option.some.inj hf
      subst hf
      exact ⟨rs_iret i_X8_record_20 m_X8_record rfl, SH⟩
noncomputable def g_X8_record (n : Nat) (v1 : Int32) (v2 : Int32) (v3 : Int32) (h : Hp) : Option (Int32 × Hp) := g_X8_record_0 n v1 v2 v3 h
theorem k_X8_record {X : Nat → Int32} {d : Nat} (hd : 2 ≤ d) {L hi : Nat} (hh : 125 ≤ hi) {n : Nat} {v1 : Int32} {v2 : Int32} {v3 : Int32} {h : Hp} {o : (Int32 × Hp)}  (SH : SHP L hi h) (hf : g_X8_record n v1 v2 v3 h = some o) : Calls X d 209 [.ref 96, .int v1, .int v2, .int v3] h (some (.int o.1), o.2) ∧ SHP L hi o.2 := by
  obtain ⟨d, rfl⟩ : ∃ z, d = z + 1 := ⟨d - 1, by omega⟩
  obtain ⟨r, S2⟩ := q_X8_record_0 hd hh SH hf
  exact ⟨⟨_, rfl, r⟩, S2⟩
noncomputable def g_X8_drawn_64 (n : Nat) (v2 : Int32) (v4 : Int32) (h : Hp) : Option (Int32 × Hp) :=
  if v4 ≠ 0 then
    (g_X8_spread n h).bind fun o2 =>
    some (o2.1, o2.2)
  else
    (g_X8_thickOf v2 h).bind fun o3 =>
    some (o3.1, o3.2)
set_option maxRecDepth 100000 in
set_option maxHeartbeats 4000000 in
theorem q_X8_drawn_64 {X : Nat → Int32} {d : Nat} (hd : 7 ≤ (d + 1)) {L hi : Nat} (hh : 125 ≤ hi) {n : Nat} {v2 : Int32} {v4 : Int32} {d1 : Int32} {d3 : Int32} {h : Hp} {o : (Int32 × Hp)}  (SH : SHP L hi h) (hf : g_X8_drawn_64 n v2 v4 h = some o) : Run X (d + 1) 210 64 [some (.ref 96), some (.int d1), some (.int v2), some (.int d3), some (.int v4)] [] h (some (.int o.1), o.2) ∧ SHP L hi o.2 := by
  unfold g_X8_drawn_64 at hf
  refine And.imp_left (rs_iload i_X8_drawn_64 rfl) ?_
  by_cases c1 : v4 ≠ 0
  · replace hf := (if_pos c1).symm.trans hf
    refine And.imp_left (rs_ifT i_X8_drawn_66 (ct_ne c1) (tg := 77) (by decide)) ?_
    refine And.imp_left (rs_aload_n i_X8_drawn_77 rfl) ?_
    obtain ⟨o2, e2, hf⟩ := bind_some hf
    obtain ⟨u2, SH2⟩ := k_X8_spread (X := X) (d := d) (by omega) (by omega) SH e2
    refine And.imp_left (rs_inV i_X8_drawn_78 m_X8_spread rfl (As := []) (rest := []) rfl rfl (Nat.le_of_ble_eq_true rfl) (sO8 SH hh) u2 (st' := [.int o2.1]) rfl) ?_
    clear SH; have SH := SH2; clear SH2
    have hf := Option.some.inj hf
    subst hf
    exact ⟨rs_iret i_X8_drawn_81 m_X8_drawn rfl, SH⟩
  · replace hf := (if_neg c1).symm.trans hf
    refine And.imp_left (rs_ifF i_X8_drawn_66 (cf_ne c1)) ?_
    refine And.imp_left (rs_aload_n i_X8_drawn_69 rfl) ?_
    refine And.imp_left (rs_iload_n i_X8_drawn_70 rfl) ?_
    obtain ⟨o3, e3, hf⟩ := bind_some hf
    obtain ⟨u3, SH2⟩ := k_X8_thickOf (X := X) (d := d) (by omega) (by omega) SH e3
    refine And.imp_left (rs_inV i_X8_drawn_71 m_X8_thickOf rfl (As := [.int v2]) (rest := []) rfl rfl (Nat.le_of_ble_eq_true rfl) (sO8 SH hh) u3 (st' := [.int o3.1]) rfl) ?_
    clear SH; have SH := SH2; clear SH2
    refine And.imp_left (rs_goto i_X8_drawn_74 (tg := 81) (by decide)) ?_
    have hf := Option.some.inj hf
    subst hf
    exact ⟨rs_iret i_X8_drawn_81 m_X8_drawn rfl, SH⟩
noncomputable def g_X8_drawn_54 (n : Nat) (v1 : Int32) (v2 : Int32) (v4 : Int32) (h : Hp) : Option (Int32 × Hp) :=
  (g_X8_goes n v1 h).bind fun o1 =>
  g_X8_drawn_64 n v2 v4 (hsi o1 96 45 0)
set_option maxRecDepth 100000 in
set_option maxHeartbeats 4000000 in
theorem q_X8_drawn_54 {X : Nat → Int32} {d : Nat} (hd : 7 ≤ (d + 1)) {L hi : Nat} (hh : 125 ≤ hi) {n : Nat} {v1 : Int32} {v2 : Int32} {v4 : Int32} {d3 : Int32} {h : Hp} {o : (Int32 × Hp)}  (SH : SHP L hi h) (hf : g_X8_drawn_54 n v1 v2 v4 h = some o) : Run X (d + 1) 210 54 [some (.ref 96), some (.int v1), some (.int v2), some (.int d3), some (.int v4)] [] h (some (.int o.1), o.2) ∧ SHP L hi o.2 := by
  unfold g_X8_drawn_54 at hf
  refine And.imp_left (rs_aload_n i_X8_drawn_54 rfl) ?_
  refine And.imp_left (rs_iload_n i_X8_drawn_55 rfl) ?_
  obtain ⟨o1, e1, hf⟩ := bind_some hf
  obtain ⟨u1, SH2⟩ := k_X8_goes (X := X) (d := d) (by omega) (by omega) SH e1
  refine And.imp_left (rs_inV i_X8_drawn_56 m_X8_goes rfl (As := [.int v1]) (rest := []) rfl rfl (Nat.le_of_ble_eq_true rfl) (sO8 SH hh) u1 (st' := []) rfl) ?_
  clear SH; have SH := SH2; clear SH2
  refine And.imp_left (rs_aload_n i_X8_drawn_59 rfl) ?_
  refine And.imp_left (rs_iconst i_X8_drawn_60 (v := 0) (by decide)) ?_
  refine And.imp_left (rs_putZ i_X8_drawn_61 (by decide) (by decide) (sO8 SH hh)) ?_
  have SH := shi SH 96 45 0
  exact q_X8_drawn_64 hd hh SH hf
noncomputable def g_X8_drawn_49 (n : Nat) (v1 : Int32) (v2 : Int32) (v4 : Int32) (h : Hp) : Option (Int32 × Hp) :=
  g_X8_drawn_54 n v1 v2 v4 (hsi h 96 45 1)
set_option maxRecDepth 100000 in
set_option maxHeartbeats 4000000 in
theorem q_X8_drawn_49 {X : Nat → Int32} {d : Nat} (hd : 7 ≤ (d + 1)) {L hi : Nat} (hh : 125 ≤ hi) {n : Nat} {v1 : Int32} {v2 : Int32} {v4 : Int32} {d3 : Int32} {h : Hp} {o : (Int32 × Hp)}  (SH : SHP L hi h) (hf : g_X8_drawn_49 n v1 v2 v4 h = some o) : Run X (d + 1) 210 49 [some (.ref 96), some (.int v1), some (.int v2), some (.int d3), some (.int v4)] [] h (some (.int o.1), o.2) ∧ SHP L hi o.2 := by
  unfold g_X8_drawn_49 at hf
  refine And.imp_left (rs_aload_n i_X8_drawn_49 rfl) ?_
  refine And.imp_left (rs_iconst i_X8_drawn_50 (v := 1) (by decide)) ?_
  refine And.imp_left (rs_putZ i_X8_drawn_51 (by decide) (by decide) (sO8 SH hh)) ?_
  have SH := shi SH 96 45 1
  exact q_X8_drawn_54 hd hh SH hf
noncomputable def g_X8_drawn_0 (n : Nat) (v1 : Int32) (v2 : Int32) (v3 : Int32) (v4 : Int32) (h : Hp) : Option (Int32 × Hp) :=
  (g_X8_areSteps v1 h).bind fun o1 =>
  if o1.1 ≠ 0 then
    (g_X8_isCell v2 o1.2).bind fun o3 =>
    if o3.1 = 0 then
      some ((-7), o3.2)
    else
      (g_X8_in v3 0 99999 o3.2).bind fun o5 =>
      if o5.1 = 0 then
        some ((-7), o5.2)
      else
        (g_X8_in v4 0 1 o5.2).bind fun o7 =>
        if o7.1 ≠ 0 then
          g_X8_drawn_49 n v1 v2 v4 (hsl o7.2 96 46 ((Int32.toInt64 v3) + 1))
        else
          some ((-7), o7.2)
  else
    some ((-5), o1.2)
set_option maxRecDepth 100000 in
set_option maxHeartbeats 4000000 in
theorem q_X8_drawn_0 {X : Nat → Int32} {d : Nat} (hd : 7 ≤ (d + 1)) {L hi : Nat} (hh : 125 ≤ hi) {n : Nat} {v1 : Int32} {v2 : Int32} {v3 : Int32} {v4 : Int32} {h : Hp} {o : (Int32 × Hp)}  (SH : SHP L hi h) (hf : g_X8_drawn_0 n v1 v2 v3 v4 h = some o) : Run X (d + 1) 210 0 [some (.ref 96), some (.int v1), some (.int v2), some (.int v3), some (.int v4)] [] h (some (.int o.1), o.2) ∧ SHP L hi o.2 := by
  unfold g_X8_drawn_0 at hf
  refine And.imp_left (rs_aload_n i_X8_drawn_0 rfl) ?_
  refine And.imp_left (rs_iload_n i_X8_drawn_1 rfl) ?_
  obtain ⟨o1, e1, hf⟩ := bind_some hf
  obtain ⟨u1, SH2⟩ := k_X8_areSteps (X := X) (d := d) (by omega) (by omega) SH e1
  refine And.imp_left (rs_inV i_X8_drawn_2 m_X8_areSteps rfl (As := [.int v1]) (rest := []) rfl rfl (Nat.le_of_ble_eq_true rfl) (sO8 SH hh) u1 (st' := [.int o1.1]) rfl) ?_
  clear SH; have SH := SH2; clear SH2
  by_cases c2 : o1.1 ≠ 0
  · replace hf := (if_pos c2).symm.trans hf
    refine And.imp_left (rs_ifT i_X8_drawn_5 (ct_ne c2) (tg := 11) (by decide)) ?_
    refine And.imp_left (rs_iload_n i_X8_drawn_11 rfl) ?_
    obtain ⟨o3, e3, hf⟩ := bind_some hf
    obtain ⟨u3, SH2⟩ := k_X8_isCell (X := X) (d := d) (by omega) (by omega) SH e3
    refine And.imp_left (rs_inS i_X8_drawn_12 (by decide) m_X8_isCell rfl (As := [.int v2]) (rest := []) rfl rfl (Nat.le_of_ble_eq_true rfl) u3 (st' := [.int o3.1]) rfl) ?_
    clear SH; have SH := SH2; clear SH2
    by_cases c4 : o3.1 = 0
    · replace hf := (if_pos c4).symm.trans hf
      refine And.imp_left (rs_ifT i_X8_drawn_15 (ct_eq c4) (tg := 38) (by decide)) ?_
      refine And.imp_left (rs_bipush i_X8_drawn_38 (v := (-7)) (by decide)) ?_
      have hf := Option.some.inj hf
      subst hf
      exact ⟨rs_iret i_X8_drawn_40 m_X8_drawn rfl, SH⟩
    · replace hf := (if_neg c4).symm.trans hf
      refine And.imp_left (rs_ifF i_X8_drawn_15 (cf_eq c4)) ?_
      refine And.imp_left (rs_iload_n i_X8_drawn_18 rfl) ?_
      refine And.imp_left (rs_iconst i_X8_drawn_19 (v := 0) (by decide)) ?_
      refine And.imp_left (rs_ldc i_X8_drawn_20 (v := 99999) (by decide)) ?_
      obtain ⟨o5, e5, hf⟩ := bind_some hf
      obtain ⟨u5, SH2⟩ := k_X8_in (X := X) (d := d) (by omega) (by omega) SH e5
      refine And.imp_left (rs_inS i_X8_drawn_22 (by decide) m_X8_in rfl (As := [.int v3, .int 0, .int 99999]) (rest := []) rfl rfl (Nat.le_of_ble_eq_true rfl) u5 (st' := [.int o5.1]) rfl) ?_
      clear SH; have SH := SH2; clear SH2
      by_cases c6 : o5.1 = 0
      · replace hf := (if_pos c6).symm.trans hf
        refine And.imp_left (rs_ifT i_X8_drawn_25 (ct_eq c6) (tg := 38) (by decide)) ?_
        refine And.imp_left (rs_bipush i_X8_drawn_38 (v := (-7)) (by decide)) ?_
        have hf := Option.some.inj hf
        subst hf
        exact ⟨rs_iret i_X8_drawn_40 m_X8_drawn rfl, SH⟩
      · replace hf := (if_neg c6).symm.trans hf
        refine And.imp_left (rs_ifF i_X8_drawn_25 (cf_eq c6)) ?_
        refine And.imp_left (rs_iload i_X8_drawn_28 rfl) ?_
        refine And.imp_left (rs_iconst i_X8_drawn_30 (v := 0) (by decide)) ?_
        refine And.imp_left (rs_iconst i_X8_drawn_31 (v := 1) (by decide)) ?_
        obtain ⟨o7, e7, hf⟩ := bind_some hf
        obtain ⟨u7, SH2⟩ := k_X8_in (X := X) (d := d) (by omega) (by omega) SH e7
        refine And.imp_left (rs_inS i_X8_drawn_32 (by decide) m_X8_in rfl (As := [.int v4, .int 0, .int 1]) (rest := []) rfl rfl (Nat.le_of_ble_eq_true rfl) u7 (st' := [.int o7.1]) rfl) ?_
        clear SH; have SH := SH2; clear SH2
        by_cases c8 : o7.1 ≠ 0
        · replace hf := (if_pos c8).symm.trans hf
          refine And.imp_left (rs_ifT i_X8_drawn_35 (ct_ne c8) (tg := 41) (by decide)) ?_
          refine And.imp_left (rs_aload_n i_X8_drawn_41 rfl) ?_
          refine And.imp_left (rs_iload_n i_X8_drawn_42 rfl) ?_
          refine And.imp_left (rs_i2l i_X8_drawn_43) ?_
          refine And.imp_left (rs_lconst i_X8_drawn_44 (v := 1) (by decide)) ?_
          refine And.imp_left (rs_ladd i_X8_drawn_45) ?_
          refine And.imp_left (rs_putL i_X8_drawn_46 (by decide) (sO8 SH hh)) ?_
          have SH := shl SH 96 46 ((Int32.toInt64 v3) + 1)
          exact q_X8_drawn_49 hd hh SH hf
        · replace hf := (if_neg c8).symm.trans hf
          refine And.imp_left (rs_ifF i_X8_drawn_35 (cf_ne c8)) ?_
          refine And.imp_left (rs_bipush i_X8_drawn_38 (v := (-7)) (by decide)) ?_
          have hf := Option.some.inj hf
          subst hf
          exact ⟨rs_iret i_X8_drawn_40 m_X8_drawn rfl, SH⟩
  · replace hf := (if_neg c2).symm.trans hf
    refine And.imp_left (rs_ifF i_X8_drawn_5 (cf_ne c2)) ?_
    refine And.imp_left (rs_bipush i_X8_drawn_8 (v := (-5)) (by decide)) ?_
    have hf := Option.some.inj hf
    subst hf
    exact ⟨rs_iret i_X8_drawn_10 m_X8_drawn rfl, SH⟩
noncomputable def g_X8_drawn (n : Nat) (v1 : Int32) (v2 : Int32) (v3 : Int32) (v4 : Int32) (h : Hp) : Option (Int32 × Hp) := g_X8_drawn_0 n v1 v2 v3 v4 h
theorem k_X8_drawn {X : Nat → Int32} {d : Nat} (hd : 7 ≤ d) {L hi : Nat} (hh : 125 ≤ hi) {n : Nat} {v1 : Int32} {v2 : Int32} {v3 : Int32} {v4 : Int32} {h : Hp} {o : (Int32 × Hp)}  (SH : SHP L hi h) (hf : g_X8_drawn n v1 v2 v3 v4 h = some o) : Calls X d 210 [.ref 96, .int v1, .int v2, .int v3, .int v4] h (some (.int o.1), o.2) ∧ SHP L hi o.2 := by
  obtain ⟨d, rfl⟩ : ∃ z, d = z + 1 := ⟨d - 1, by omega⟩
  obtain ⟨r, S2⟩ := q_X8_drawn_0 hd hh SH hf
  exact ⟨⟨_, rfl, r⟩, S2⟩
noncomputable def g_X8_image_57 (n : Nat) (K39 : Int32 → Hp → Option (Int32 × Hp)) (v1 : Int32) (h : Hp) : Option (Int32 × Hp) :=
  if inb v1 12 = true then
  K39 (v1 + 1) (hsi h 106 (ix v1) (gI h 98 (ix v1)))
  else none
set_option maxRecDepth 100000 in
set_option maxHeartbeats 4000000 in
theorem q_X8_image_57 {X : Nat → Int32} {d : Nat} (hd : 0 ≤ d) {L hi : Nat} (hh : 125 ≤ hi) {n : Nat} {K39 : Int32 → Hp → Option (Int32 × Hp)} (HK39 : ∀ (v1 : Int32) (h : Hp) (o : (Int32 × Hp)), SHP L hi h → K39 v1 h = some o → Run X d 211 39 [some (.ref 96), some (.int v1)] [] h (some (.int o.1), o.2) ∧ SHP L hi o.2) {v1 : Int32} {h : Hp} {o : (Int32 × Hp)}  (SH : SHP L hi h) (hf : g_X8_image_57 n K39 v1 h = some o) : Run X d 211 57 [some (.ref 96), some (.int v1)] [] h (some (.int o.1), o.2) ∧ SHP L hi o.2 := by
  unfold g_X8_image_57 at hf
  refine And.imp_left (rs_aload_n i_X8_image_57 rfl) ?_
  refine And.imp_left (rs_getR i_X8_image_58 (by decide) (by decide) (sO8 SH hh) (sR8_21 SH hh)) ?_
  refine And.imp_left (rs_iload_n i_X8_image_61 rfl) ?_
  refine And.imp_left (rs_aload_n i_X8_image_62 rfl) ?_
  refine And.imp_left (rs_getR i_X8_image_63 (by decide) (by decide) (sO8 SH hh) (sR8_1 SH hh)) ?_
  refine And.imp_left (rs_iload_n i_X8_image_66 rfl) ?_
  obtain ⟨c1, hf⟩ := ite_some hf
  refine And.imp_left (rs_iald i_X8_image_67 (mkI (sA SH hh (k := 9) (n := 12) (by decide)) c1)) ?_
  refine And.imp_left (rs_iast i_X8_image_68 (mkI (sA SH hh (k := 9) (n := 12) (by decide)) c1)) ?_
  have SH := shi SH 106 (ix v1) (gI h 98 (ix v1))
  refine And.imp_left (rs_iinc i_X8_image_69 rfl (v := v1 + 1) rfl (Nat.le_of_ble_eq_true rfl) (lv' := [some (.ref 96), some (.int (v1 + 1))]) rfl) ?_
  refine And.imp_left (rs_goto i_X8_image_72 (tg := 39) (by decide)) ?_
  exact HK39 _ _ _ SH hf
noncomputable def g_X8_image_39 (n : Nat) : Nat → Int32 → Hp → Option (Int32 × Hp)
  | 0, _, _ => none
  | m + 1, v1, h =>
    if 12 ≤ v1 then
      some ((gI h 96 5), h)
    else
      if inb v1 12 = true then
      g_X8_image_57 n (g_X8_image_39 n m) v1 (hsi h 105 (ix v1) (gI h 97 (ix v1)))
      else none
set_option maxRecDepth 100000 in
set_option maxHeartbeats 4000000 in
theorem q_X8_image_39 {X : Nat → Int32} {d : Nat} (hd : 0 ≤ d) {L hi : Nat} (hh : 125 ≤ hi) {n : Nat} : ∀ (m : Nat) (v1 : Int32) (h : Hp) (o : (Int32 × Hp)), SHP L hi h → g_X8_image_39 n m v1 h = some o → Run X d 211 39 [some (.ref 96), some (.int v1)] [] h (some (.int o.1), o.2) ∧ SHP L hi o.2 := by
  intro m
  induction m with
  | zero => intro v1 h o SH hf; cases hf
  | succ m ih =>
    intro v1 h o SH hf
    rw [g_X8_image_39] at hf
    refine And.imp_left (rs_iload_n i_X8_image_39 rfl) ?_
    refine And.imp_left (rs_bipush i_X8_image_40 (v := 12) (by decide)) ?_
    by_cases c1 : 12 ≤ v1
    · replace hf := (if_pos c1).symm.trans hf
      refine And.imp_left (rs_icT i_X8_image_42 (ct_ge c1) (tg := 75) (by decide)) ?_
      refine And.imp_left (rs_aload_n i_X8_image_75 rfl) ?_
      refine And.imp_left (rs_getI i_X8_image_76 (by decide) (by decide) (sO8 SH hh)) ?_
      have hf := Option.some.inj hf
      subst hf
      exact ⟨rs_iret i_X8_image_79 m_X8_image rfl, SH⟩
    · replace hf := (if_neg c1).symm.trans hf
      refine And.imp_left (rs_icF i_X8_image_42 (cf_ge c1)) ?_
      refine And.imp_left (rs_aload_n i_X8_image_45 rfl) ?_
      refine And.imp_left (rs_getR i_X8_image_46 (by decide) (by decide) (sO8 SH hh) (sR8_20 SH hh)) ?_
      refine And.imp_left (rs_iload_n i_X8_image_49 rfl) ?_
      refine And.imp_left (rs_aload_n i_X8_image_50 rfl) ?_
      refine And.imp_left (rs_getR i_X8_image_51 (by decide) (by decide) (sO8 SH hh) (sR8_0 SH hh)) ?_
      refine And.imp_left (rs_iload_n i_X8_image_54 rfl) ?_
      obtain ⟨c2, hf⟩ := ite_some hf
      refine And.imp_left (rs_iald i_X8_image_55 (mkI (sA SH hh (k := 9) (n := 12) (by decide)) c2)) ?_
      refine And.imp_left (rs_iast i_X8_image_56 (mkI (sA SH hh (k := 9) (n := 12) (by decide)) c2)) ?_
      have SH := shi SH 105 (ix v1) (gI h 97 (ix v1))
      exact q_X8_image_57 hd hh ih SH hf
noncomputable def g_X8_image_29 (n : Nat)  (h : Hp) : Option (Int32 × Hp) :=
  g_X8_image_39 n n 0 (hsi h 96 19 (gI h 96 14))
set_option maxRecDepth 100000 in
set_option maxHeartbeats 4000000 in
theorem q_X8_image_29 {X : Nat → Int32} {d : Nat} (hd : 0 ≤ d) {L hi : Nat} (hh : 125 ≤ hi) {n : Nat}  {h : Hp} {o : (Int32 × Hp)}  (SH : SHP L hi h) (hf : g_X8_image_29 n h = some o) : Run X d 211 29 [some (.ref 96), none] [] h (some (.int o.1), o.2) ∧ SHP L hi o.2 := by
  unfold g_X8_image_29 at hf
  refine And.imp_left (rs_aload_n i_X8_image_29 rfl) ?_
  refine And.imp_left (rs_aload_n i_X8_image_30 rfl) ?_
  refine And.imp_left (rs_getI i_X8_image_31 (by decide) (by decide) (sO8 SH hh)) ?_
  refine And.imp_left (rs_putI i_X8_image_34 (by decide) (sO8 SH hh)) ?_
  have SH := shi SH 96 19 (gI h 96 14)
  refine And.imp_left (rs_iconst i_X8_image_37 (v := 0) (by decide)) ?_
  refine And.imp_left (rs_istore_n i_X8_image_38 (Nat.le_of_ble_eq_true rfl) (lv' := [some (.ref 96), some (.int 0)]) rfl) ?_
  exact q_X8_image_39 hd hh _ _ _ _ SH hf
noncomputable def g_X8_image_21 (n : Nat)  (h : Hp) : Option (Int32 × Hp) :=
  g_X8_image_29 n (hsi h 96 18 (gI h 96 4))
set_option maxRecDepth 100000 in
set_option maxHeartbeats 4000000 in
theorem q_X8_image_21 {X : Nat → Int32} {d : Nat} (hd : 0 ≤ d) {L hi : Nat} (hh : 125 ≤ hi) {n : Nat}  {h : Hp} {o : (Int32 × Hp)}  (SH : SHP L hi h) (hf : g_X8_image_21 n h = some o) : Run X d 211 21 [some (.ref 96), none] [] h (some (.int o.1), o.2) ∧ SHP L hi o.2 := by
  unfold g_X8_image_21 at hf
  refine And.imp_left (rs_aload_n i_X8_image_21 rfl) ?_
  refine And.imp_left (rs_aload_n i_X8_image_22 rfl) ?_
  refine And.imp_left (rs_getI i_X8_image_23 (by decide) (by decide) (sO8 SH hh)) ?_
  refine And.imp_left (rs_putI i_X8_image_26 (by decide) (sO8 SH hh)) ?_
  have SH := shi SH 96 18 (gI h 96 4)
  exact q_X8_image_29 hd hh SH hf
noncomputable def g_X8_image_13 (n : Nat)  (h : Hp) : Option (Int32 × Hp) :=
  g_X8_image_21 n (hsi h 96 17 (gI h 96 3))
set_option maxRecDepth 100000 in
set_option maxHeartbeats 4000000 in
theorem q_X8_image_13 {X : Nat → Int32} {d : Nat} (hd : 0 ≤ d) {L hi : Nat} (hh : 125 ≤ hi) {n : Nat}  {h : Hp} {o : (Int32 × Hp)}  (SH : SHP L hi h) (hf : g_X8_image_13 n h = some o) : Run X d 211 13 [some (.ref 96), none] [] h (some (.int o.1), o.2) ∧ SHP L hi o.2 := by
  unfold g_X8_image_13 at hf
  refine And.imp_left (rs_aload_n i_X8_image_13 rfl) ?_
  refine And.imp_left (rs_aload_n i_X8_image_14 rfl) ?_
  refine And.imp_left (rs_getI i_X8_image_15 (by decide) (by decide) (sO8 SH hh)) ?_
  refine And.imp_left (rs_putI i_X8_image_18 (by decide) (sO8 SH hh)) ?_
  have SH := shi SH 96 17 (gI h 96 3)
  exact q_X8_image_21 hd hh SH hf
noncomputable def g_X8_image_5 (n : Nat)  (h : Hp) : Option (Int32 × Hp) :=
  g_X8_image_13 n (hsi h 96 16 (gI h 96 2))
set_option maxRecDepth 100000 in
set_option maxHeartbeats 4000000 in
theorem q_X8_image_5 {X : Nat → Int32} {d : Nat} (hd : 0 ≤ d) {L hi : Nat} (hh : 125 ≤ hi) {n : Nat}  {h : Hp} {o : (Int32 × Hp)}  (SH : SHP L hi h) (hf : g_X8_image_5 n h = some o) : Run X d 211 5 [some (.ref 96), none] [] h (some (.int o.1), o.2) ∧ SHP L hi o.2 := by
  unfold g_X8_image_5 at hf
  refine And.imp_left (rs_aload_n i_X8_image_5 rfl) ?_
  refine And.imp_left (rs_aload_n i_X8_image_6 rfl) ?_
  refine And.imp_left (rs_getI i_X8_image_7 (by decide) (by decide) (sO8 SH hh)) ?_
  refine And.imp_left (rs_putI i_X8_image_10 (by decide) (sO8 SH hh)) ?_
  have SH := shi SH 96 16 (gI h 96 2)
  exact q_X8_image_13 hd hh SH hf
noncomputable def g_X8_image_0 (n : Nat)  (h : Hp) : Option (Int32 × Hp) :=
  g_X8_image_5 n (hsi h 96 15 1)
set_option maxRecDepth 100000 in
set_option maxHeartbeats 4000000 in
theorem q_X8_image_0 {X : Nat → Int32} {d : Nat} (hd : 0 ≤ d) {L hi : Nat} (hh : 125 ≤ hi) {n : Nat}  {h : Hp} {o : (Int32 × Hp)}  (SH : SHP L hi h) (hf : g_X8_image_0 n h = some o) : Run X d 211 0 [some (.ref 96), none] [] h (some (.int o.1), o.2) ∧ SHP L hi o.2 := by
  unfold g_X8_image_0 at hf
  refine And.imp_left (rs_aload_n i_X8_image_0 rfl) ?_
  refine And.imp_left (rs_iconst i_X8_image_1 (v := 1) (by decide)) ?_
  refine And.imp_left (rs_putZ i_X8_image_2 (by decide) (by decide) (sO8 SH hh)) ?_
  have SH := shi SH 96 15 1
  exact q_X8_image_5 hd hh SH hf
noncomputable def g_X8_image (n : Nat)  (h : Hp) : Option (Int32 × Hp) := g_X8_image_0 n h
theorem k_X8_image {X : Nat → Int32} {d : Nat} (hd : 0 ≤ d) {L hi : Nat} (hh : 125 ≤ hi) {n : Nat}  {h : Hp} {o : (Int32 × Hp)}  (SH : SHP L hi h) (hf : g_X8_image n h = some o) : Calls X d 211 [.ref 96] h (some (.int o.1), o.2) ∧ SHP L hi o.2 := by
  obtain ⟨r, S2⟩ := q_X8_image_0 hd hh SH hf
  exact ⟨⟨_, rfl, r⟩, S2⟩
noncomputable def g_X8_back_62 (n : Nat) (K44 : Int32 → Hp → Option (Int32 × Hp)) (v1 : Int32) (h : Hp) : Option (Int32 × Hp) :=
  if inb v1 12 = true then
  K44 (v1 + 1) (hsi h 98 (ix v1) (gI h 106 (ix v1)))
  else none
set_option maxRecDepth 100000 in
set_option maxHeartbeats 4000000 in
theorem q_X8_back_62 {X : Nat → Int32} {d : Nat} (hd : 0 ≤ d) {L hi : Nat} (hh : 125 ≤ hi) {n : Nat} {K44 : Int32 → Hp → Option (Int32 × Hp)} (HK44 : ∀ (v1 : Int32) (h : Hp) (o : (Int32 × Hp)), SHP L hi h → K44 v1 h = some o → Run X d 212 44 [some (.ref 96), some (.int v1)] [] h (some (.int o.1), o.2) ∧ SHP L hi o.2) {v1 : Int32} {h : Hp} {o : (Int32 × Hp)}  (SH : SHP L hi h) (hf : g_X8_back_62 n K44 v1 h = some o) : Run X d 212 62 [some (.ref 96), some (.int v1)] [] h (some (.int o.1), o.2) ∧ SHP L hi o.2 := by
  unfold g_X8_back_62 at hf
  refine And.imp_left (rs_aload_n i_X8_back_62 rfl) ?_
  refine And.imp_left (rs_getR i_X8_back_63 (by decide) (by decide) (sO8 SH hh) (sR8_1 SH hh)) ?_
  refine And.imp_left (rs_iload_n i_X8_back_66 rfl) ?_
  refine And.imp_left (rs_aload_n i_X8_back_67 rfl) ?_
  refine And.imp_left (rs_getR i_X8_back_68 (by decide) (by decide) (sO8 SH hh) (sR8_21 SH hh)) ?_
  refine And.imp_left (rs_iload_n i_X8_back_71 rfl) ?_
  obtain ⟨c1, hf⟩ := ite_some hf
  refine And.imp_left (rs_iald i_X8_back_72 (mkI (sA SH hh (k := 9) (n := 12) (by decide)) c1)) ?_
  refine And.imp_left (rs_iast i_X8_back_73 (mkI (sA SH hh (k := 9) (n := 12) (by decide)) c1)) ?_
  have SH := shi SH 98 (ix v1) (gI h 106 (ix v1))
  refine And.imp_left (rs_iinc i_X8_back_74 rfl (v := v1 + 1) rfl (Nat.le_of_ble_eq_true rfl) (lv' := [some (.ref 96), some (.int (v1 + 1))]) rfl) ?_
  refine And.imp_left (rs_goto i_X8_back_77 (tg := 44) (by decide)) ?_
  exact HK44 _ _ _ SH hf
noncomputable def g_X8_back_44 (n : Nat) : Nat → Int32 → Hp → Option (Int32 × Hp)
  | 0, _, _ => none
  | m + 1, v1, h =>
    if 12 ≤ v1 then
      some ((gI h 96 5), h)
    else
      if inb v1 12 = true then
      g_X8_back_62 n (g_X8_back_44 n m) v1 (hsi h 97 (ix v1) (gI h 105 (ix v1)))
      else none
set_option maxRecDepth 100000 in
set_option maxHeartbeats 4000000 in
theorem q_X8_back_44 {X : Nat → Int32} {d : Nat} (hd : 0 ≤ d) {L hi : Nat} (hh : 125 ≤ hi) {n : Nat} : ∀ (m : Nat) (v1 : Int32) (h : Hp) (o : (Int32 × Hp)), SHP L hi h → g_X8_back_44 n m v1 h = some o → Run X d 212 44 [some (.ref 96), some (.int v1)] [] h (some (.int o.1), o.2) ∧ SHP L hi o.2 := by
  intro m
  induction m with
  | zero => intro v1 h o SH hf; cases hf
  | succ m ih =>
    intro v1 h o SH hf
    rw [g_X8_back_44] at hf
    refine And.imp_left (rs_iload_n i_X8_back_44 rfl) ?_
    refine And.imp_left (rs_bipush i_X8_back_45 (v := 12) (by decide)) ?_
    by_cases c1 : 12 ≤ v1
    · replace hf := (if_pos c1).symm.trans hf
      refine And.imp_left (rs_icT i_X8_back_47 (ct_ge c1) (tg := 80) (by decide)) ?_
      refine And.imp_left (rs_aload_n i_X8_back_80 rfl) ?_
      refine And.imp_left (rs_getI i_X8_back_81 (by decide) (by decide) (sO8 SH hh)) ?_
      have hf := Option.some.inj hf
      subst hf
      exact ⟨rs_iret i_X8_back_84 m_X8_back rfl, SH⟩
    · replace hf := (if_neg c1).symm.trans hf
      refine And.imp_left (rs_icF i_X8_back_47 (cf_ge c1)) ?_
      refine And.imp_left (rs_aload_n i_X8_back_50 rfl) ?_
      refine And.imp_left (rs_getR i_X8_back_51 (by decide) (by decide) (sO8 SH hh) (sR8_0 SH hh)) ?_
      refine And.imp_left (rs_iload_n i_X8_back_54 rfl) ?_
      refine And.imp_left (rs_aload_n i_X8_back_55 rfl) ?_
      refine And.imp_left (rs_getR i_X8_back_56 (by decide) (by decide) (sO8 SH hh) (sR8_20 SH hh)) ?_
      refine And.imp_left (rs_iload_n i_X8_back_59 rfl) ?_
      obtain ⟨c2, hf⟩ := ite_some hf
      refine And.imp_left (rs_iald i_X8_back_60 (mkI (sA SH hh (k := 9) (n := 12) (by decide)) c2)) ?_
      refine And.imp_left (rs_iast i_X8_back_61 (mkI (sA SH hh (k := 9) (n := 12) (by decide)) c2)) ?_
      have SH := shi SH 97 (ix v1) (gI h 105 (ix v1))
      exact q_X8_back_62 hd hh ih SH hf
noncomputable def g_X8_back_34 (n : Nat)  (h : Hp) : Option (Int32 × Hp) :=
  g_X8_back_44 n n 0 (hsi h 96 14 (gI h 96 19))
set_option maxRecDepth 100000 in
set_option maxHeartbeats 4000000 in
theorem q_X8_back_34 {X : Nat → Int32} {d : Nat} (hd : 0 ≤ d) {L hi : Nat} (hh : 125 ≤ hi) {n : Nat}  {h : Hp} {o : (Int32 × Hp)}  (SH : SHP L hi h) (hf : g_X8_back_34 n h = some o) : Run X d 212 34 [some (.ref 96), none] [] h (some (.int o.1), o.2) ∧ SHP L hi o.2 := by
  unfold g_X8_back_34 at hf
  refine And.imp_left (rs_aload_n i_X8_back_34 rfl) ?_
  refine And.imp_left (rs_aload_n i_X8_back_35 rfl) ?_
  refine And.imp_left (rs_getI i_X8_back_36 (by decide) (by decide) (sO8 SH hh)) ?_
  refine And.imp_left (rs_putI i_X8_back_39 (by decide) (sO8 SH hh)) ?_
  have SH := shi SH 96 14 (gI h 96 19)
  refine And.imp_left (rs_iconst i_X8_back_42 (v := 0) (by decide)) ?_
  refine And.imp_left (rs_istore_n i_X8_back_43 (Nat.le_of_ble_eq_true rfl) (lv' := [some (.ref 96), some (.int 0)]) rfl) ?_
  exact q_X8_back_44 hd hh _ _ _ _ SH hf
noncomputable def g_X8_back_26 (n : Nat)  (h : Hp) : Option (Int32 × Hp) :=
  g_X8_back_34 n (hsi h 96 4 (gI h 96 18))
set_option maxRecDepth 100000 in
set_option maxHeartbeats 4000000 in
theorem q_X8_back_26 {X : Nat → Int32} {d : Nat} (hd : 0 ≤ d) {L hi : Nat} (hh : 125 ≤ hi) {n : Nat}  {h : Hp} {o : (Int32 × Hp)}  (SH : SHP L hi h) (hf : g_X8_back_26 n h = some o) : Run X d 212 26 [some (.ref 96), none] [] h (some (.int o.1), o.2) ∧ SHP L hi o.2 := by
  unfold g_X8_back_26 at hf
  refine And.imp_left (rs_aload_n i_X8_back_26 rfl) ?_
  refine And.imp_left (rs_aload_n i_X8_back_27 rfl) ?_
  refine And.imp_left (rs_getI i_X8_back_28 (by decide) (by decide) (sO8 SH hh)) ?_
  refine And.imp_left (rs_putI i_X8_back_31 (by decide) (sO8 SH hh)) ?_
  have SH := shi SH 96 4 (gI h 96 18)
  exact q_X8_back_34 hd hh SH hf
noncomputable def g_X8_back_18 (n : Nat)  (h : Hp) : Option (Int32 × Hp) :=
  g_X8_back_26 n (hsi h 96 3 (gI h 96 17))
set_option maxRecDepth 100000 in
set_option maxHeartbeats 4000000 in
theorem q_X8_back_18 {X : Nat → Int32} {d : Nat} (hd : 0 ≤ d) {L hi : Nat} (hh : 125 ≤ hi) {n : Nat}  {h : Hp} {o : (Int32 × Hp)}  (SH : SHP L hi h) (hf : g_X8_back_18 n h = some o) : Run X d 212 18 [some (.ref 96), none] [] h (some (.int o.1), o.2) ∧ SHP L hi o.2 := by
  unfold g_X8_back_18 at hf
  refine And.imp_left (rs_aload_n i_X8_back_18 rfl) ?_
  refine And.imp_left (rs_aload_n i_X8_back_19 rfl) ?_
  refine And.imp_left (rs_getI i_X8_back_20 (by decide) (by decide) (sO8 SH hh)) ?_
  refine And.imp_left (rs_putI i_X8_back_23 (by decide) (sO8 SH hh)) ?_
  have SH := shi SH 96 3 (gI h 96 17)
  exact q_X8_back_26 hd hh SH hf
noncomputable def g_X8_back_0 (n : Nat)  (h : Hp) : Option (Int32 × Hp) :=
  if (gI h 96 15) ≠ 0 then
    g_X8_back_18 n (hsi h 96 2 (gI h 96 16))
  else
    some ((-3), h)
set_option maxRecDepth 100000 in
set_option maxHeartbeats 4000000 in
theorem q_X8_back_0 {X : Nat → Int32} {d : Nat} (hd : 0 ≤ d) {L hi : Nat} (hh : 125 ≤ hi) {n : Nat}  {h : Hp} {o : (Int32 × Hp)}  (SH : SHP L hi h) (hf : g_X8_back_0 n h = some o) : Run X d 212 0 [some (.ref 96), none] [] h (some (.int o.1), o.2) ∧ SHP L hi o.2 := by
  unfold g_X8_back_0 at hf
  refine And.imp_left (rs_aload_n i_X8_back_0 rfl) ?_
  refine And.imp_left (rs_getI i_X8_back_1 (by decide) (by decide) (sO8 SH hh)) ?_
  by_cases c1 : (gI h 96 15) ≠ 0
  · replace hf := (if_pos c1).symm.trans hf
    refine And.imp_left (rs_ifT i_X8_back_4 (ct_ne c1) (tg := 10) (by decide)) ?_
    refine And.imp_left (rs_aload_n i_X8_back_10 rfl) ?_
    refine And.imp_left (rs_aload_n i_X8_back_11 rfl) ?_
    refine And.imp_left (rs_getI i_X8_back_12 (by decide) (by decide) (sO8 SH hh)) ?_
    refine And.imp_left (rs_putI i_X8_back_15 (by decide) (sO8 SH hh)) ?_
    have SH := shi SH 96 2 (gI h 96 16)
    exact q_X8_back_18 hd hh SH hf
  · replace hf := (if_neg c1).symm.trans hf
    refine And.imp_left (rs_ifF i_X8_back_4 (cf_ne c1)) ?_
    refine And.imp_left (rs_bipush i_X8_back_7 (v := (-3)) (by decide)) ?_
    have hf := Option.some.inj hf
    subst hf
    exact ⟨rs_iret i_X8_back_9 m_X8_back rfl, SH⟩
noncomputable def g_X8_back (n : Nat)  (h : Hp) : Option (Int32 × Hp) := g_X8_back_0 n h
theorem k_X8_back {X : Nat → Int32} {d : Nat} (hd : 0 ≤ d) {L hi : Nat} (hh : 125 ≤ hi) {n : Nat}  {h : Hp} {o : (Int32 × Hp)}  (SH : SHP L hi h) (hf : g_X8_back n h = some o) : Calls X d 212 [.ref 96] h (some (.int o.1), o.2) ∧ SHP L hi o.2 := by
  obtain ⟨r, S2⟩ := q_X8_back_0 hd hh SH hf
  exact ⟨⟨_, rfl, r⟩, S2⟩
noncomputable def g_X8_sheet_70 (n : Nat) : Nat → Int32 → Int32 → Hp → Option (Int32 × Hp)
  | 0, _, _, _ => none
  | m + 1, v1, v4, h =>
    if 40 ≤ v4 then
      some (1, h)
    else
      if inb ((40 * v1) + v4) 160 = true then
      (g_X8_sheet_70 n m) v1 (v4 + 1) (hsi h 109 (ix ((40 * v1) + v4)) 0)
      else none
set_option maxRecDepth 100000 in
set_option maxHeartbeats 4000000 in
theorem q_X8_sheet_70 {X : Nat → Int32} {d : Nat} (hd : 1 ≤ (d + 1)) {L hi : Nat} (hh : 125 ≤ hi) {n : Nat} : ∀ (m : Nat) (v1 : Int32) (v4 : Int32) (d2 : Int32) (d3 : Int32) (h : Hp) (o : (Int32 × Hp)), SHP L hi h → g_X8_sheet_70 n m v1 v4 h = some o → Run X (d + 1) 213 70 [some (.ref 96), some (.int v1), some (.int d2), some (.int d3), some (.int v4)] [] h (some (.int o.1), o.2) ∧ SHP L hi o.2 := by
  intro m
  induction m with
  | zero => intro v1 v4 d2 d3 h o SH hf; cases hf
  | succ m ih =>
    intro v1 v4 d2 d3 h o SH hf
    rw [g_X8_sheet_70] at hf
    refine And.imp_left (rs_iload i_X8_sheet_70 rfl) ?_
    refine And.imp_left (rs_bipush i_X8_sheet_72 (v := 40) (by decide)) ?_
    by_cases c1 : 40 ≤ v4
    · replace hf := (if_pos c1).symm.trans hf
      refine And.imp_left (rs_icT i_X8_sheet_74 (ct_ge c1) (tg := 96) (by decide)) ?_
      refine And.imp_left (rs_iconst i_X8_sheet_96 (v := 1) (by decide)) ?_
      have hf := Option.some.inj hf
      subst hf
      exact ⟨rs_iret i_X8_sheet_97 m_X8_sheet rfl, SH⟩
    · replace hf := (if_neg c1).symm.trans hf
      refine And.imp_left (rs_icF i_X8_sheet_74 (cf_ge c1)) ?_
      refine And.imp_left (rs_aload_n i_X8_sheet_77 rfl) ?_
      refine And.imp_left (rs_getR i_X8_sheet_78 (by decide) (by decide) (sO8 SH hh) (sR8_24 SH hh)) ?_
      refine And.imp_left (rs_bipush i_X8_sheet_81 (v := 40) (by decide)) ?_
      refine And.imp_left (rs_iload_n i_X8_sheet_83 rfl) ?_
      refine And.imp_left (rs_imul i_X8_sheet_84) ?_
      refine And.imp_left (rs_iload i_X8_sheet_85 rfl) ?_
      refine And.imp_left (rs_iadd i_X8_sheet_87) ?_
      refine And.imp_left (rs_iconst i_X8_sheet_88 (v := 0) (by decide)) ?_
      obtain ⟨c2, hf⟩ := ite_some hf
      refine And.imp_left (rs_iast i_X8_sheet_89 (mkI (sA SH hh (k := 9) (n := 160) (by decide)) c2)) ?_
      have SH := shi SH 109 (ix ((40 * v1) + v4)) 0
      refine And.imp_left (rs_iinc i_X8_sheet_90 rfl (v := v4 + 1) rfl (Nat.le_of_ble_eq_true rfl) (lv' := [some (.ref 96), some (.int v1), some (.int d2), some (.int d3), some (.int (v4 + 1))]) rfl) ?_
      refine And.imp_left (rs_goto i_X8_sheet_93 (tg := 70) (by decide)) ?_
      exact ih _ _ _ _ _ _ SH hf
noncomputable def g_X8_sheet_66 (n : Nat) (v1 : Int32) (s0 : Nat) (s1 : Int32) (s2 : Int32) (h : Hp) : Option (Int32 × Hp) :=
  if inb s1 4 = true then
  g_X8_sheet_70 n n v1 0 (hsi h s0 (ix s1) s2)
  else none
set_option maxRecDepth 100000 in
set_option maxHeartbeats 4000000 in
theorem q_X8_sheet_66 {X : Nat → Int32} {d : Nat} (hd : 1 ≤ (d + 1)) {L hi : Nat} (hh : 125 ≤ hi) {n : Nat} {v1 : Int32} {s0 : Nat} {s1 : Int32} {s2 : Int32} {d2 : Int32} {d3 : Int32} {h : Hp} {o : (Int32 × Hp)} (hs0 : ARY 125 s0 9 4) (SH : SHP L hi h) (hf : g_X8_sheet_66 n v1 s0 s1 s2 h = some o) : Run X (d + 1) 213 66 [some (.ref 96), some (.int v1), some (.int d2), some (.int d3), none] [.int s2, .int s1, .ref s0] h (some (.int o.1), o.2) ∧ SHP L hi o.2 := by
  unfold g_X8_sheet_66 at hf
  obtain ⟨c1, hf⟩ := ite_some hf
  refine And.imp_left (rs_iast i_X8_sheet_66 (mkI (sA SH hh (k := 9) (n := 4) hs0) c1)) ?_
  have SH := shi SH s0 (ix s1) s2
  refine And.imp_left (rs_iconst i_X8_sheet_67 (v := 0) (by decide)) ?_
  refine And.imp_left (rs_istore i_X8_sheet_68 (Nat.le_of_ble_eq_true rfl) (lv' := [some (.ref 96), some (.int v1), some (.int d2), some (.int d3), some (.int 0)]) rfl) ?_
  exact q_X8_sheet_70 hd hh _ _ _ _ _ _ _ SH hf
noncomputable def g_X8_sheet_51 (n : Nat) (v1 : Int32) (v2 : Int32) (v3 : Int32) (h : Hp) : Option (Int32 × Hp) :=
  if v2 ≠ (-1) then
    g_X8_sheet_66 n v1 108 v1 v3 h
  else
    g_X8_sheet_66 n v1 108 v1 0 h
set_option maxRecDepth 100000 in
set_option maxHeartbeats 4000000 in
theorem q_X8_sheet_51 {X : Nat → Int32} {d : Nat} (hd : 1 ≤ (d + 1)) {L hi : Nat} (hh : 125 ≤ hi) {n : Nat} {v1 : Int32} {v2 : Int32} {v3 : Int32} {h : Hp} {o : (Int32 × Hp)}  (SH : SHP L hi h) (hf : g_X8_sheet_51 n v1 v2 v3 h = some o) : Run X (d + 1) 213 51 [some (.ref 96), some (.int v1), some (.int v2), some (.int v3), none] [] h (some (.int o.1), o.2) ∧ SHP L hi o.2 := by
  unfold g_X8_sheet_51 at hf
  refine And.imp_left (rs_aload_n i_X8_sheet_51 rfl) ?_
  refine And.imp_left (rs_getR i_X8_sheet_52 (by decide) (by decide) (sO8 SH hh) (sR8_23 SH hh)) ?_
  refine And.imp_left (rs_iload_n i_X8_sheet_55 rfl) ?_
  refine And.imp_left (rs_iload_n i_X8_sheet_56 rfl) ?_
  refine And.imp_left (rs_iconst i_X8_sheet_57 (v := (-1)) (by decide)) ?_
  by_cases c1 : v2 ≠ (-1)
  · replace hf := (if_pos c1).symm.trans hf
    refine And.imp_left (rs_icT i_X8_sheet_58 (ct_ne c1) (tg := 65) (by decide)) ?_
    refine And.imp_left (rs_iload_n i_X8_sheet_65 rfl) ?_
    exact q_X8_sheet_66 hd hh (by decide) SH hf
  · replace hf := (if_neg c1).symm.trans hf
    refine And.imp_left (rs_icF i_X8_sheet_58 (cf_ne c1)) ?_
    refine And.imp_left (rs_iconst i_X8_sheet_61 (v := 0) (by decide)) ?_
    refine And.imp_left (rs_goto i_X8_sheet_62 (tg := 66) (by decide)) ?_
    exact q_X8_sheet_66 hd hh (by decide) SH hf
noncomputable def g_X8_sheet_44 (n : Nat) (v1 : Int32) (v2 : Int32) (v3 : Int32) (h : Hp) : Option (Int32 × Hp) :=
  if inb v1 4 = true then
  g_X8_sheet_51 n v1 v2 v3 (hsi h 107 (ix v1) v2)
  else none
set_option maxRecDepth 100000 in
set_option maxHeartbeats 4000000 in
theorem q_X8_sheet_44 {X : Nat → Int32} {d : Nat} (hd : 1 ≤ (d + 1)) {L hi : Nat} (hh : 125 ≤ hi) {n : Nat} {v1 : Int32} {v2 : Int32} {v3 : Int32} {h : Hp} {o : (Int32 × Hp)}  (SH : SHP L hi h) (hf : g_X8_sheet_44 n v1 v2 v3 h = some o) : Run X (d + 1) 213 44 [some (.ref 96), some (.int v1), some (.int v2), some (.int v3), none] [] h (some (.int o.1), o.2) ∧ SHP L hi o.2 := by
  unfold g_X8_sheet_44 at hf
  refine And.imp_left (rs_aload_n i_X8_sheet_44 rfl) ?_
  refine And.imp_left (rs_getR i_X8_sheet_45 (by decide) (by decide) (sO8 SH hh) (sR8_22 SH hh)) ?_
  refine And.imp_left (rs_iload_n i_X8_sheet_48 rfl) ?_
  refine And.imp_left (rs_iload_n i_X8_sheet_49 rfl) ?_
  obtain ⟨c1, hf⟩ := ite_some hf
  refine And.imp_left (rs_iast i_X8_sheet_50 (mkI (sA SH hh (k := 9) (n := 4) (by decide)) c1)) ?_
  have SH := shi SH 107 (ix v1) v2
  exact q_X8_sheet_51 hd hh SH hf
noncomputable def g_X8_sheet_32 (n : Nat) (v1 : Int32) (v2 : Int32) (v3 : Int32) (h : Hp) : Option (Int32 × Hp) :=
  if v2 = (-1) then
    g_X8_sheet_44 n v1 v2 v3 h
  else
    if 0 ≤ v3 then
      g_X8_sheet_44 n v1 v2 v3 h
    else
      some ((-14), h)
set_option maxRecDepth 100000 in
set_option maxHeartbeats 4000000 in
theorem q_X8_sheet_32 {X : Nat → Int32} {d : Nat} (hd : 1 ≤ (d + 1)) {L hi : Nat} (hh : 125 ≤ hi) {n : Nat} {v1 : Int32} {v2 : Int32} {v3 : Int32} {h : Hp} {o : (Int32 × Hp)}  (SH : SHP L hi h) (hf : g_X8_sheet_32 n v1 v2 v3 h = some o) : Run X (d + 1) 213 32 [some (.ref 96), some (.int v1), some (.int v2), some (.int v3), none] [] h (some (.int o.1), o.2) ∧ SHP L hi o.2 := by
  unfold g_X8_sheet_32 at hf
  refine And.imp_left (rs_iload_n i_X8_sheet_32 rfl) ?_
  refine And.imp_left (rs_iconst i_X8_sheet_33 (v := (-1)) (by decide)) ?_
  by_cases c1 : v2 = (-1)
  · replace hf := (if_pos c1).symm.trans hf
    refine And.imp_left (rs_icT i_X8_sheet_34 (ct_eq c1) (tg := 44) (by decide)) ?_
    exact q_X8_sheet_44 hd hh SH hf
  · replace hf := (if_neg c1).symm.trans hf
    refine And.imp_left (rs_icF i_X8_sheet_34 (cf_eq c1)) ?_
    refine And.imp_left (rs_iload_n i_X8_sheet_37 rfl) ?_
    by_cases c2 : 0 ≤ v3
    · replace hf := (if_pos c2).symm.trans hf
      refine And.imp_left (rs_ifT i_X8_sheet_38 (ct_ge c2) (tg := 44) (by decide)) ?_
      exact q_X8_sheet_44 hd hh SH hf
    · replace hf := (if_neg c2).symm.trans hf
      refine And.imp_left (rs_ifF i_X8_sheet_38 (cf_ge c2)) ?_
      refine And.imp_left (rs_bipush i_X8_sheet_41 (v := (-14)) (by decide)) ?_
      have hf := Option.some.inj hf
      subst hf
      exact ⟨rs_iret i_X8_sheet_43 m_X8_sheet rfl, SH⟩
noncomputable def g_X8_sheet_0 (n : Nat) (v1 : Int32) (v2 : Int32) (v3 : Int32) (h : Hp) : Option (Int32 × Hp) :=
  (g_X8_in v1 0 3 h).bind fun o1 =>
  if o1.1 = 0 then
    some ((-2), o1.2)
  else
    (g_X8_in v2 (-1) 2 o1.2).bind fun o3 =>
    if o3.1 = 0 then
      some ((-2), o3.2)
    else
      if v2 = (-1) then
        g_X8_sheet_32 n v1 v2 v3 o3.2
      else
        if v3 ≤ 40 then
          g_X8_sheet_32 n v1 v2 v3 o3.2
        else
          some ((-2), o3.2)
set_option maxRecDepth 100000 in
set_option maxHeartbeats 4000000 in
theorem q_X8_sheet_0 {X : Nat → Int32} {d : Nat} (hd : 1 ≤ (d + 1)) {L hi : Nat} (hh : 125 ≤ hi) {n : Nat} {v1 : Int32} {v2 : Int32} {v3 : Int32} {h : Hp} {o : (Int32 × Hp)}  (SH : SHP L hi h) (hf : g_X8_sheet_0 n v1 v2 v3 h = some o) : Run X (d + 1) 213 0 [some (.ref 96), some (.int v1), some (.int v2), some (.int v3), none] [] h (some (.int o.1), o.2) ∧ SHP L hi o.2 := by
  unfold g_X8_sheet_0 at hf
  refine And.imp_left (rs_iload_n i_X8_sheet_0 rfl) ?_
  refine And.imp_left (rs_iconst i_X8_sheet_1 (v := 0) (by decide)) ?_
  refine And.imp_left (rs_iconst i_X8_sheet_2 (v := 3) (by decide)) ?_
  obtain ⟨o1, e1, hf⟩ := bind_some hf
  obtain ⟨u1, SH2⟩ := k_X8_in (X := X) (d := d) (by omega) (by omega) SH e1
  refine And.imp_left (rs_inS i_X8_sheet_3 (by decide) m_X8_in rfl (As := [.int v1, .int 0, .int 3]) (rest := []) rfl rfl (Nat.le_of_ble_eq_true rfl) u1 (st' := [.int o1.1]) rfl) ?_
  clear SH; have SH := SH2; clear SH2
  by_cases c2 : o1.1 = 0
  · replace hf := (if_pos c2).symm.trans hf
    refine And.imp_left (rs_ifT i_X8_sheet_6 (ct_eq c2) (tg := 29) (by decide)) ?_
    refine And.imp_left (rs_bipush i_X8_sheet_29 (v := (-2)) (by decide)) ?_
    have hf := Option.some.inj hf
    subst hf
    exact ⟨rs_iret i_X8_sheet_31 m_X8_sheet rfl, SH⟩
  · replace hf := (if_neg c2).symm.trans hf
    refine And.imp_left (rs_ifF i_X8_sheet_6 (cf_eq c2)) ?_
    refine And.imp_left (rs_iload_n i_X8_sheet_9 rfl) ?_
    refine And.imp_left (rs_iconst i_X8_sheet_10 (v := (-1)) (by decide)) ?_
    refine And.imp_left (rs_iconst i_X8_sheet_11 (v := 2) (by decide)) ?_
    obtain ⟨o3, e3, hf⟩ := bind_some hf
    obtain ⟨u3, SH2⟩ := k_X8_in (X := X) (d := d) (by omega) (by omega) SH e3
    refine And.imp_left (rs_inS i_X8_sheet_12 (by decide) m_X8_in rfl (As := [.int v2, .int (-1), .int 2]) (rest := []) rfl rfl (Nat.le_of_ble_eq_true rfl) u3 (st' := [.int o3.1]) rfl) ?_
    clear SH; have SH := SH2; clear SH2
    by_cases c4 : o3.1 = 0
    · replace hf := (if_pos c4).symm.trans hf
      refine And.imp_left (rs_ifT i_X8_sheet_15 (ct_eq c4) (tg := 29) (by decide)) ?_
      refine And.imp_left (rs_bipush i_X8_sheet_29 (v := (-2)) (by decide)) ?_
      have hf := Option.some.inj hf
      subst hf
      exact ⟨rs_iret i_X8_sheet_31 m_X8_sheet rfl, SH⟩
    · replace hf := (if_neg c4).symm.trans hf
      refine And.imp_left (rs_ifF i_X8_sheet_15 (cf_eq c4)) ?_
      refine And.imp_left (rs_iload_n i_X8_sheet_18 rfl) ?_
      refine And.imp_left (rs_iconst i_X8_sheet_19 (v := (-1)) (by decide)) ?_
      by_cases c5 : v2 = (-1)
      · replace hf := (if_pos c5).symm.trans hf
        refine And.imp_left (rs_icT i_X8_sheet_20 (ct_eq c5) (tg := 32) (by decide)) ?_
        exact q_X8_sheet_32 hd hh SH hf
      · replace hf := (if_neg c5).symm.trans hf
        refine And.imp_left (rs_icF i_X8_sheet_20 (cf_eq c5)) ?_
        refine And.imp_left (rs_iload_n i_X8_sheet_23 rfl) ?_
        refine And.imp_left (rs_bipush i_X8_sheet_24 (v := 40) (by decide)) ?_
        by_cases c6 : v3 ≤ 40
        · replace hf := (if_pos c6).symm.trans hf
          refine And.imp_left (rs_icT i_X8_sheet_26 (ct_le c6) (tg := 32) (by decide)) ?_
          exact q_X8_sheet_32 hd hh SH hf
        · replace hf := (if_neg c6).symm.trans hf
          refine And.imp_left (rs_icF i_X8_sheet_26 (cf_le c6)) ?_
          refine And.imp_left (rs_bipush i_X8_sheet_29 (v := (-2)) (by decide)) ?_
          have hf := Option.some.inj hf
          subst hf
          exact ⟨rs_iret i_X8_sheet_31 m_X8_sheet rfl, SH⟩
noncomputable def g_X8_sheet (n : Nat) (v1 : Int32) (v2 : Int32) (v3 : Int32) (h : Hp) : Option (Int32 × Hp) := g_X8_sheet_0 n v1 v2 v3 h
theorem k_X8_sheet {X : Nat → Int32} {d : Nat} (hd : 1 ≤ d) {L hi : Nat} (hh : 125 ≤ hi) {n : Nat} {v1 : Int32} {v2 : Int32} {v3 : Int32} {h : Hp} {o : (Int32 × Hp)}  (SH : SHP L hi h) (hf : g_X8_sheet n v1 v2 v3 h = some o) : Calls X d 213 [.ref 96, .int v1, .int v2, .int v3] h (some (.int o.1), o.2) ∧ SHP L hi o.2 := by
  obtain ⟨d, rfl⟩ : ∃ z, d = z + 1 := ⟨d - 1, by omega⟩
  obtain ⟨r, S2⟩ := q_X8_sheet_0 hd hh SH hf
  exact ⟨⟨_, rfl, r⟩, S2⟩
noncomputable def g_X8_cell_84 (s0 : Nat) (s1 : Int32) (s2 : Int32) (h : Hp) : Option (Int32 × Hp) :=
  if inb s1 160 = true then
  some (1, (hsi h s0 (ix s1) s2))
  else none
set_option maxRecDepth 100000 in
set_option maxHeartbeats 4000000 in
theorem q_X8_cell_84 {X : Nat → Int32} {d : Nat} (hd : 1 ≤ (d + 1)) {L hi : Nat} (hh : 125 ≤ hi) {s0 : Nat} {s1 : Int32} {s2 : Int32} {d1 : Int32} {d2 : Int32} {d3 : Int32} {h : Hp} {o : (Int32 × Hp)} (hs0 : ARY 125 s0 9 160) (SH : SHP L hi h) (hf : g_X8_cell_84 s0 s1 s2 h = some o) : Run X (d + 1) 214 84 [some (.ref 96), some (.int d1), some (.int d2), some (.int d3)] [.int s2, .int s1, .ref s0] h (some (.int o.1), o.2) ∧ SHP L hi o.2 := by
  unfold g_X8_cell_84 at hf
  obtain ⟨c1, hf⟩ := ite_some hf
  refine And.imp_left (rs_iast i_X8_cell_84 (mkI (sA SH hh (k := 9) (n := 160) hs0) c1)) ?_
  have SH := shi SH s0 (ix s1) s2
  refine And.imp_left (rs_iconst i_X8_cell_85 (v := 1) (by decide)) ?_
  have hf := Option.some.inj hf
  subst hf
  exact ⟨rs_iret i_X8_cell_86 m_X8_cell rfl, SH⟩
noncomputable def g_X8_cell_0 (v1 : Int32) (v2 : Int32) (v3 : Int32) (h : Hp) : Option (Int32 × Hp) :=
  (g_X8_in v1 0 3 h).bind fun o1 =>
  if o1.1 ≠ 0 then
    if inb v1 4 = true then
    if (gI o1.2 107 (ix v1)) ≠ (-1) then
      (g_X8_in v2 0 ((gI o1.2 108 (ix v1)) - 1) o1.2).bind fun o5 =>
      if o5.1 ≠ 0 then
        if (gI o5.2 107 (ix v1)) ≠ 0 then
          if (gI o5.2 107 (ix v1)) ≠ 1 then
            g_X8_cell_84 109 ((40 * v1) + v2) v3 o5.2
          else
            g_X8_cell_84 109 ((40 * v1) + v2) ((Int32.toInt16 v3).toInt32) o5.2
        else
          g_X8_cell_84 109 ((40 * v1) + v2) ((Int32.toInt8 v3).toInt32) o5.2
      else
        some ((-12), o5.2)
    else
      some ((-11), o1.2)
    else none
  else
    some ((-2), o1.2)
set_option maxRecDepth 100000 in
set_option maxHeartbeats 4000000 in
theorem q_X8_cell_0 {X : Nat → Int32} {d : Nat} (hd : 1 ≤ (d + 1)) {L hi : Nat} (hh : 125 ≤ hi) {v1 : Int32} {v2 : Int32} {v3 : Int32} {h : Hp} {o : (Int32 × Hp)}  (SH : SHP L hi h) (hf : g_X8_cell_0 v1 v2 v3 h = some o) : Run X (d + 1) 214 0 [some (.ref 96), some (.int v1), some (.int v2), some (.int v3)] [] h (some (.int o.1), o.2) ∧ SHP L hi o.2 := by
  unfold g_X8_cell_0 at hf
  refine And.imp_left (rs_iload_n i_X8_cell_0 rfl) ?_
  refine And.imp_left (rs_iconst i_X8_cell_1 (v := 0) (by decide)) ?_
  refine And.imp_left (rs_iconst i_X8_cell_2 (v := 3) (by decide)) ?_
  obtain ⟨o1, e1, hf⟩ := bind_some hf
  obtain ⟨u1, SH2⟩ := k_X8_in (X := X) (d := d) (by omega) (by omega) SH e1
  refine And.imp_left (rs_inS i_X8_cell_3 (by decide) m_X8_in rfl (As := [.int v1, .int 0, .int 3]) (rest := []) rfl rfl (Nat.le_of_ble_eq_true rfl) u1 (st' := [.int o1.1]) rfl) ?_
  clear SH; have SH := SH2; clear SH2
  by_cases c2 : o1.1 ≠ 0
  · replace hf := (if_pos c2).symm.trans hf
    refine And.imp_left (rs_ifT i_X8_cell_6 (ct_ne c2) (tg := 12) (by decide)) ?_
    refine And.imp_left (rs_aload_n i_X8_cell_12 rfl) ?_
    refine And.imp_left (rs_getR i_X8_cell_13 (by decide) (by decide) (sO8 SH hh) (sR8_22 SH hh)) ?_
    refine And.imp_left (rs_iload_n i_X8_cell_16 rfl) ?_
    obtain ⟨c3, hf⟩ := ite_some hf
    refine And.imp_left (rs_iald i_X8_cell_17 (mkI (sA SH hh (k := 9) (n := 4) (by decide)) c3)) ?_
    refine And.imp_left (rs_iconst i_X8_cell_18 (v := (-1)) (by decide)) ?_
    by_cases c4 : (gI o1.2 107 (ix v1)) ≠ (-1)
    · replace hf := (if_pos c4).symm.trans hf
      refine And.imp_left (rs_icT i_X8_cell_19 (ct_ne c4) (tg := 25) (by decide)) ?_
      refine And.imp_left (rs_iload_n i_X8_cell_25 rfl) ?_
      refine And.imp_left (rs_iconst i_X8_cell_26 (v := 0) (by decide)) ?_
      refine And.imp_left (rs_aload_n i_X8_cell_27 rfl) ?_
      refine And.imp_left (rs_getR i_X8_cell_28 (by decide) (by decide) (sO8 SH hh) (sR8_23 SH hh)) ?_
      refine And.imp_left (rs_iload_n i_X8_cell_31 rfl) ?_
      refine And.imp_left (rs_iald i_X8_cell_32 (mkI (sA SH hh (k := 9) (n := 4) (by decide)) c3)) ?_
      refine And.imp_left (rs_iconst i_X8_cell_33 (v := 1) (by decide)) ?_
      refine And.imp_left (rs_isub i_X8_cell_34) ?_
      obtain ⟨o5, e5, hf⟩ := bind_some hf
      obtain ⟨u5, SH2⟩ := k_X8_in (X := X) (d := d) (by omega) (by omega) SH e5
      refine And.imp_left (rs_inS i_X8_cell_35 (by decide) m_X8_in rfl (As := [.int v2, .int 0, .int ((gI o1.2 108 (ix v1)) - 1)]) (rest := []) rfl rfl (Nat.le_of_ble_eq_true rfl) u5 (st' := [.int o5.1]) rfl) ?_
      clear SH; have SH := SH2; clear SH2
      by_cases c6 : o5.1 ≠ 0
      · replace hf := (if_pos c6).symm.trans hf
        refine And.imp_left (rs_ifT i_X8_cell_38 (ct_ne c6) (tg := 44) (by decide)) ?_
        refine And.imp_left (rs_aload_n i_X8_cell_44 rfl) ?_
        refine And.imp_left (rs_getR i_X8_cell_45 (by decide) (by decide) (sO8 SH hh) (sR8_24 SH hh)) ?_
        refine And.imp_left (rs_bipush i_X8_cell_48 (v := 40) (by decide)) ?_
        refine And.imp_left (rs_iload_n i_X8_cell_50 rfl) ?_
        refine And.imp_left (rs_imul i_X8_cell_51) ?_
        refine And.imp_left (rs_iload_n i_X8_cell_52 rfl) ?_
        refine And.imp_left (rs_iadd i_X8_cell_53) ?_
        refine And.imp_left (rs_aload_n i_X8_cell_54 rfl) ?_
        refine And.imp_left (rs_getR i_X8_cell_55 (by decide) (by decide) (sO8 SH hh) (sR8_22 SH hh)) ?_
        refine And.imp_left (rs_iload_n i_X8_cell_58 rfl) ?_
        refine And.imp_left (rs_iald i_X8_cell_59 (mkI (sA SH hh (k := 9) (n := 4) (by decide)) c3)) ?_
        by_cases c7 : (gI o5.2 107 (ix v1)) ≠ 0
        · replace hf := (if_pos c7).symm.trans hf
          refine And.imp_left (rs_ifT i_X8_cell_60 (ct_ne c7) (tg := 68) (by decide)) ?_
          refine And.imp_left (rs_aload_n i_X8_cell_68 rfl) ?_
          refine And.imp_left (rs_getR i_X8_cell_69 (by decide) (by decide) (sO8 SH hh) (sR8_22 SH hh)) ?_
          refine And.imp_left (rs_iload_n i_X8_cell_72 rfl) ?_
          refine And.imp_left (rs_iald i_X8_cell_73 (mkI (sA SH hh (k := 9) (n := 4) (by decide)) c3)) ?_
          refine And.imp_left (rs_iconst i_X8_cell_74 (v := 1) (by decide)) ?_
          by_cases c8 : (gI o5.2 107 (ix v1)) ≠ 1
          · replace hf := (if_pos c8).symm.trans hf
            refine And.imp_left (rs_icT i_X8_cell_75 (ct_ne c8) (tg := 83) (by decide)) ?_
            refine And.imp_left (rs_iload_n i_X8_cell_83 rfl) ?_
            exact q_X8_cell_84 hd hh (by decide) SH hf
          · replace hf := (if_neg c8).symm.trans hf
            refine And.imp_left (rs_icF i_X8_cell_75 (cf_ne c8)) ?_
            refine And.imp_left (rs_iload_n i_X8_cell_78 rfl) ?_
            refine And.imp_left (rs_i2s i_X8_cell_79) ?_
            refine And.imp_left (rs_goto i_X8_cell_80 (tg := 84) (by decide)) ?_
            exact q_X8_cell_84 hd hh (by decide) SH hf
        · replace hf := (if_neg c7).symm.trans hf
          refine And.imp_left (rs_ifF i_X8_cell_60 (cf_ne c7)) ?_
          refine And.imp_left (rs_iload_n i_X8_cell_63 rfl) ?_
          refine And.imp_left (rs_i2b i_X8_cell_64) ?_
          refine And.imp_left (rs_goto i_X8_cell_65 (tg := 84) (by decide)) ?_
          exact q_X8_cell_84 hd hh (by decide) SH hf
      · replace hf := (if_neg c6).symm.trans hf
        refine And.imp_left (rs_ifF i_X8_cell_38 (cf_ne c6)) ?_
        refine And.imp_left (rs_bipush i_X8_cell_41 (v := (-12)) (by decide)) ?_
        have hf := Option.some.inj hf
        subst hf
        exact ⟨rs_iret i_X8_cell_43 m_X8_cell rfl, SH⟩
    · replace hf := (if_neg c4).symm.trans hf
      refine And.imp_left (rs_icF i_X8_cell_19 (cf_ne c4)) ?_
      refine And.imp_left (rs_bipush i_X8_cell_22 (v := (-11)) (by decide)) ?_
      have hf := Option.some.inj hf
      subst hf
      exact ⟨rs_iret i_X8_cell_24 m_X8_cell rfl, SH⟩
  · replace hf := (if_neg c2).symm.trans hf
    refine And.imp_left (rs_ifF i_X8_cell_6 (cf_ne c2)) ?_
    refine And.imp_left (rs_bipush i_X8_cell_9 (v := (-2)) (by decide)) ?_
    have hf := Option.some.inj hf
    subst hf
    exact ⟨rs_iret i_X8_cell_11 m_X8_cell rfl, SH⟩
noncomputable def g_X8_cell (v1 : Int32) (v2 : Int32) (v3 : Int32) (h : Hp) : Option (Int32 × Hp) := g_X8_cell_0 v1 v2 v3 h
theorem k_X8_cell {X : Nat → Int32} {d : Nat} (hd : 1 ≤ d) {L hi : Nat} (hh : 125 ≤ hi) {v1 : Int32} {v2 : Int32} {v3 : Int32} {h : Hp} {o : (Int32 × Hp)}  (SH : SHP L hi h) (hf : g_X8_cell v1 v2 v3 h = some o) : Calls X d 214 [.ref 96, .int v1, .int v2, .int v3] h (some (.int o.1), o.2) ∧ SHP L hi o.2 := by
  obtain ⟨d, rfl⟩ : ∃ z, d = z + 1 := ⟨d - 1, by omega⟩
  obtain ⟨r, S2⟩ := q_X8_cell_0 hd hh SH hf
  exact ⟨⟨_, rfl, r⟩, S2⟩
noncomputable def g_X8_copy_173 (n : Nat) (K147 : Int32 → Int32 → Int32 → Int32 → Hp → Option (Int32 × Hp)) (v5 : Int32) (v6 : Int32) (v7 : Int32) (v8 : Int32) (s0 : Int32) (h : Hp) : Option (Int32 × Hp) :=
  if inb (v6 + s0) 160 = true then
  if inb (v7 + s0) 160 = true then
  K147 v5 v6 v7 (v8 + 1) (hsi h 109 (ix (v7 + s0)) (gI h 109 (ix (v6 + s0))))
  else none
  else none
set_option maxRecDepth 100000 in
set_option maxHeartbeats 4000000 in
theorem q_X8_copy_173 {X : Nat → Int32} {d : Nat} (hd : 1 ≤ (d + 1)) {L hi : Nat} (hh : 125 ≤ hi) {n : Nat} {K147 : Int32 → Int32 → Int32 → Int32 → Hp → Option (Int32 × Hp)} (HK147 : ∀ (v5 : Int32) (v6 : Int32) (v7 : Int32) (v8 : Int32) (d1 : Int32) (d2 : Int32) (d3 : Int32) (d4 : Int32) (w9 : Option Value) (h : Hp) (o : (Int32 × Hp)), SHP L hi h → K147 v5 v6 v7 v8 h = some o → Run X (d + 1) 215 147 [some (.ref 96), some (.int d1), some (.int d2), some (.int d3), some (.int d4), some (.int v5), some (.int v6), some (.int v7), some (.int v8), w9] [] h (some (.int o.1), o.2) ∧ SHP L hi o.2) {v5 : Int32} {v6 : Int32} {v7 : Int32} {v8 : Int32} {s0 : Int32} {d1 : Int32} {d2 : Int32} {d3 : Int32} {d4 : Int32} {w9 : Option Value} {h : Hp} {o : (Int32 × Hp)}  (SH : SHP L hi h) (hf : g_X8_copy_173 n K147 v5 v6 v7 v8 s0 h = some o) : Run X (d + 1) 215 173 [some (.ref 96), some (.int d1), some (.int d2), some (.int d3), some (.int d4), some (.int v5), some (.int v6), some (.int v7), some (.int v8), w9] [.int s0] h (some (.int o.1), o.2) ∧ SHP L hi o.2 := by
  unfold g_X8_copy_173 at hf
  refine And.imp_left (rs_istore i_X8_copy_173 (Nat.le_of_ble_eq_true rfl) (lv' := [some (.ref 96), some (.int d1), some (.int d2), some (.int d3), some (.int d4), some (.int v5), some (.int v6), some (.int v7), some (.int v8), some (.int s0)]) rfl) ?_
  refine And.imp_left (rs_aload_n i_X8_copy_175 rfl) ?_
  refine And.imp_left (rs_getR i_X8_copy_176 (by decide) (by decide) (sO8 SH hh) (sR8_24 SH hh)) ?_
  refine And.imp_left (rs_iload i_X8_copy_179 rfl) ?_
  refine And.imp_left (rs_iload i_X8_copy_181 rfl) ?_
  refine And.imp_left (rs_iadd i_X8_copy_183) ?_
  refine And.imp_left (rs_aload_n i_X8_copy_184 rfl) ?_
  refine And.imp_left (rs_getR i_X8_copy_185 (by decide) (by decide) (sO8 SH hh) (sR8_24 SH hh)) ?_
  refine And.imp_left (rs_iload i_X8_copy_188 rfl) ?_
  refine And.imp_left (rs_iload i_X8_copy_190 rfl) ?_
  refine And.imp_left (rs_iadd i_X8_copy_192) ?_
  obtain ⟨c1, hf⟩ := ite_some hf
  refine And.imp_left (rs_iald i_X8_copy_193 (mkI (sA SH hh (k := 9) (n := 160) (by decide)) c1)) ?_
  obtain ⟨c2, hf⟩ := ite_some hf
  refine And.imp_left (rs_iast i_X8_copy_194 (mkI (sA SH hh (k := 9) (n := 160) (by decide)) c2)) ?_
  have SH := shi SH 109 (ix (v7 + s0)) (gI h 109 (ix (v6 + s0)))
  refine And.imp_left (rs_iinc i_X8_copy_195 rfl (v := v8 + 1) rfl (Nat.le_of_ble_eq_true rfl) (lv' := [some (.ref 96), some (.int d1), some (.int d2), some (.int d3), some (.int d4), some (.int v5), some (.int v6), some (.int v7), some (.int (v8 + 1)), some (.int s0)]) rfl) ?_
  refine And.imp_left (rs_goto i_X8_copy_198 (tg := 147) (by decide)) ?_
  exact HK147 _ _ _ _ _ _ _ _ _ _ _ SH hf
noncomputable def g_X8_copy_147 (n : Nat) : Nat → Int32 → Int32 → Int32 → Int32 → Hp → Option (Int32 × Hp)
  | 0, _, _, _, _, _ => none
  | m + 1, v5, v6, v7, v8, h =>
    if v5 ≤ v8 then
      some (v5, h)
    else
      if v7 ≤ v6 then
        g_X8_copy_173 n (g_X8_copy_147 n m) v5 v6 v7 v8 v8 h
      else
        g_X8_copy_173 n (g_X8_copy_147 n m) v5 v6 v7 v8 ((v5 - 1) - v8) h
set_option maxRecDepth 100000 in
set_option maxHeartbeats 4000000 in
theorem q_X8_copy_147 {X : Nat → Int32} {d : Nat} (hd : 1 ≤ (d + 1)) {L hi : Nat} (hh : 125 ≤ hi) {n : Nat} : ∀ (m : Nat) (v5 : Int32) (v6 : Int32) (v7 : Int32) (v8 : Int32) (d1 : Int32) (d2 : Int32) (d3 : Int32) (d4 : Int32) (w9 : Option Value) (h : Hp) (o : (Int32 × Hp)), SHP L hi h → g_X8_copy_147 n m v5 v6 v7 v8 h = some o → Run X (d + 1) 215 147 [some (.ref 96), some (.int d1), some (.int d2), some (.int d3), some (.int d4), some (.int v5), some (.int v6), some (.int v7), some (.int v8), w9] [] h (some (.int o.1), o.2) ∧ SHP L hi o.2 := by
  intro m
  induction m with
  | zero => intro v5 v6 v7 v8 d1 d2 d3 d4 w9 h o SH hf; cases hf
  | succ m ih =>
    intro v5 v6 v7 v8 d1 d2 d3 d4 w9 h o SH hf
    rw [g_X8_copy_147] at hf
    refine And.imp_left (rs_iload i_X8_copy_147 rfl) ?_
    refine And.imp_left (rs_iload i_X8_copy_149 rfl) ?_
    by_cases c1 : v5 ≤ v8
    · replace hf := (if_pos c1).symm.trans hf
      refine And.imp_left (rs_icT i_X8_copy_151 (ct_ge c1) (tg := 201) (by decide)) ?_
      refine And.imp_left (rs_iload i_X8_copy_201 rfl) ?_
      have hf := Option.some.inj hf
      subst hf
      exact ⟨rs_iret i_X8_copy_203 m_X8_copy rfl, SH⟩
    · replace hf := (if_neg c1).symm.trans hf
      refine And.imp_left (rs_icF i_X8_copy_151 (cf_ge c1)) ?_
      refine And.imp_left (rs_iload i_X8_copy_154 rfl) ?_
      refine And.imp_left (rs_iload i_X8_copy_156 rfl) ?_
      by_cases c2 : v7 ≤ v6
      · replace hf := (if_pos c2).symm.trans hf
        refine And.imp_left (rs_icT i_X8_copy_158 (ct_ge c2) (tg := 171) (by decide)) ?_
        refine And.imp_left (rs_iload i_X8_copy_171 rfl) ?_
        exact q_X8_copy_173 hd hh ih SH hf
      · replace hf := (if_neg c2).symm.trans hf
        refine And.imp_left (rs_icF i_X8_copy_158 (cf_ge c2)) ?_
        refine And.imp_left (rs_iload i_X8_copy_161 rfl) ?_
        refine And.imp_left (rs_iconst i_X8_copy_163 (v := 1) (by decide)) ?_
        refine And.imp_left (rs_isub i_X8_copy_164) ?_
        refine And.imp_left (rs_iload i_X8_copy_165 rfl) ?_
        refine And.imp_left (rs_isub i_X8_copy_167) ?_
        refine And.imp_left (rs_goto i_X8_copy_168 (tg := 173) (by decide)) ?_
        exact q_X8_copy_173 hd hh ih SH hf
noncomputable def g_X8_copy_0 (n : Nat) (v1 : Int32) (v2 : Int32) (v3 : Int32) (v4 : Int32) (v5 : Int32) (h : Hp) : Option (Int32 × Hp) :=
  (g_X8_in v1 0 3 h).bind fun o1 =>
  if o1.1 = 0 then
    some ((-2), o1.2)
  else
    (g_X8_in v3 0 3 o1.2).bind fun o3 =>
    if o3.1 ≠ 0 then
      if inb v1 4 = true then
      if (gI o3.2 107 (ix v1)) = (-1) then
        some ((-11), o3.2)
      else
        if inb v3 4 = true then
        if (gI o3.2 107 (ix v3)) ≠ (-1) then
          if (gI o3.2 107 (ix v1)) = (gI o3.2 107 (ix v3)) then
            if v5 < 0 then
              some ((-12), o3.2)
            else
              if v2 < 0 then
                some ((-12), o3.2)
              else
                if v4 < 0 then
                  some ((-12), o3.2)
                else
                  if (gI o3.2 108 (ix v1)) < v2 then
                    some ((-12), o3.2)
                  else
                    if (gI o3.2 108 (ix v3)) < v4 then
                      some ((-12), o3.2)
                    else
                      if ((gI o3.2 108 (ix v1)) - v2) < v5 then
                        some ((-12), o3.2)
                      else
                        if v5 ≤ ((gI o3.2 108 (ix v3)) - v4) then
                          g_X8_copy_147 n n v5 ((40 * v1) + v2) ((40 * v3) + v4) 0 o3.2
                        else
                          some ((-12), o3.2)
          else
            some ((-13), o3.2)
        else
          some ((-11), o3.2)
        else none
      else none
    else
      some ((-2), o3.2)
set_option maxRecDepth 100000 in
set_option maxHeartbeats 4000000 in
theorem q_X8_copy_0 {X : Nat → Int32} {d : Nat} (hd : 1 ≤ (d + 1)) {L hi : Nat} (hh : 125 ≤ hi) {n : Nat} {v1 : Int32} {v2 : Int32} {v3 : Int32} {v4 : Int32} {v5 : Int32} {h : Hp} {o : (Int32 × Hp)}  (SH : SHP L hi h) (hf : g_X8_copy_0 n v1 v2 v3 v4 v5 h = some o) : Run X (d + 1) 215 0 [some (.ref 96), some (.int v1), some (.int v2), some (.int v3), some (.int v4), some (.int v5), none, none, none, none] [] h (some (.int o.1), o.2) ∧ SHP L hi o.2 := by
  unfold g_X8_copy_0 at hf
  refine And.imp_left (rs_iload_n i_X8_copy_0 rfl) ?_
  refine And.imp_left (rs_iconst i_X8_copy_1 (v := 0) (by decide)) ?_
  refine And.imp_left (rs_iconst i_X8_copy_2 (v := 3) (by decide)) ?_
  obtain ⟨o1, e1, hf⟩ := bind_some hf
  obtain ⟨u1, SH2⟩ := k_X8_in (X := X) (d := d) (by omega) (by omega) SH e1
  refine And.imp_left (rs_inS i_X8_copy_3 (by decide) m_X8_in rfl (As := [.int v1, .int 0, .int 3]) (rest := []) rfl rfl (Nat.le_of_ble_eq_true rfl) u1 (st' := [.int o1.1]) rfl) ?_
  clear SH; have SH := SH2; clear SH2
  by_cases c2 : o1.1 = 0
  · replace hf := (if_pos c2).symm.trans hf
    refine And.imp_left (rs_ifT i_X8_copy_6 (ct_eq c2) (tg := 18) (by decide)) ?_
    refine And.imp_left (rs_bipush i_X8_copy_18 (v := (-2)) (by decide)) ?_
    have hf := Option.some.inj hf
    subst hf
    exact ⟨rs_iret i_X8_copy_20 m_X8_copy rfl, SH⟩
  · replace hf := (if_neg c2).symm.trans hf
    refine And.imp_left (rs_ifF i_X8_copy_6 (cf_eq c2)) ?_
    refine And.imp_left (rs_iload_n i_X8_copy_9 rfl) ?_
    refine And.imp_left (rs_iconst i_X8_copy_10 (v := 0) (by decide)) ?_
    refine And.imp_left (rs_iconst i_X8_copy_11 (v := 3) (by decide)) ?_
    obtain ⟨o3, e3, hf⟩ := bind_some hf
    obtain ⟨u3, SH2⟩ := k_X8_in (X := X) (d := d) (by omega) (by omega) SH e3
    refine And.imp_left (rs_inS i_X8_copy_12 (by decide) m_X8_in rfl (As := [.int v3, .int 0, .int 3]) (rest := []) rfl rfl (Nat.le_of_ble_eq_true rfl) u3 (st' := [.int o3.1]) rfl) ?_
    clear SH; have SH := SH2; clear SH2
    by_cases c4 : o3.1 ≠ 0
    · replace hf := (if_pos c4).symm.trans hf
      refine And.imp_left (rs_ifT i_X8_copy_15 (ct_ne c4) (tg := 21) (by decide)) ?_
      refine And.imp_left (rs_aload_n i_X8_copy_21 rfl) ?_
      refine And.imp_left (rs_getR i_X8_copy_22 (by decide) (by decide) (sO8 SH hh) (sR8_22 SH hh)) ?_
      refine And.imp_left (rs_iload_n i_X8_copy_25 rfl) ?_
      obtain ⟨c5, hf⟩ := ite_some hf
      refine And.imp_left (rs_iald i_X8_copy_26 (mkI (sA SH hh (k := 9) (n := 4) (by decide)) c5)) ?_
      refine And.imp_left (rs_iconst i_X8_copy_27 (v := (-1)) (by decide)) ?_
      by_cases c6 : (gI o3.2 107 (ix v1)) = (-1)
      · replace hf := (if_pos c6).symm.trans hf
        refine And.imp_left (rs_icT i_X8_copy_28 (ct_eq c6) (tg := 41) (by decide)) ?_
        refine And.imp_left (rs_bipush i_X8_copy_41 (v := (-11)) (by decide)) ?_
        have hf := Option.some.inj hf
        subst hf
        exact ⟨rs_iret i_X8_copy_43 m_X8_copy rfl, SH⟩
      · replace hf := (if_neg c6).symm.trans hf
        refine And.imp_left (rs_icF i_X8_copy_28 (cf_eq c6)) ?_
        refine And.imp_left (rs_aload_n i_X8_copy_31 rfl) ?_
        refine And.imp_left (rs_getR i_X8_copy_32 (by decide) (by decide) (sO8 SH hh) (sR8_22 SH hh)) ?_
        refine And.imp_left (rs_iload_n i_X8_copy_35 rfl) ?_
        obtain ⟨c7, hf⟩ := ite_some hf
        refine And.imp_left (rs_iald i_X8_copy_36 (mkI (sA SH hh (k := 9) (n := 4) (by decide)) c7)) ?_
        refine And.imp_left (rs_iconst i_X8_copy_37 (v := (-1)) (by decide)) ?_
        by_cases c8 : (gI o3.2 107 (ix v3)) ≠ (-1)
        · replace hf := (if_pos c8).symm.trans hf
          refine And.imp_left (rs_icT i_X8_copy_38 (ct_ne c8) (tg := 44) (by decide)) ?_
          refine And.imp_left (rs_aload_n i_X8_copy_44 rfl) ?_
          refine And.imp_left (rs_getR i_X8_copy_45 (by decide) (by decide) (sO8 SH hh) (sR8_22 SH hh)) ?_
          refine And.imp_left (rs_iload_n i_X8_copy_48 rfl) ?_
          refine And.imp_left (rs_iald i_X8_copy_49 (mkI (sA SH hh (k := 9) (n := 4) (by decide)) c5)) ?_
          refine And.imp_left (rs_aload_n i_X8_copy_50 rfl) ?_
          refine And.imp_left (rs_getR i_X8_copy_51 (by decide) (by decide) (sO8 SH hh) (sR8_22 SH hh)) ?_
          refine And.imp_left (rs_iload_n i_X8_copy_54 rfl) ?_
          refine And.imp_left (rs_iald i_X8_copy_55 (mkI (sA SH hh (k := 9) (n := 4) (by decide)) c7)) ?_
          by_cases c9 : (gI o3.2 107 (ix v1)) = (gI o3.2 107 (ix v3))
          · replace hf := (if_pos c9).symm.trans hf
            refine And.imp_left (rs_icT i_X8_copy_56 (ct_eq c9) (tg := 62) (by decide)) ?_
            refine And.imp_left (rs_iload i_X8_copy_62 rfl) ?_
            by_cases c10 : v5 < 0
            · replace hf := (if_pos c10).symm.trans hf
              refine And.imp_left (rs_ifT i_X8_copy_64 (ct_lt c10) (tg := 124) (by decide)) ?_
              refine And.imp_left (rs_bipush i_X8_copy_124 (v := (-12)) (by decide)) ?_
              have hf := Option.some.inj hf
              subst hf
              exact ⟨rs_iret i_X8_copy_126 m_X8_copy rfl, SH⟩
            · replace hf := (if_neg c10).symm.trans hf
              refine And.imp_left (rs_ifF i_X8_copy_64 (cf_lt c10)) ?_
              refine And.imp_left (rs_iload_n i_X8_copy_67 rfl) ?_
              by_cases c11 : v2 < 0
              · replace hf := (if_pos c11).symm.trans hf
                refine And.imp_left (rs_ifT i_X8_copy_68 (ct_lt c11) (tg := 124) (by decide)) ?_
                refine And.imp_left (rs_bipush i_X8_copy_124 (v := (-12)) (by decide)) ?_
                have hf := Option.some.inj hf
                subst hf
                exact ⟨rs_iret i_X8_copy_126 m_X8_copy rfl, SH⟩
              · replace hf := (if_neg c11).symm.trans hf
                refine And.imp_left (rs_ifF i_X8_copy_68 (cf_lt c11)) ?_
                refine And.imp_left (rs_iload i_X8_copy_71 rfl) ?_
                by_cases c12 : v4 < 0
                · replace hf := (if_pos c12).symm.trans hf
                  refine And.imp_left (rs_ifT i_X8_copy_73 (ct_lt c12) (tg := 124) (by decide)) ?_
                  refine And.imp_left (rs_bipush i_X8_copy_124 (v := (-12)) (by decide)) ?_
                  have hf := Option.some.inj hf
                  subst hf
                  exact ⟨rs_iret i_X8_copy_126 m_X8_copy rfl, SH⟩
                · replace hf := (if_neg c12).symm.trans hf
                  refine And.imp_left (rs_ifF i_X8_copy_73 (cf_lt c12)) ?_
                  refine And.imp_left (rs_iload_n i_X8_copy_76 rfl) ?_
                  refine And.imp_left (rs_aload_n i_X8_copy_77 rfl) ?_
                  refine And.imp_left (rs_getR i_X8_copy_78 (by decide) (by decide) (sO8 SH hh) (sR8_23 SH hh)) ?_
                  refine And.imp_left (rs_iload_n i_X8_copy_81 rfl) ?_
                  refine And.imp_left (rs_iald i_X8_copy_82 (mkI (sA SH hh (k := 9) (n := 4) (by decide)) c5)) ?_
                  by_cases c13 : (gI o3.2 108 (ix v1)) < v2
                  · replace hf := (if_pos c13).symm.trans hf
                    refine And.imp_left (rs_icT i_X8_copy_83 (ct_gt c13) (tg := 124) (by decide)) ?_
                    refine And.imp_left (rs_bipush i_X8_copy_124 (v := (-12)) (by decide)) ?_
                    have hf := Option.some.inj hf
                    subst hf
                    exact ⟨rs_iret i_X8_copy_126 m_X8_copy rfl, SH⟩
                  · replace hf := (if_neg c13).symm.trans hf
                    refine And.imp_left (rs_icF i_X8_copy_83 (cf_gt c13)) ?_
                    refine And.imp_left (rs_iload i_X8_copy_86 rfl) ?_
                    refine And.imp_left (rs_aload_n i_X8_copy_88 rfl) ?_
                    refine And.imp_left (rs_getR i_X8_copy_89 (by decide) (by decide) (sO8 SH hh) (sR8_23 SH hh)) ?_
                    refine And.imp_left (rs_iload_n i_X8_copy_92 rfl) ?_
                    refine And.imp_left (rs_iald i_X8_copy_93 (mkI (sA SH hh (k := 9) (n := 4) (by decide)) c7)) ?_
                    by_cases c14 : (gI o3.2 108 (ix v3)) < v4
                    · replace hf := (if_pos c14).symm.trans hf
                      refine And.imp_left (rs_icT i_X8_copy_94 (ct_gt c14) (tg := 124) (by decide)) ?_
                      refine And.imp_left (rs_bipush i_X8_copy_124 (v := (-12)) (by decide)) ?_
                      have hf := Option.some.inj hf
                      subst hf
                      exact ⟨rs_iret i_X8_copy_126 m_X8_copy rfl, SH⟩
                    · replace hf := (if_neg c14).symm.trans hf
                      refine And.imp_left (rs_icF i_X8_copy_94 (cf_gt c14)) ?_
                      refine And.imp_left (rs_iload i_X8_copy_97 rfl) ?_
                      refine And.imp_left (rs_aload_n i_X8_copy_99 rfl) ?_
                      refine And.imp_left (rs_getR i_X8_copy_100 (by decide) (by decide) (sO8 SH hh) (sR8_23 SH hh)) ?_
                      refine And.imp_left (rs_iload_n i_X8_copy_103 rfl) ?_
                      refine And.imp_left (rs_iald i_X8_copy_104 (mkI (sA SH hh (k := 9) (n := 4) (by decide)) c5)) ?_
                      refine And.imp_left (rs_iload_n i_X8_copy_105 rfl) ?_
                      refine And.imp_left (rs_isub i_X8_copy_106) ?_
                      by_cases c15 : ((gI o3.2 108 (ix v1)) - v2) < v5
                      · replace hf := (if_pos c15).symm.trans hf
                        refine And.imp_left (rs_icT i_X8_copy_107 (ct_gt c15) (tg := 124) (by decide)) ?_
                        refine And.imp_left (rs_bipush i_X8_copy_124 (v := (-12)) (by decide)) ?_
                        have hf := Option.some.inj hf
                        subst hf
                        exact ⟨rs_iret i_X8_copy_126 m_X8_copy rfl, SH⟩
                      · replace hf := (if_neg c15).symm.trans hf
                        refine And.imp_left (rs_icF i_X8_copy_107 (cf_gt c15)) ?_
                        refine And.imp_left (rs_iload i_X8_copy_110 rfl) ?_
                        refine And.imp_left (rs_aload_n i_X8_copy_112 rfl) ?_
                        refine And.imp_left (rs_getR i_X8_copy_113 (by decide) (by decide) (sO8 SH hh) (sR8_23 SH hh)) ?_
                        refine And.imp_left (rs_iload_n i_X8_copy_116 rfl) ?_
                        refine And.imp_left (rs_iald i_X8_copy_117 (mkI (sA SH hh (k := 9) (n := 4) (by decide)) c7)) ?_
                        refine And.imp_left (rs_iload i_X8_copy_118 rfl) ?_
                        refine And.imp_left (rs_isub i_X8_copy_120) ?_
                        by_cases c16 : v5 ≤ ((gI o3.2 108 (ix v3)) - v4)
                        · replace hf := (if_pos c16).symm.trans hf
                          refine And.imp_left (rs_icT i_X8_copy_121 (ct_le c16) (tg := 127) (by decide)) ?_
                          refine And.imp_left (rs_bipush i_X8_copy_127 (v := 40) (by decide)) ?_
                          refine And.imp_left (rs_iload_n i_X8_copy_129 rfl) ?_
                          refine And.imp_left (rs_imul i_X8_copy_130) ?_
                          refine And.imp_left (rs_iload_n i_X8_copy_131 rfl) ?_
                          refine And.imp_left (rs_iadd i_X8_copy_132) ?_
                          refine And.imp_left (rs_istore i_X8_copy_133 (Nat.le_of_ble_eq_true rfl) (lv' := [some (.ref 96), some (.int v1), some (.int v2), some (.int v3), some (.int v4), some (.int v5), some (.int ((40 * v1) + v2)), none, none, none]) rfl) ?_
                          refine And.imp_left (rs_bipush i_X8_copy_135 (v := 40) (by decide)) ?_
                          refine And.imp_left (rs_iload_n i_X8_copy_137 rfl) ?_
                          refine And.imp_left (rs_imul i_X8_copy_138) ?_
                          refine And.imp_left (rs_iload i_X8_copy_139 rfl) ?_
                          refine And.imp_left (rs_iadd i_X8_copy_141) ?_
                          refine And.imp_left (rs_istore i_X8_copy_142 (Nat.le_of_ble_eq_true rfl) (lv' := [some (.ref 96), some (.int v1), some (.int v2), some (.int v3), some (.int v4), some (.int v5), some (.int ((40 * v1) + v2)), some (.int ((40 * v3) + v4)), none, none]) rfl) ?_
                          refine And.imp_left (rs_iconst i_X8_copy_144 (v := 0) (by decide)) ?_
                          refine And.imp_left (rs_istore i_X8_copy_145 (Nat.le_of_ble_eq_true rfl) (lv' := [some (.ref 96), some (.int v1), some (.int v2), some (.int v3), some (.int v4), some (.int v5), some (.int ((40 * v1) + v2)), some (.int ((40 * v3) + v4)), some (.int 0), none]) rfl) ?_
                          exact q_X8_copy_147 hd hh _ _ _ _ _ _ _ _ _ _ _ _ SH hf
                        · replace hf := (if_neg c16).symm.trans hf
                          refine And.imp_left (rs_icF i_X8_copy_121 (cf_le c16)) ?_
                          refine And.imp_left (rs_bipush i_X8_copy_124 (v := (-12)) (by decide)) ?_
                          have hf := Option.some.inj hf
                          subst hf
                          exact ⟨rs_iret i_X8_copy_126 m_X8_copy rfl, SH⟩
          · replace hf := (if_neg c9).symm.trans hf
            refine And.imp_left (rs_icF i_X8_copy_56 (cf_eq c9)) ?_
            refine And.imp_left (rs_bipush i_X8_copy_59 (v := (-13)) (by decide)) ?_
            have hf := Option.some.inj hf
            subst hf
            exact ⟨rs_iret i_X8_copy_61 m_X8_copy rfl, SH⟩
        · replace hf := (if_neg c8).symm.trans hf
          refine And.imp_left (rs_icF i_X8_copy_38 (cf_ne c8)) ?_
          refine And.imp_left (rs_bipush i_X8_copy_41 (v := (-11)) (by decide)) ?_
          have hf := Option.some.inj hf
          subst hf
          exact ⟨rs_iret i_X8_copy_43 m_X8_copy rfl, SH⟩
    · replace hf := (if_neg c4).symm.trans hf
      refine And.imp_left (rs_ifF i_X8_copy_15 (cf_ne c4)) ?_
      refine And.imp_left (rs_bipush i_X8_copy_18 (v := (-2)) (by decide)) ?_
      have hf := Option.some.inj hf
      subst hf
      exact ⟨rs_iret i_X8_copy_20 m_X8_copy rfl, SH⟩
noncomputable def g_X8_copy (n : Nat) (v1 : Int32) (v2 : Int32) (v3 : Int32) (v4 : Int32) (v5 : Int32) (h : Hp) : Option (Int32 × Hp) := g_X8_copy_0 n v1 v2 v3 v4 v5 h
theorem k_X8_copy {X : Nat → Int32} {d : Nat} (hd : 1 ≤ d) {L hi : Nat} (hh : 125 ≤ hi) {n : Nat} {v1 : Int32} {v2 : Int32} {v3 : Int32} {v4 : Int32} {v5 : Int32} {h : Hp} {o : (Int32 × Hp)}  (SH : SHP L hi h) (hf : g_X8_copy n v1 v2 v3 v4 v5 h = some o) : Calls X d 215 [.ref 96, .int v1, .int v2, .int v3, .int v4, .int v5] h (some (.int o.1), o.2) ∧ SHP L hi o.2 := by
  obtain ⟨d, rfl⟩ : ∃ z, d = z + 1 := ⟨d - 1, by omega⟩
  obtain ⟨r, S2⟩ := q_X8_copy_0 hd hh SH hf
  exact ⟨⟨_, rfl, r⟩, S2⟩
noncomputable def g_X8_stepsBy_153 (n : Nat) (K64 : Int32 → Int32 → Int32 → Int32 → Int32 → Hp → Option (Int32 × Hp)) (v1 : Int32) (v3 : Int32) (v4 : Int32) (v6 : Int32) (s0 : Int32) (s1 : Int32) (h : Hp) : Option (Int32 × Hp) :=
  K64 v1 v3 v4 (s0 + s1) (v6 + 1) h
set_option maxRecDepth 100000 in
set_option maxHeartbeats 4000000 in
theorem q_X8_stepsBy_153 {X : Nat → Int32} {d : Nat} (hd : 2 ≤ (d + 1)) {L hi : Nat} (hh : 125 ≤ hi) {n : Nat} {K64 : Int32 → Int32 → Int32 → Int32 → Int32 → Hp → Option (Int32 × Hp)} (HK64 : ∀ (v1 : Int32) (v3 : Int32) (v4 : Int32) (v5 : Int32) (v6 : Int32) (d2 : Int32) (w7 : Option Value) (w8 : Option Value) (h : Hp) (o : (Int32 × Hp)), SHP L hi h → K64 v1 v3 v4 v5 v6 h = some o → Run X (d + 1) 216 64 [some (.ref 96), some (.int v1), some (.int d2), some (.int v3), some (.int v4), some (.int v5), some (.int v6), w7, w8] [] h (some (.int o.1), o.2) ∧ SHP L hi o.2) {v1 : Int32} {v3 : Int32} {v4 : Int32} {v6 : Int32} {s0 : Int32} {s1 : Int32} {d2 : Int32} {d5 : Int32} {d7 : Int32} {d8 : Int32} {h : Hp} {o : (Int32 × Hp)}  (SH : SHP L hi h) (hf : g_X8_stepsBy_153 n K64 v1 v3 v4 v6 s0 s1 h = some o) : Run X (d + 1) 216 153 [some (.ref 96), some (.int v1), some (.int d2), some (.int v3), some (.int v4), some (.int d5), some (.int v6), some (.int d7), some (.int d8)] [.int s1, .int s0] h (some (.int o.1), o.2) ∧ SHP L hi o.2 := by
  unfold g_X8_stepsBy_153 at hf
  refine And.imp_left (rs_iadd i_X8_stepsBy_153) ?_
  refine And.imp_left (rs_istore i_X8_stepsBy_154 (Nat.le_of_ble_eq_true rfl) (lv' := [some (.ref 96), some (.int v1), some (.int d2), some (.int v3), some (.int v4), some (.int (s0 + s1)), some (.int v6), some (.int d7), some (.int d8)]) rfl) ?_
  refine And.imp_left (rs_iinc i_X8_stepsBy_156 rfl (v := v6 + 1) rfl (Nat.le_of_ble_eq_true rfl) (lv' := [some (.ref 96), some (.int v1), some (.int d2), some (.int v3), some (.int v4), some (.int (s0 + s1)), some (.int (v6 + 1)), some (.int d7), some (.int d8)]) rfl) ?_
  refine And.imp_left (rs_goto i_X8_stepsBy_159 (tg := 64) (by decide)) ?_
  exact HK64 _ _ _ _ _ _ _ _ _ _ SH hf
noncomputable def g_X8_stepsBy_64 (n : Nat) : Nat → Int32 → Int32 → Int32 → Int32 → Int32 → Hp → Option (Int32 × Hp)
  | 0, _, _, _, _, _, _ => none
  | m + 1, v1, v3, v4, v5, v6, h =>
    if v4 ≤ v6 then
      some (v5, h)
    else
      if v3 < 0 then
        some ((-12), h)
      else
        if (v3 + (3 * v6)) < v3 then
          some ((-12), h)
        else
          if inb v1 4 = true then
          if (v3 + (3 * v6)) ≤ ((gI h 108 (ix v1)) - 3) then
            if inb ((40 * v1) + (v3 + (3 * v6))) 160 = true then
            if inb (((40 * v1) + (v3 + (3 * v6))) + 1) 160 = true then
            if inb (((40 * v1) + (v3 + (3 * v6))) + 2) 160 = true then
            (g_X8_step (gI h 109 (ix ((40 * v1) + (v3 + (3 * v6))))) (gI h 109 (ix (((40 * v1) + (v3 + (3 * v6))) + 1))) (gI h 109 (ix (((40 * v1) + (v3 + (3 * v6))) + 2))) h).bind fun o9 =>
            if o9.1 < 0 then
              g_X8_stepsBy_153 n (g_X8_stepsBy_64 n m) v1 v3 v4 v6 v5 0 o9.2
            else
              g_X8_stepsBy_153 n (g_X8_stepsBy_64 n m) v1 v3 v4 v6 v5 1 o9.2
            else none
            else none
            else none
          else
            some ((-12), h)
          else none
set_option maxRecDepth 100000 in
set_option maxHeartbeats 4000000 in
theorem q_X8_stepsBy_64 {X : Nat → Int32} {d : Nat} (hd : 2 ≤ (d + 1)) {L hi : Nat} (hh : 125 ≤ hi) {n : Nat} : ∀ (m : Nat) (v1 : Int32) (v3 : Int32) (v4 : Int32) (v5 : Int32) (v6 : Int32) (d2 : Int32) (w7 : Option Value) (w8 : Option Value) (h : Hp) (o : (Int32 × Hp)), SHP L hi h → g_X8_stepsBy_64 n m v1 v3 v4 v5 v6 h = some o → Run X (d + 1) 216 64 [some (.ref 96), some (.int v1), some (.int d2), some (.int v3), some (.int v4), some (.int v5), some (.int v6), w7, w8] [] h (some (.int o.1), o.2) ∧ SHP L hi o.2 := by
  intro m
  induction m with
  | zero => intro v1 v3 v4 v5 v6 d2 w7 w8 h o SH hf; cases hf
  | succ m ih =>
    intro v1 v3 v4 v5 v6 d2 w7 w8 h o SH hf
    rw [g_X8_stepsBy_64] at hf
    refine And.imp_left (rs_iload i_X8_stepsBy_64 rfl) ?_
    refine And.imp_left (rs_iload i_X8_stepsBy_66 rfl) ?_
    by_cases c1 : v4 ≤ v6
    · replace hf := (if_pos c1).symm.trans hf
      refine And.imp_left (rs_icT i_X8_stepsBy_68 (ct_ge c1) (tg := 162) (by decide)) ?_
      refine And.imp_left (rs_iload i_X8_stepsBy_162 rfl) ?_
      have hf := Option.some.inj hf
      subst hf
      exact ⟨rs_iret i_X8_stepsBy_164 m_X8_stepsBy rfl, SH⟩
    · replace hf := (if_neg c1).symm.trans hf
      refine And.imp_left (rs_icF i_X8_stepsBy_68 (cf_ge c1)) ?_
      refine And.imp_left (rs_iload_n i_X8_stepsBy_71 rfl) ?_
      refine And.imp_left (rs_iconst i_X8_stepsBy_72 (v := 3) (by decide)) ?_
      refine And.imp_left (rs_iload i_X8_stepsBy_73 rfl) ?_
      refine And.imp_left (rs_imul i_X8_stepsBy_75) ?_
      refine And.imp_left (rs_iadd i_X8_stepsBy_76) ?_
      refine And.imp_left (rs_istore i_X8_stepsBy_77 (Nat.le_of_ble_eq_true rfl) (lv' := [some (.ref 96), some (.int v1), some (.int d2), some (.int v3), some (.int v4), some (.int v5), some (.int v6), some (.int (v3 + (3 * v6))), w8]) rfl) ?_
      refine And.imp_left (rs_iload_n i_X8_stepsBy_79 rfl) ?_
      by_cases c2 : v3 < 0
      · replace hf := (if_pos c2).symm.trans hf
        refine And.imp_left (rs_ifT i_X8_stepsBy_80 (ct_lt c2) (tg := 102) (by decide)) ?_
        refine And.imp_left (rs_bipush i_X8_stepsBy_102 (v := (-12)) (by decide)) ?_
        have hf := Option.some.inj hf
        subst hf
        exact ⟨rs_iret i_X8_stepsBy_104 m_X8_stepsBy rfl, SH⟩
      · replace hf := (if_neg c2).symm.trans hf
        refine And.imp_left (rs_ifF i_X8_stepsBy_80 (cf_lt c2)) ?_
        refine And.imp_left (rs_iload i_X8_stepsBy_83 rfl) ?_
        refine And.imp_left (rs_iload_n i_X8_stepsBy_85 rfl) ?_
        by_cases c3 : (v3 + (3 * v6)) < v3
        · replace hf := (if_pos c3).symm.trans hf
          refine And.imp_left (rs_icT i_X8_stepsBy_86 (ct_lt c3) (tg := 102) (by decide)) ?_
          refine And.imp_left (rs_bipush i_X8_stepsBy_102 (v := (-12)) (by decide)) ?_
          have hf := Option.some.inj hf
          subst hf
          exact ⟨rs_iret i_X8_stepsBy_104 m_X8_stepsBy rfl, SH⟩
        · replace hf := (if_neg c3).symm.trans hf
          refine And.imp_left (rs_icF i_X8_stepsBy_86 (cf_lt c3)) ?_
          refine And.imp_left (rs_iload i_X8_stepsBy_89 rfl) ?_
          refine And.imp_left (rs_aload_n i_X8_stepsBy_91 rfl) ?_
          refine And.imp_left (rs_getR i_X8_stepsBy_92 (by decide) (by decide) (sO8 SH hh) (sR8_23 SH hh)) ?_
          refine And.imp_left (rs_iload_n i_X8_stepsBy_95 rfl) ?_
          obtain ⟨c4, hf⟩ := ite_some hf
          refine And.imp_left (rs_iald i_X8_stepsBy_96 (mkI (sA SH hh (k := 9) (n := 4) (by decide)) c4)) ?_
          refine And.imp_left (rs_iconst i_X8_stepsBy_97 (v := 3) (by decide)) ?_
          refine And.imp_left (rs_isub i_X8_stepsBy_98) ?_
          by_cases c5 : (v3 + (3 * v6)) ≤ ((gI h 108 (ix v1)) - 3)
          · replace hf := (if_pos c5).symm.trans hf
            refine And.imp_left (rs_icT i_X8_stepsBy_99 (ct_le c5) (tg := 105) (by decide)) ?_
            refine And.imp_left (rs_bipush i_X8_stepsBy_105 (v := 40) (by decide)) ?_
            refine And.imp_left (rs_iload_n i_X8_stepsBy_107 rfl) ?_
            refine And.imp_left (rs_imul i_X8_stepsBy_108) ?_
            refine And.imp_left (rs_iload i_X8_stepsBy_109 rfl) ?_
            refine And.imp_left (rs_iadd i_X8_stepsBy_111) ?_
            refine And.imp_left (rs_istore i_X8_stepsBy_112 (Nat.le_of_ble_eq_true rfl) (lv' := [some (.ref 96), some (.int v1), some (.int d2), some (.int v3), some (.int v4), some (.int v5), some (.int v6), some (.int (v3 + (3 * v6))), some (.int ((40 * v1) + (v3 + (3 * v6))))]) rfl) ?_
            refine And.imp_left (rs_iload i_X8_stepsBy_114 rfl) ?_
            refine And.imp_left (rs_aload_n i_X8_stepsBy_116 rfl) ?_
            refine And.imp_left (rs_aload_n i_X8_stepsBy_117 rfl) ?_
            refine And.imp_left (rs_getR i_X8_stepsBy_118 (by decide) (by decide) (sO8 SH hh) (sR8_24 SH hh)) ?_
            refine And.imp_left (rs_iload i_X8_stepsBy_121 rfl) ?_
            obtain ⟨c6, hf⟩ := ite_some hf
            refine And.imp_left (rs_iald i_X8_stepsBy_123 (mkI (sA SH hh (k := 9) (n := 160) (by decide)) c6)) ?_
            refine And.imp_left (rs_aload_n i_X8_stepsBy_124 rfl) ?_
            refine And.imp_left (rs_getR i_X8_stepsBy_125 (by decide) (by decide) (sO8 SH hh) (sR8_24 SH hh)) ?_
            refine And.imp_left (rs_iload i_X8_stepsBy_128 rfl) ?_
            refine And.imp_left (rs_iconst i_X8_stepsBy_130 (v := 1) (by decide)) ?_
            refine And.imp_left (rs_iadd i_X8_stepsBy_131) ?_
            obtain ⟨c7, hf⟩ := ite_some hf
            refine And.imp_left (rs_iald i_X8_stepsBy_132 (mkI (sA SH hh (k := 9) (n := 160) (by decide)) c7)) ?_
            refine And.imp_left (rs_aload_n i_X8_stepsBy_133 rfl) ?_
            refine And.imp_left (rs_getR i_X8_stepsBy_134 (by decide) (by decide) (sO8 SH hh) (sR8_24 SH hh)) ?_
            refine And.imp_left (rs_iload i_X8_stepsBy_137 rfl) ?_
            refine And.imp_left (rs_iconst i_X8_stepsBy_139 (v := 2) (by decide)) ?_
            refine And.imp_left (rs_iadd i_X8_stepsBy_140) ?_
            obtain ⟨c8, hf⟩ := ite_some hf
            refine And.imp_left (rs_iald i_X8_stepsBy_141 (mkI (sA SH hh (k := 9) (n := 160) (by decide)) c8)) ?_
            obtain ⟨o9, e9, hf⟩ := bind_some hf
            obtain ⟨u9, SH2⟩ := k_X8_step (X := X) (d := d) (by omega) (by omega) SH e9
            refine And.imp_left (rs_inV i_X8_stepsBy_142 m_X8_step rfl (As := [.int (gI h 109 (ix ((40 * v1) + (v3 + (3 * v6))))), .int (gI h 109 (ix (((40 * v1) + (v3 + (3 * v6))) + 1))), .int (gI h 109 (ix (((40 * v1) + (v3 + (3 * v6))) + 2)))]) (rest := [.int v5]) rfl rfl (Nat.le_of_ble_eq_true rfl) (sO8 SH hh) u9 (st' := [.int o9.1, .int v5]) rfl) ?_
            clear SH; have SH := SH2; clear SH2
            by_cases c10 : o9.1 < 0
            · replace hf := (if_pos c10).symm.trans hf
              refine And.imp_left (rs_ifT i_X8_stepsBy_145 (ct_lt c10) (tg := 152) (by decide)) ?_
              refine And.imp_left (rs_iconst i_X8_stepsBy_152 (v := 0) (by decide)) ?_
              exact q_X8_stepsBy_153 hd hh ih SH hf
            · replace hf := (if_neg c10).symm.trans hf
              refine And.imp_left (rs_ifF i_X8_stepsBy_145 (cf_lt c10)) ?_
              refine And.imp_left (rs_iconst i_X8_stepsBy_148 (v := 1) (by decide)) ?_
              refine And.imp_left (rs_goto i_X8_stepsBy_149 (tg := 153) (by decide)) ?_
              exact q_X8_stepsBy_153 hd hh ih SH hf
          · replace hf := (if_neg c5).symm.trans hf
            refine And.imp_left (rs_icF i_X8_stepsBy_99 (cf_le c5)) ?_
            refine And.imp_left (rs_bipush i_X8_stepsBy_102 (v := (-12)) (by decide)) ?_
            have hf := Option.some.inj hf
            subst hf
            exact ⟨rs_iret i_X8_stepsBy_104 m_X8_stepsBy rfl, SH⟩
noncomputable def g_X8_stepsBy_0 (n : Nat) (v1 : Int32) (v2 : Int32) (v3 : Int32) (v4 : Int32) (h : Hp) : Option (Int32 × Hp) :=
  (g_X8_in v1 0 3 h).bind fun o1 =>
  if o1.1 = 0 then
    some ((-2), o1.2)
  else
    (g_X8_in v2 0 2 o1.2).bind fun o3 =>
    if o3.1 = 0 then
      some ((-2), o3.2)
    else
      (g_X8_in v4 0 12 o3.2).bind fun o5 =>
      if o5.1 ≠ 0 then
        if inb v1 4 = true then
        if (gI o5.2 107 (ix v1)) ≠ (-1) then
          if (gI o5.2 107 (ix v1)) = v2 then
            g_X8_stepsBy_64 n n v1 v3 v4 0 0 o5.2
          else
            some ((-13), o5.2)
        else
          some ((-11), o5.2)
        else none
      else
        some ((-2), o5.2)
set_option maxRecDepth 100000 in
set_option maxHeartbeats 4000000 in
theorem q_X8_stepsBy_0 {X : Nat → Int32} {d : Nat} (hd : 2 ≤ (d + 1)) {L hi : Nat} (hh : 125 ≤ hi) {n : Nat} {v1 : Int32} {v2 : Int32} {v3 : Int32} {v4 : Int32} {h : Hp} {o : (Int32 × Hp)}  (SH : SHP L hi h) (hf : g_X8_stepsBy_0 n v1 v2 v3 v4 h = some o) : Run X (d + 1) 216 0 [some (.ref 96), some (.int v1), some (.int v2), some (.int v3), some (.int v4), none, none, none, none] [] h (some (.int o.1), o.2) ∧ SHP L hi o.2 := by
  unfold g_X8_stepsBy_0 at hf
  refine And.imp_left (rs_iload_n i_X8_stepsBy_0 rfl) ?_
  refine And.imp_left (rs_iconst i_X8_stepsBy_1 (v := 0) (by decide)) ?_
  refine And.imp_left (rs_iconst i_X8_stepsBy_2 (v := 3) (by decide)) ?_
  obtain ⟨o1, e1, hf⟩ := bind_some hf
  obtain ⟨u1, SH2⟩ := k_X8_in (X := X) (d := d) (by omega) (by omega) SH e1
  refine And.imp_left (rs_inS i_X8_stepsBy_3 (by decide) m_X8_in rfl (As := [.int v1, .int 0, .int 3]) (rest := []) rfl rfl (Nat.le_of_ble_eq_true rfl) u1 (st' := [.int o1.1]) rfl) ?_
  clear SH; have SH := SH2; clear SH2
  by_cases c2 : o1.1 = 0
  · replace hf := (if_pos c2).symm.trans hf
    refine And.imp_left (rs_ifT i_X8_stepsBy_6 (ct_eq c2) (tg := 29) (by decide)) ?_
    refine And.imp_left (rs_bipush i_X8_stepsBy_29 (v := (-2)) (by decide)) ?_
    have hf := Option.some.inj hf
    subst hf
    exact ⟨rs_iret i_X8_stepsBy_31 m_X8_stepsBy rfl, SH⟩
  · replace hf := (if_neg c2).symm.trans hf
    refine And.imp_left (rs_ifF i_X8_stepsBy_6 (cf_eq c2)) ?_
    refine And.imp_left (rs_iload_n i_X8_stepsBy_9 rfl) ?_
    refine And.imp_left (rs_iconst i_X8_stepsBy_10 (v := 0) (by decide)) ?_
    refine And.imp_left (rs_iconst i_X8_stepsBy_11 (v := 2) (by decide)) ?_
    obtain ⟨o3, e3, hf⟩ := bind_some hf
    obtain ⟨u3, SH2⟩ := k_X8_in (X := X) (d := d) (by omega) (by omega) SH e3
    refine And.imp_left (rs_inS i_X8_stepsBy_12 (by decide) m_X8_in rfl (As := [.int v2, .int 0, .int 2]) (rest := []) rfl rfl (Nat.le_of_ble_eq_true rfl) u3 (st' := [.int o3.1]) rfl) ?_
    clear SH; have SH := SH2; clear SH2
    by_cases c4 : o3.1 = 0
    · replace hf := (if_pos c4).symm.trans hf
      refine And.imp_left (rs_ifT i_X8_stepsBy_15 (ct_eq c4) (tg := 29) (by decide)) ?_
      refine And.imp_left (rs_bipush i_X8_stepsBy_29 (v := (-2)) (by decide)) ?_
      have hf := Option.some.inj hf
      subst hf
      exact ⟨rs_iret i_X8_stepsBy_31 m_X8_stepsBy rfl, SH⟩
    · replace hf := (if_neg c4).symm.trans hf
      refine And.imp_left (rs_ifF i_X8_stepsBy_15 (cf_eq c4)) ?_
      refine And.imp_left (rs_iload i_X8_stepsBy_18 rfl) ?_
      refine And.imp_left (rs_iconst i_X8_stepsBy_20 (v := 0) (by decide)) ?_
      refine And.imp_left (rs_bipush i_X8_stepsBy_21 (v := 12) (by decide)) ?_
      obtain ⟨o5, e5, hf⟩ := bind_some hf
      obtain ⟨u5, SH2⟩ := k_X8_in (X := X) (d := d) (by omega) (by omega) SH e5
      refine And.imp_left (rs_inS i_X8_stepsBy_23 (by decide) m_X8_in rfl (As := [.int v4, .int 0, .int 12]) (rest := []) rfl rfl (Nat.le_of_ble_eq_true rfl) u5 (st' := [.int o5.1]) rfl) ?_
      clear SH; have SH := SH2; clear SH2
      by_cases c6 : o5.1 ≠ 0
      · replace hf := (if_pos c6).symm.trans hf
        refine And.imp_left (rs_ifT i_X8_stepsBy_26 (ct_ne c6) (tg := 32) (by decide)) ?_
        refine And.imp_left (rs_aload_n i_X8_stepsBy_32 rfl) ?_
        refine And.imp_left (rs_getR i_X8_stepsBy_33 (by decide) (by decide) (sO8 SH hh) (sR8_22 SH hh)) ?_
        refine And.imp_left (rs_iload_n i_X8_stepsBy_36 rfl) ?_
        obtain ⟨c7, hf⟩ := ite_some hf
        refine And.imp_left (rs_iald i_X8_stepsBy_37 (mkI (sA SH hh (k := 9) (n := 4) (by decide)) c7)) ?_
        refine And.imp_left (rs_iconst i_X8_stepsBy_38 (v := (-1)) (by decide)) ?_
        by_cases c8 : (gI o5.2 107 (ix v1)) ≠ (-1)
        · replace hf := (if_pos c8).symm.trans hf
          refine And.imp_left (rs_icT i_X8_stepsBy_39 (ct_ne c8) (tg := 45) (by decide)) ?_
          refine And.imp_left (rs_aload_n i_X8_stepsBy_45 rfl) ?_
          refine And.imp_left (rs_getR i_X8_stepsBy_46 (by decide) (by decide) (sO8 SH hh) (sR8_22 SH hh)) ?_
          refine And.imp_left (rs_iload_n i_X8_stepsBy_49 rfl) ?_
          refine And.imp_left (rs_iald i_X8_stepsBy_50 (mkI (sA SH hh (k := 9) (n := 4) (by decide)) c7)) ?_
          refine And.imp_left (rs_iload_n i_X8_stepsBy_51 rfl) ?_
          by_cases c9 : (gI o5.2 107 (ix v1)) = v2
          · replace hf := (if_pos c9).symm.trans hf
            refine And.imp_left (rs_icT i_X8_stepsBy_52 (ct_eq c9) (tg := 58) (by decide)) ?_
            refine And.imp_left (rs_iconst i_X8_stepsBy_58 (v := 0) (by decide)) ?_
            refine And.imp_left (rs_istore i_X8_stepsBy_59 (Nat.le_of_ble_eq_true rfl) (lv' := [some (.ref 96), some (.int v1), some (.int v2), some (.int v3), some (.int v4), some (.int 0), none, none, none]) rfl) ?_
            refine And.imp_left (rs_iconst i_X8_stepsBy_61 (v := 0) (by decide)) ?_
            refine And.imp_left (rs_istore i_X8_stepsBy_62 (Nat.le_of_ble_eq_true rfl) (lv' := [some (.ref 96), some (.int v1), some (.int v2), some (.int v3), some (.int v4), some (.int 0), some (.int 0), none, none]) rfl) ?_
            exact q_X8_stepsBy_64 hd hh _ _ _ _ _ _ _ _ _ _ _ SH hf
          · replace hf := (if_neg c9).symm.trans hf
            refine And.imp_left (rs_icF i_X8_stepsBy_52 (cf_eq c9)) ?_
            refine And.imp_left (rs_bipush i_X8_stepsBy_55 (v := (-13)) (by decide)) ?_
            have hf := Option.some.inj hf
            subst hf
            exact ⟨rs_iret i_X8_stepsBy_57 m_X8_stepsBy rfl, SH⟩
        · replace hf := (if_neg c8).symm.trans hf
          refine And.imp_left (rs_icF i_X8_stepsBy_39 (cf_ne c8)) ?_
          refine And.imp_left (rs_bipush i_X8_stepsBy_42 (v := (-11)) (by decide)) ?_
          have hf := Option.some.inj hf
          subst hf
          exact ⟨rs_iret i_X8_stepsBy_44 m_X8_stepsBy rfl, SH⟩
      · replace hf := (if_neg c6).symm.trans hf
        refine And.imp_left (rs_ifF i_X8_stepsBy_26 (cf_ne c6)) ?_
        refine And.imp_left (rs_bipush i_X8_stepsBy_29 (v := (-2)) (by decide)) ?_
        have hf := Option.some.inj hf
        subst hf
        exact ⟨rs_iret i_X8_stepsBy_31 m_X8_stepsBy rfl, SH⟩
noncomputable def g_X8_stepsBy (n : Nat) (v1 : Int32) (v2 : Int32) (v3 : Int32) (v4 : Int32) (h : Hp) : Option (Int32 × Hp) := g_X8_stepsBy_0 n v1 v2 v3 v4 h
theorem k_X8_stepsBy {X : Nat → Int32} {d : Nat} (hd : 2 ≤ d) {L hi : Nat} (hh : 125 ≤ hi) {n : Nat} {v1 : Int32} {v2 : Int32} {v3 : Int32} {v4 : Int32} {h : Hp} {o : (Int32 × Hp)}  (SH : SHP L hi h) (hf : g_X8_stepsBy n v1 v2 v3 v4 h = some o) : Calls X d 216 [.ref 96, .int v1, .int v2, .int v3, .int v4] h (some (.int o.1), o.2) ∧ SHP L hi o.2 := by
  obtain ⟨d, rfl⟩ : ∃ z, d = z + 1 := ⟨d - 1, by omega⟩
  obtain ⟨r, S2⟩ := q_X8_stepsBy_0 hd hh SH hf
  exact ⟨⟨_, rfl, r⟩, S2⟩
noncomputable def g_X8_isUnder_29  (h : Hp) : Option (Int32 × Hp) :=
  some (1, h)
set_option maxRecDepth 100000 in
set_option maxHeartbeats 4000000 in
theorem q_X8_isUnder_29 {X : Nat → Int32} {d : Nat} (hd : 0 ≤ d) {L hi : Nat} (hh : 125 ≤ hi) {d0 : Int32} {d1 : Int32} {h : Hp} {o : (Int32 × Hp)}  (SH : SHP L hi h) (hf : g_X8_isUnder_29 h = some o) : Run X d 217 29 [some (.int d0), some (.int d1)] [] h (some (.int o.1), o.2) ∧ SHP L hi o.2 := by
  unfold g_X8_isUnder_29 at hf
  refine And.imp_left (rs_iconst i_X8_isUnder_29 (v := 1) (by decide)) ?_
  refine And.imp_left (rs_goto i_X8_isUnder_30 (tg := 34) (by decide)) ?_
  have hf := Option.some.inj hf
  subst hf
  exact ⟨rs_iret i_X8_isUnder_34 m_X8_isUnder (by decide), SH⟩
noncomputable def g_X8_isUnder_19 (v0 : Int32) (v1 : Int32) (h : Hp) : Option (Int32 × Hp) :=
  if v1 ≠ 3 then
    some (0, h)
  else
    if v0 ≠ 5 then
      some (0, h)
    else
      g_X8_isUnder_29 h
set_option maxRecDepth 100000 in
set_option maxHeartbeats 4000000 in
theorem q_X8_isUnder_19 {X : Nat → Int32} {d : Nat} (hd : 0 ≤ d) {L hi : Nat} (hh : 125 ≤ hi) {v0 : Int32} {v1 : Int32} {h : Hp} {o : (Int32 × Hp)}  (SH : SHP L hi h) (hf : g_X8_isUnder_19 v0 v1 h = some o) : Run X d 217 19 [some (.int v0), some (.int v1)] [] h (some (.int o.1), o.2) ∧ SHP L hi o.2 := by
  unfold g_X8_isUnder_19 at hf
  refine And.imp_left (rs_iload_n i_X8_isUnder_19 rfl) ?_
  refine And.imp_left (rs_iconst i_X8_isUnder_20 (v := 3) (by decide)) ?_
  by_cases c1 : v1 ≠ 3
  · replace hf := (if_pos c1).symm.trans hf
    refine And.imp_left (rs_icT i_X8_isUnder_21 (ct_ne c1) (tg := 33) (by decide)) ?_
    refine And.imp_left (rs_iconst i_X8_isUnder_33 (v := 0) (by decide)) ?_
    have hf := Option.some.inj hf
    subst hf
    exact ⟨rs_iret i_X8_isUnder_34 m_X8_isUnder (by decide), SH⟩
  · replace hf := (if_neg c1).symm.trans hf
    refine And.imp_left (rs_icF i_X8_isUnder_21 (cf_ne c1)) ?_
    refine And.imp_left (rs_iload_n i_X8_isUnder_24 rfl) ?_
    refine And.imp_left (rs_iconst i_X8_isUnder_25 (v := 5) (by decide)) ?_
    by_cases c2 : v0 ≠ 5
    · replace hf := (if_pos c2).symm.trans hf
      refine And.imp_left (rs_icT i_X8_isUnder_26 (ct_ne c2) (tg := 33) (by decide)) ?_
      refine And.imp_left (rs_iconst i_X8_isUnder_33 (v := 0) (by decide)) ?_
      have hf := Option.some.inj hf
      subst hf
      exact ⟨rs_iret i_X8_isUnder_34 m_X8_isUnder (by decide), SH⟩
    · replace hf := (if_neg c2).symm.trans hf
      refine And.imp_left (rs_icF i_X8_isUnder_26 (cf_ne c2)) ?_
      exact q_X8_isUnder_29 hd hh SH hf
noncomputable def g_X8_isUnder_0 (v0 : Int32) (v1 : Int32) (h : Hp) : Option (Int32 × Hp) :=
  if v1 = 0 then
    g_X8_isUnder_29 h
  else
    if v0 = v1 then
      g_X8_isUnder_29 h
    else
      if v1 ≠ 1 then
        g_X8_isUnder_19 v0 v1 h
      else
        if v0 = 2 then
          g_X8_isUnder_29 h
        else
          g_X8_isUnder_19 v0 v1 h
set_option maxRecDepth 100000 in
set_option maxHeartbeats 4000000 in
theorem q_X8_isUnder_0 {X : Nat → Int32} {d : Nat} (hd : 0 ≤ d) {L hi : Nat} (hh : 125 ≤ hi) {v0 : Int32} {v1 : Int32} {h : Hp} {o : (Int32 × Hp)}  (SH : SHP L hi h) (hf : g_X8_isUnder_0 v0 v1 h = some o) : Run X d 217 0 [some (.int v0), some (.int v1)] [] h (some (.int o.1), o.2) ∧ SHP L hi o.2 := by
  unfold g_X8_isUnder_0 at hf
  refine And.imp_left (rs_iload_n i_X8_isUnder_0 rfl) ?_
  by_cases c1 : v1 = 0
  · replace hf := (if_pos c1).symm.trans hf
    refine And.imp_left (rs_ifT i_X8_isUnder_1 (ct_eq c1) (tg := 29) (by decide)) ?_
    exact q_X8_isUnder_29 hd hh SH hf
  · replace hf := (if_neg c1).symm.trans hf
    refine And.imp_left (rs_ifF i_X8_isUnder_1 (cf_eq c1)) ?_
    refine And.imp_left (rs_iload_n i_X8_isUnder_4 rfl) ?_
    refine And.imp_left (rs_iload_n i_X8_isUnder_5 rfl) ?_
    by_cases c2 : v0 = v1
    · replace hf := (if_pos c2).symm.trans hf
      refine And.imp_left (rs_icT i_X8_isUnder_6 (ct_eq c2) (tg := 29) (by decide)) ?_
      exact q_X8_isUnder_29 hd hh SH hf
    · replace hf := (if_neg c2).symm.trans hf
      refine And.imp_left (rs_icF i_X8_isUnder_6 (cf_eq c2)) ?_
      refine And.imp_left (rs_iload_n i_X8_isUnder_9 rfl) ?_
      refine And.imp_left (rs_iconst i_X8_isUnder_10 (v := 1) (by decide)) ?_
      by_cases c3 : v1 ≠ 1
      · replace hf := (if_pos c3).symm.trans hf
        refine And.imp_left (rs_icT i_X8_isUnder_11 (ct_ne c3) (tg := 19) (by decide)) ?_
        exact q_X8_isUnder_19 hd hh SH hf
      · replace hf := (if_neg c3).symm.trans hf
        refine And.imp_left (rs_icF i_X8_isUnder_11 (cf_ne c3)) ?_
        refine And.imp_left (rs_iload_n i_X8_isUnder_14 rfl) ?_
        refine And.imp_left (rs_iconst i_X8_isUnder_15 (v := 2) (by decide)) ?_
        by_cases c4 : v0 = 2
        · replace hf := (if_pos c4).symm.trans hf
          refine And.imp_left (rs_icT i_X8_isUnder_16 (ct_eq c4) (tg := 29) (by decide)) ?_
          exact q_X8_isUnder_29 hd hh SH hf
        · replace hf := (if_neg c4).symm.trans hf
          refine And.imp_left (rs_icF i_X8_isUnder_16 (cf_eq c4)) ?_
          exact q_X8_isUnder_19 hd hh SH hf
noncomputable def g_X8_isUnder (v0 : Int32) (v1 : Int32) (h : Hp) : Option (Int32 × Hp) := g_X8_isUnder_0 v0 v1 h
theorem k_X8_isUnder {X : Nat → Int32} {d : Nat} (hd : 0 ≤ d) {L hi : Nat} (hh : 125 ≤ hi) {v0 : Int32} {v1 : Int32} {h : Hp} {o : (Int32 × Hp)}  (SH : SHP L hi h) (hf : g_X8_isUnder v0 v1 h = some o) : Calls X d 217 [.int v0, .int v1] h (some (.int o.1), o.2) ∧ SHP L hi o.2 := by
  obtain ⟨r, S2⟩ := q_X8_isUnder_0 hd hh SH hf
  exact ⟨⟨_, rfl, r⟩, S2⟩
noncomputable def g_X8_taken_0 (v1 : Int32) (v2 : Int32) (h : Hp) : Option (Int32 × Hp) :=
  (g_X8_in v2 0 6 h).bind fun o1 =>
  if o1.1 ≠ 0 then
    (g_X8_in v1 0 23 o1.2).bind fun o3 =>
    if o3.1 ≠ 0 then
      if 12 ≤ v1 then
        if (v1 - 12) < (gI o3.2 96 5) then
          if 6 ≤ v2 then
            some ((-13), o3.2)
          else
            if inb (v1 - 12) 12 = true then
            (g_X8_isUnder (gI o3.2 99 (ix (v1 - 12))) v2 o3.2).bind fun o9 =>
            if o9.1 = 0 then
              some ((-13), o9.2)
            else
              some ((v1 - 12), o9.2)
            else none
        else
          some ((-11), o3.2)
      else
        if v2 ≠ 6 then
          some ((-13), o3.2)
        else
          if inb v1 12 = true then
          some ((gI o3.2 97 (ix v1)), o3.2)
          else none
    else
      some ((-12), o3.2)
  else
    some ((-2), o1.2)
set_option maxRecDepth 100000 in
set_option maxHeartbeats 4000000 in
theorem q_X8_taken_0 {X : Nat → Int32} {d : Nat} (hd : 1 ≤ (d + 1)) {L hi : Nat} (hh : 125 ≤ hi) {v1 : Int32} {v2 : Int32} {h : Hp} {o : (Int32 × Hp)}  (SH : SHP L hi h) (hf : g_X8_taken_0 v1 v2 h = some o) : Run X (d + 1) 218 0 [some (.ref 96), some (.int v1), some (.int v2)] [] h (some (.int o.1), o.2) ∧ SHP L hi o.2 := by
  unfold g_X8_taken_0 at hf
  refine And.imp_left (rs_iload_n i_X8_taken_0 rfl) ?_
  refine And.imp_left (rs_iconst i_X8_taken_1 (v := 0) (by decide)) ?_
  refine And.imp_left (rs_bipush i_X8_taken_2 (v := 6) (by decide)) ?_
  obtain ⟨o1, e1, hf⟩ := bind_some hf
  obtain ⟨u1, SH2⟩ := k_X8_in (X := X) (d := d) (by omega) (by omega) SH e1
  refine And.imp_left (rs_inS i_X8_taken_4 (by decide) m_X8_in rfl (As := [.int v2, .int 0, .int 6]) (rest := []) rfl rfl (Nat.le_of_ble_eq_true rfl) u1 (st' := [.int o1.1]) rfl) ?_
  clear SH; have SH := SH2; clear SH2
  by_cases c2 : o1.1 ≠ 0
  · replace hf := (if_pos c2).symm.trans hf
    refine And.imp_left (rs_ifT i_X8_taken_7 (ct_ne c2) (tg := 13) (by decide)) ?_
    refine And.imp_left (rs_iload_n i_X8_taken_13 rfl) ?_
    refine And.imp_left (rs_iconst i_X8_taken_14 (v := 0) (by decide)) ?_
    refine And.imp_left (rs_bipush i_X8_taken_15 (v := 23) (by decide)) ?_
    obtain ⟨o3, e3, hf⟩ := bind_some hf
    obtain ⟨u3, SH2⟩ := k_X8_in (X := X) (d := d) (by omega) (by omega) SH e3
    refine And.imp_left (rs_inS i_X8_taken_17 (by decide) m_X8_in rfl (As := [.int v1, .int 0, .int 23]) (rest := []) rfl rfl (Nat.le_of_ble_eq_true rfl) u3 (st' := [.int o3.1]) rfl) ?_
    clear SH; have SH := SH2; clear SH2
    by_cases c4 : o3.1 ≠ 0
    · replace hf := (if_pos c4).symm.trans hf
      refine And.imp_left (rs_ifT i_X8_taken_20 (ct_ne c4) (tg := 26) (by decide)) ?_
      refine And.imp_left (rs_iload_n i_X8_taken_26 rfl) ?_
      refine And.imp_left (rs_bipush i_X8_taken_27 (v := 12) (by decide)) ?_
      by_cases c5 : 12 ≤ v1
      · replace hf := (if_pos c5).symm.trans hf
        refine And.imp_left (rs_icT i_X8_taken_29 (ct_ge c5) (tg := 50) (by decide)) ?_
        refine And.imp_left (rs_iload_n i_X8_taken_50 rfl) ?_
        refine And.imp_left (rs_bipush i_X8_taken_51 (v := 12) (by decide)) ?_
        refine And.imp_left (rs_isub i_X8_taken_53) ?_
        refine And.imp_left (rs_aload_n i_X8_taken_54 rfl) ?_
        refine And.imp_left (rs_getI i_X8_taken_55 (by decide) (by decide) (sO8 SH hh)) ?_
        by_cases c6 : (v1 - 12) < (gI o3.2 96 5)
        · replace hf := (if_pos c6).symm.trans hf
          refine And.imp_left (rs_icT i_X8_taken_58 (ct_lt c6) (tg := 66) (by decide)) ?_
          refine And.imp_left (rs_iload_n i_X8_taken_66 rfl) ?_
          refine And.imp_left (rs_bipush i_X8_taken_67 (v := 6) (by decide)) ?_
          by_cases c7 : 6 ≤ v2
          · replace hf := (if_pos c7).symm.trans hf
            refine And.imp_left (rs_icT i_X8_taken_69 (ct_ge c7) (tg := 95) (by decide)) ?_
            refine And.imp_left (rs_bipush i_X8_taken_95 (v := (-13)) (by decide)) ?_
            have hf := Option.some.inj hf
            subst hf
            exact ⟨rs_iret i_X8_taken_97 m_X8_taken rfl, SH⟩
          · replace hf := (if_neg c7).symm.trans hf
            refine And.imp_left (rs_icF i_X8_taken_69 (cf_ge c7)) ?_
            refine And.imp_left (rs_aload_n i_X8_taken_72 rfl) ?_
            refine And.imp_left (rs_getR i_X8_taken_73 (by decide) (by decide) (sO8 SH hh) (sR8_6 SH hh)) ?_
            refine And.imp_left (rs_iload_n i_X8_taken_76 rfl) ?_
            refine And.imp_left (rs_bipush i_X8_taken_77 (v := 12) (by decide)) ?_
            refine And.imp_left (rs_isub i_X8_taken_79) ?_
            obtain ⟨c8, hf⟩ := ite_some hf
            refine And.imp_left (rs_iald i_X8_taken_80 (mkI (sA SH hh (k := 9) (n := 12) (by decide)) c8)) ?_
            refine And.imp_left (rs_iload_n i_X8_taken_81 rfl) ?_
            obtain ⟨o9, e9, hf⟩ := bind_some hf
            obtain ⟨u9, SH2⟩ := k_X8_isUnder (X := X) (d := d) (by omega) (by omega) SH e9
            refine And.imp_left (rs_inS i_X8_taken_82 (by decide) m_X8_isUnder rfl (As := [.int (gI o3.2 99 (ix (v1 - 12))), .int v2]) (rest := []) rfl rfl (Nat.le_of_ble_eq_true rfl) u9 (st' := [.int o9.1]) rfl) ?_
            clear SH; have SH := SH2; clear SH2
            by_cases c10 : o9.1 = 0
            · replace hf := (if_pos c10).symm.trans hf
              refine And.imp_left (rs_ifT i_X8_taken_85 (ct_eq c10) (tg := 95) (by decide)) ?_
              refine And.imp_left (rs_bipush i_X8_taken_95 (v := (-13)) (by decide)) ?_
              have hf := Option.some.inj hf
              subst hf
              exact ⟨rs_iret i_X8_taken_97 m_X8_taken rfl, SH⟩
            · replace hf := (if_neg c10).symm.trans hf
              refine And.imp_left (rs_ifF i_X8_taken_85 (cf_eq c10)) ?_
              refine And.imp_left (rs_iload_n i_X8_taken_88 rfl) ?_
              refine And.imp_left (rs_bipush i_X8_taken_89 (v := 12) (by decide)) ?_
              refine And.imp_left (rs_isub i_X8_taken_91) ?_
              refine And.imp_left (rs_goto i_X8_taken_92 (tg := 97) (by decide)) ?_
              have hf := Option.some.inj hf
              subst hf
              exact ⟨rs_iret i_X8_taken_97 m_X8_taken rfl, SH⟩
        · replace hf := (if_neg c6).symm.trans hf
          refine And.imp_left (rs_icF i_X8_taken_58 (cf_lt c6)) ?_
          refine And.imp_left (rs_bipush i_X8_taken_61 (v := (-11)) (by decide)) ?_
          refine And.imp_left (rs_goto i_X8_taken_63 (tg := 97) (by decide)) ?_
          have hf := Option.some.inj hf
          subst hf
          exact ⟨rs_iret i_X8_taken_97 m_X8_taken rfl, SH⟩
      · replace hf := (if_neg c5).symm.trans hf
        refine And.imp_left (rs_icF i_X8_taken_29 (cf_ge c5)) ?_
        refine And.imp_left (rs_iload_n i_X8_taken_32 rfl) ?_
        refine And.imp_left (rs_bipush i_X8_taken_33 (v := 6) (by decide)) ?_
        by_cases c11 : v2 ≠ 6
        · replace hf := (if_pos c11).symm.trans hf
          refine And.imp_left (rs_icT i_X8_taken_35 (ct_ne c11) (tg := 47) (by decide)) ?_
          refine And.imp_left (rs_bipush i_X8_taken_47 (v := (-13)) (by decide)) ?_
          have hf := Option.some.inj hf
          subst hf
          exact ⟨rs_iret i_X8_taken_49 m_X8_taken rfl, SH⟩
        · replace hf := (if_neg c11).symm.trans hf
          refine And.imp_left (rs_icF i_X8_taken_35 (cf_ne c11)) ?_
          refine And.imp_left (rs_aload_n i_X8_taken_38 rfl) ?_
          refine And.imp_left (rs_getR i_X8_taken_39 (by decide) (by decide) (sO8 SH hh) (sR8_0 SH hh)) ?_
          refine And.imp_left (rs_iload_n i_X8_taken_42 rfl) ?_
          obtain ⟨c12, hf⟩ := ite_some hf
          refine And.imp_left (rs_iald i_X8_taken_43 (mkI (sA SH hh (k := 9) (n := 12) (by decide)) c12)) ?_
          refine And.imp_left (rs_goto i_X8_taken_44 (tg := 49) (by decide)) ?_
          have hf := Option.some.inj hf
          subst hf
          exact ⟨rs_iret i_X8_taken_49 m_X8_taken rfl, SH⟩
    · replace hf := (if_neg c4).symm.trans hf
      refine And.imp_left (rs_ifF i_X8_taken_20 (cf_ne c4)) ?_
      refine And.imp_left (rs_bipush i_X8_taken_23 (v := (-12)) (by decide)) ?_
      have hf := Option.some.inj hf
      subst hf
      exact ⟨rs_iret i_X8_taken_25 m_X8_taken rfl, SH⟩
  · replace hf := (if_neg c2).symm.trans hf
    refine And.imp_left (rs_ifF i_X8_taken_7 (cf_ne c2)) ?_
    refine And.imp_left (rs_bipush i_X8_taken_10 (v := (-2)) (by decide)) ?_
    have hf := Option.some.inj hf
    subst hf
    exact ⟨rs_iret i_X8_taken_12 m_X8_taken rfl, SH⟩
noncomputable def g_X8_taken (v1 : Int32) (v2 : Int32) (h : Hp) : Option (Int32 × Hp) := g_X8_taken_0 v1 v2 h
theorem k_X8_taken {X : Nat → Int32} {d : Nat} (hd : 1 ≤ d) {L hi : Nat} (hh : 125 ≤ hi) {v1 : Int32} {v2 : Int32} {h : Hp} {o : (Int32 × Hp)}  (SH : SHP L hi h) (hf : g_X8_taken v1 v2 h = some o) : Calls X d 218 [.ref 96, .int v1, .int v2] h (some (.int o.1), o.2) ∧ SHP L hi o.2 := by
  obtain ⟨d, rfl⟩ : ∃ z, d = z + 1 := ⟨d - 1, by omega⟩
  obtain ⟨r, S2⟩ := q_X8_taken_0 hd hh SH hf
  exact ⟨⟨_, rfl, r⟩, S2⟩
noncomputable def g_L_law_1773 (X : Nat → Int32) (L : Nat) (n : Nat) (K18 : Int32 → Hp → Option (Int32 × Hp)) (v3 : Int32) (h : Hp) : Option (Int32 × Hp) :=
  K18 (v3 + 6) h
set_option maxRecDepth 100000 in
set_option maxHeartbeats 4000000 in
theorem q_L_law_1773 {X : Nat → Int32} {d : Nat} (hd : 110 ≤ (d + 1)) {L hi : Nat} (hh : 125 ≤ hi) {n : Nat} {K18 : Int32 → Hp → Option (Int32 × Hp)} (HK18 : ∀ (v3 : Int32) (h : Hp) (o : (Int32 × Hp)), SHP L hi h → K18 v3 h = some o → Run X (d + 1) 0 18 [some (.ref 14), some (.ref 16), some (.ref 96), some (.int v3)] [] h (some (.int o.1), o.2) ∧ SHP L hi o.2) {v3 : Int32} {h : Hp} {o : (Int32 × Hp)}  (SH : SHP L hi h) (hf : g_L_law_1773 X L n K18 v3 h = some o) : Run X (d + 1) 0 1773 [some (.ref 14), some (.ref 16), some (.ref 96), some (.int v3)] [] h (some (.int o.1), o.2) ∧ SHP L hi o.2 := by
  unfold g_L_law_1773 at hf
  refine And.imp_left (rs_iinc i_L_law_1773 rfl (v := v3 + 6) rfl (Nat.le_of_ble_eq_true rfl) (lv' := [some (.ref 14), some (.ref 16), some (.ref 96), some (.int (v3 + 6))]) rfl) ?_
  refine And.imp_left (rs_goto i_L_law_1776 (tg := 18) (by decide)) ?_
  exact HK18 _ _ _ SH hf
noncomputable def g_L_law_18 (X : Nat → Int32) (L : Nat) (n : Nat) : Nat → Int32 → Hp → Option (Int32 × Hp)
  | 0, _, _ => none
  | m + 1, v3, h =>
    if ((Int32.ofNat L) - 6) < v3 then
      some (1, h)
    else
      if inb v3 L = true then
      if ((X (ix v3)) &&& 63) = 0 then
        if inb (v3 + 1) L = true then
        if inb (v3 + 2) L = true then
        if inb (v3 + 3) L = true then
        (g_X7_roll (X (ix (v3 + 1))) (X (ix (v3 + 2))) (X (ix (v3 + 3))) h).bind fun o269 =>
        (g_X8_roll (X (ix (v3 + 1))) (X (ix (v3 + 2))) (X (ix (v3 + 3))) o269.2).bind fun o270 =>
        if o269.1 = o270.1 then
          g_L_law_1773 X L n (g_L_law_18 X L n m) v3 o270.2
        else
          some (0, o270.2)
        else none
        else none
        else none
      else
        if ((X (ix v3)) &&& 63) = 1 then
          if inb (v3 + 1) L = true then
          if inb (v3 + 2) L = true then
          (g_X7_set (X (ix (v3 + 1))) (X (ix (v3 + 2))) h).bind fun o263 =>
          (g_X8_set (X (ix (v3 + 1))) (X (ix (v3 + 2))) o263.2).bind fun o264 =>
          if o263.1 = o264.1 then
            g_L_law_1773 X L n (g_L_law_18 X L n m) v3 o264.2
          else
            some (0, o264.2)
          else none
          else none
        else
          if ((X (ix v3)) &&& 63) = 2 then
            if inb (v3 + 1) L = true then
            (g_X7_count (X (ix (v3 + 1))) h).bind fun o258 =>
            (g_X8_count (X (ix (v3 + 1))) o258.2).bind fun o259 =>
            if o258.1 = o259.1 then
              g_L_law_1773 X L n (g_L_law_18 X L n m) v3 o259.2
            else
              some (0, o259.2)
            else none
          else
            if ((X (ix v3)) &&& 63) = 3 then
              if inb (v3 + 1) L = true then
              if inb (v3 + 2) L = true then
              if inb (v3 + 3) L = true then
              (g_X7_feed n (((Int32.toInt64 (X (ix (v3 + 1)))) <<< (Int32.toInt64 32 &&& 63)) ||| ((Int32.toInt64 (X (ix (v3 + 2)))) &&& 4294967295)) (X (ix (v3 + 3))) h).bind fun o254 =>
              (g_X8_feed n (((Int32.toInt64 (X (ix (v3 + 1)))) <<< (Int32.toInt64 32 &&& 63)) ||| ((Int32.toInt64 (X (ix (v3 + 2)))) &&& 4294967295)) (X (ix (v3 + 3))) o254.2).bind fun o255 =>
              if o254.1 = o255.1 then
                g_L_law_1773 X L n (g_L_law_18 X L n m) v3 o255.2
              else
                some (0, o255.2)
              else none
              else none
              else none
            else
              if ((X (ix v3)) &&& 63) = 4 then
                (g_X7_text n h).bind fun o248 =>
                (g_X8_text n o248.2).bind fun o249 =>
                if o248.1 = o249.1 then
                  g_L_law_1773 X L n (g_L_law_18 X L n m) v3 o249.2
                else
                  some (0, o249.2)
              else
                if ((X (ix v3)) &&& 63) = 5 then
                  if inb (v3 + 1) L = true then
                  (g_X7_force (X (ix (v3 + 1))) h).bind fun o245 =>
                  (g_X8_force (X (ix (v3 + 1))) o245.2).bind fun o246 =>
                  if o245.1 = o246.1 then
                    g_L_law_1773 X L n (g_L_law_18 X L n m) v3 o246.2
                  else
                    some (0, o246.2)
                  else none
                else
                  if ((X (ix v3)) &&& 63) = 6 then
                    if inb (v3 + 1) L = true then
                    if inb (v3 + 2) L = true then
                    if inb (v3 + 3) L = true then
                    (g_X7_step (X (ix (v3 + 1))) (X (ix (v3 + 2))) (X (ix (v3 + 3))) h).bind fun o241 =>
                    (g_X8_step (X (ix (v3 + 1))) (X (ix (v3 + 2))) (X (ix (v3 + 3))) o241.2).bind fun o242 =>
                    if o241.1 = o242.1 then
                      g_L_law_1773 X L n (g_L_law_18 X L n m) v3 o242.2
                    else
                      some (0, o242.2)
                    else none
                    else none
                    else none
                  else
                    if ((X (ix v3)) &&& 63) = 7 then
                      (g_X7_forget h).bind fun o235 =>
                      (g_X8_forget o235.2).bind fun o236 =>
                      if o235.1 = o236.1 then
                        g_L_law_1773 X L n (g_L_law_18 X L n m) v3 o236.2
                      else
                        some (0, o236.2)
                    else
                      if ((X (ix v3)) &&& 63) = 8 then
                        if inb (v3 + 1) L = true then
                        if inb (v3 + 2) L = true then
                        (g_X7_stepTold (X (ix (v3 + 1))) (X (ix (v3 + 2))) h).bind fun o232 =>
                        (g_X8_stepTold (X (ix (v3 + 1))) (X (ix (v3 + 2))) o232.2).bind fun o233 =>
                        if o232.1 = o233.1 then
                          g_L_law_1773 X L n (g_L_law_18 X L n m) v3 o233.2
                        else
                          some (0, o233.2)
                        else none
                        else none
                      else
                        if ((X (ix v3)) &&& 63) = 9 then
                          if inb (v3 + 1) L = true then
                          if inb (v3 + 2) L = true then
                          if inb (v3 + 3) L = true then
                          (g_X7_rope n (X (ix (v3 + 1))) (X (ix (v3 + 2))) (X (ix (v3 + 3))) h).bind fun o227 =>
                          (g_X8_rope n (X (ix (v3 + 1))) (X (ix (v3 + 2))) (X (ix (v3 + 3))) o227.2).bind fun o228 =>
                          if o227.1 = o228.1 then
                            g_L_law_1773 X L n (g_L_law_18 X L n m) v3 o228.2
                          else
                            some (0, o228.2)
                          else none
                          else none
                          else none
                        else
                          if ((X (ix v3)) &&& 63) = 10 then
                            if inb (v3 + 1) L = true then
                            if inb (v3 + 2) L = true then
                            (g_X7_state n (X (ix (v3 + 1))) (X (ix (v3 + 2))) h).bind fun o221 =>
                            (g_X8_state n (X (ix (v3 + 1))) (X (ix (v3 + 2))) o221.2).bind fun o222 =>
                            if o221.1 = o222.1 then
                              g_L_law_1773 X L n (g_L_law_18 X L n m) v3 o222.2
                            else
                              some (0, o222.2)
                            else none
                            else none
                          else
                            if ((X (ix v3)) &&& 63) = 11 then
                              if inb (v3 + 1) L = true then
                              if inb (v3 + 2) L = true then
                              (g_X7_whole n (X (ix (v3 + 1))) (X (ix (v3 + 2))) h).bind fun o216 =>
                              (g_X8_whole n (X (ix (v3 + 1))) (X (ix (v3 + 2))) o216.2).bind fun o217 =>
                              if o216.1 = o217.1 then
                                g_L_law_1773 X L n (g_L_law_18 X L n m) v3 o217.2
                              else
                                some (0, o217.2)
                              else none
                              else none
                            else
                              if ((X (ix v3)) &&& 63) = 12 then
                                if inb (v3 + 1) L = true then
                                (g_X7_stop n (X (ix (v3 + 1))) h).bind fun o211 =>
                                (g_X8_stop n (X (ix (v3 + 1))) o211.2).bind fun o212 =>
                                if o211.1 = o212.1 then
                                  g_L_law_1773 X L n (g_L_law_18 X L n m) v3 o212.2
                                else
                                  some (0, o212.2)
                                else none
                              else
                                if ((X (ix v3)) &&& 63) = 13 then
                                  (g_X7_worst n h).bind fun o207 =>
                                  (g_X8_worst n o207.2).bind fun o208 =>
                                  if o207.1 = o208.1 then
                                    g_L_law_1773 X L n (g_L_law_18 X L n m) v3 o208.2
                                  else
                                    some (0, o208.2)
                                else
                                  if ((X (ix v3)) &&& 63) = 14 then
                                    if inb (v3 + 1) L = true then
                                    if inb (v3 + 2) L = true then
                                    (g_X7_window n (X (ix (v3 + 1))) (X (ix (v3 + 2))) h).bind fun o204 =>
                                    (g_X8_window n (X (ix (v3 + 1))) (X (ix (v3 + 2))) o204.2).bind fun o205 =>
                                    if o204.1 = o205.1 then
                                      g_L_law_1773 X L n (g_L_law_18 X L n m) v3 o205.2
                                    else
                                      some (0, o205.2)
                                    else none
                                    else none
                                  else
                                    if ((X (ix v3)) &&& 63) = 15 then
                                      if inb (v3 + 1) L = true then
                                      if inb (v3 + 2) L = true then
                                      if inb (v3 + 3) L = true then
                                      (g_X7_pace n (X (ix (v3 + 1))) (X (ix (v3 + 2))) (X (ix (v3 + 3))) h).bind fun o199 =>
                                      (g_X8_pace n (X (ix (v3 + 1))) (X (ix (v3 + 2))) (X (ix (v3 + 3))) o199.2).bind fun o200 =>
                                      if o199.1 = o200.1 then
                                        g_L_law_1773 X L n (g_L_law_18 X L n m) v3 o200.2
                                      else
                                        some (0, o200.2)
                                      else none
                                      else none
                                      else none
                                    else
                                      if ((X (ix v3)) &&& 63) = 16 then
                                        if inb (v3 + 1) L = true then
                                        if inb (v3 + 2) L = true then
                                        if inb (v3 + 3) L = true then
                                        (g_X7_rest n (X (ix (v3 + 1))) (X (ix (v3 + 2))) (X (ix (v3 + 3))) h).bind fun o193 =>
                                        (g_X8_rest n (X (ix (v3 + 1))) (X (ix (v3 + 2))) (X (ix (v3 + 3))) o193.2).bind fun o194 =>
                                        if o193.1 = o194.1 then
                                          g_L_law_1773 X L n (g_L_law_18 X L n m) v3 o194.2
                                        else
                                          some (0, o194.2)
                                        else none
                                        else none
                                        else none
                                      else
                                        if ((X (ix v3)) &&& 63) = 17 then
                                          if inb (v3 + 1) L = true then
                                          if inb (v3 + 2) L = true then
                                          (g_X7_dust n (X (ix (v3 + 1))) (X (ix (v3 + 2))) h).bind fun o187 =>
                                          (g_X8_dust n (X (ix (v3 + 1))) (X (ix (v3 + 2))) o187.2).bind fun o188 =>
                                          if o187.1 = o188.1 then
                                            g_L_law_1773 X L n (g_L_law_18 X L n m) v3 o188.2
                                          else
                                            some (0, o188.2)
                                          else none
                                          else none
                                        else
                                          if ((X (ix v3)) &&& 63) = 18 then
                                            if inb (v3 + 1) L = true then
                                            if inb (v3 + 2) L = true then
                                            if inb (v3 + 3) L = true then
                                            (g_X7_doublings n (X (ix (v3 + 1))) (X (ix (v3 + 2))) (X (ix (v3 + 3))) h).bind fun o182 =>
                                            (g_X8_doublings n (X (ix (v3 + 1))) (X (ix (v3 + 2))) (X (ix (v3 + 3))) o182.2).bind fun o183 =>
                                            if o182.1 = o183.1 then
                                              g_L_law_1773 X L n (g_L_law_18 X L n m) v3 o183.2
                                            else
                                              some (0, o183.2)
                                            else none
                                            else none
                                            else none
                                          else
                                            if ((X (ix v3)) &&& 63) = 19 then
                                              if inb (v3 + 1) L = true then
                                              if inb (v3 + 2) L = true then
                                              if inb (v3 + 3) L = true then
                                              (g_X7_judge n (X (ix (v3 + 1))) (X (ix (v3 + 2))) (X (ix (v3 + 3))) h).bind fun o176 =>
                                              (g_X8_judge n (X (ix (v3 + 1))) (X (ix (v3 + 2))) (X (ix (v3 + 3))) o176.2).bind fun o177 =>
                                              if o176.1 = o177.1 then
                                                g_L_law_1773 X L n (g_L_law_18 X L n m) v3 o177.2
                                              else
                                                some (0, o177.2)
                                              else none
                                              else none
                                              else none
                                            else
                                              if ((X (ix v3)) &&& 63) = 20 then
                                                if inb (v3 + 1) L = true then
                                                if inb (v3 + 2) L = true then
                                                (g_X7_film n (X (ix (v3 + 1))) (X (ix (v3 + 2))) h).bind fun o170 =>
                                                (g_X8_film n (X (ix (v3 + 1))) (X (ix (v3 + 2))) o170.2).bind fun o171 =>
                                                if o170.1 = o171.1 then
                                                  g_L_law_1773 X L n (g_L_law_18 X L n m) v3 o171.2
                                                else
                                                  some (0, o171.2)
                                                else none
                                                else none
                                              else
                                                if ((X (ix v3)) &&& 63) = 21 then
                                                  if inb (v3 + 1) L = true then
                                                  if inb (v3 + 2) L = true then
                                                  if inb (v3 + 3) L = true then
                                                  (g_X7_serves n (X (ix (v3 + 1))) (X (ix (v3 + 2))) (X (ix (v3 + 3))) h).bind fun o165 =>
                                                  (g_X8_serves n (X (ix (v3 + 1))) (X (ix (v3 + 2))) (X (ix (v3 + 3))) o165.2).bind fun o166 =>
                                                  if o165.1 = o166.1 then
                                                    g_L_law_1773 X L n (g_L_law_18 X L n m) v3 o166.2
                                                  else
                                                    some (0, o166.2)
                                                  else none
                                                  else none
                                                  else none
                                                else
                                                  if ((X (ix v3)) &&& 63) = 22 then
                                                    if inb (v3 + 1) L = true then
                                                    if inb (v3 + 2) L = true then
                                                    (g_X7_which n (X (ix (v3 + 1))) (X (ix (v3 + 2))) h).bind fun o159 =>
                                                    (g_X8_which n (X (ix (v3 + 1))) (X (ix (v3 + 2))) o159.2).bind fun o160 =>
                                                    if o159.1 = o160.1 then
                                                      g_L_law_1773 X L n (g_L_law_18 X L n m) v3 o160.2
                                                    else
                                                      some (0, o160.2)
                                                    else none
                                                    else none
                                                  else
                                                    if ((X (ix v3)) &&& 63) = 23 then
                                                      if inb (v3 + 1) L = true then
                                                      if inb (v3 + 2) L = true then
                                                      (g_X7_fault n (X (ix (v3 + 1))) (X (ix (v3 + 2))) h).bind fun o154 =>
                                                      (g_X8_fault n (X (ix (v3 + 1))) (X (ix (v3 + 2))) o154.2).bind fun o155 =>
                                                      if o154.1 = o155.1 then
                                                        g_L_law_1773 X L n (g_L_law_18 X L n m) v3 o155.2
                                                      else
                                                        some (0, o155.2)
                                                      else none
                                                      else none
                                                    else
                                                      if ((X (ix v3)) &&& 63) = 24 then
                                                        if inb (v3 + 1) L = true then
                                                        if inb (v3 + 2) L = true then
                                                        (g_X7_uneven n (X (ix (v3 + 1))) (X (ix (v3 + 2))) h).bind fun o149 =>
                                                        (g_X8_uneven n (X (ix (v3 + 1))) (X (ix (v3 + 2))) o149.2).bind fun o150 =>
                                                        if o149.1 = o150.1 then
                                                          g_L_law_1773 X L n (g_L_law_18 X L n m) v3 o150.2
                                                        else
                                                          some (0, o150.2)
                                                        else none
                                                        else none
                                                      else
                                                        if ((X (ix v3)) &&& 63) = 25 then
                                                          if inb (v3 + 1) L = true then
                                                          if inb (v3 + 2) L = true then
                                                          if inb (v3 + 3) L = true then
                                                          (g_X7_cooks n (X (ix (v3 + 1))) (X (ix (v3 + 2))) (X (ix (v3 + 3))) h).bind fun o144 =>
                                                          (g_X8_cooks n (X (ix (v3 + 1))) (X (ix (v3 + 2))) (X (ix (v3 + 3))) o144.2).bind fun o145 =>
                                                          if o144.1 = o145.1 then
                                                            g_L_law_1773 X L n (g_L_law_18 X L n m) v3 o145.2
                                                          else
                                                            some (0, o145.2)
                                                          else none
                                                          else none
                                                          else none
                                                        else
                                                          if ((X (ix v3)) &&& 63) = 26 then
                                                            if inb (v3 + 1) L = true then
                                                            (g_X7_pot n (X (ix (v3 + 1))) h).bind fun o138 =>
                                                            (g_X8_pot n (X (ix (v3 + 1))) o138.2).bind fun o139 =>
                                                            if o138.1 = o139.1 then
                                                              g_L_law_1773 X L n (g_L_law_18 X L n m) v3 o139.2
                                                            else
                                                              some (0, o139.2)
                                                            else none
                                                          else
                                                            if ((X (ix v3)) &&& 63) = 27 then
                                                              if inb (v3 + 1) L = true then
                                                              if inb (v3 + 2) L = true then
                                                              (g_X7_place n (X (ix (v3 + 1))) (X (ix (v3 + 2))) h).bind fun o134 =>
                                                              (g_X8_place n (X (ix (v3 + 1))) (X (ix (v3 + 2))) o134.2).bind fun o135 =>
                                                              if o134.1 = o135.1 then
                                                                g_L_law_1773 X L n (g_L_law_18 X L n m) v3 o135.2
                                                              else
                                                                some (0, o135.2)
                                                              else none
                                                              else none
                                                            else
                                                              if ((X (ix v3)) &&& 63) = 28 then
                                                                if inb (v3 + 1) L = true then
                                                                if inb (v3 + 2) L = true then
                                                                if inb (v3 + 3) L = true then
                                                                (g_X7_apart n (X (ix (v3 + 1))) (X (ix (v3 + 2))) (X (ix (v3 + 3))) h).bind fun o129 =>
                                                                (g_X8_apart n (X (ix (v3 + 1))) (X (ix (v3 + 2))) (X (ix (v3 + 3))) o129.2).bind fun o130 =>
                                                                if o129.1 = o130.1 then
                                                                  g_L_law_1773 X L n (g_L_law_18 X L n m) v3 o130.2
                                                                else
                                                                  some (0, o130.2)
                                                                else none
                                                                else none
                                                                else none
                                                              else
                                                                if ((X (ix v3)) &&& 63) = 29 then
                                                                  if inb (v3 + 1) L = true then
                                                                  if inb (v3 + 2) L = true then
                                                                  if inb (v3 + 3) L = true then
                                                                  (g_X7_parted n (X (ix (v3 + 1))) (X (ix (v3 + 2))) (X (ix (v3 + 3))) h).bind fun o123 =>
                                                                  (g_X8_parted n (X (ix (v3 + 1))) (X (ix (v3 + 2))) (X (ix (v3 + 3))) o123.2).bind fun o124 =>
                                                                  if o123.1 = o124.1 then
                                                                    g_L_law_1773 X L n (g_L_law_18 X L n m) v3 o124.2
                                                                  else
                                                                    some (0, o124.2)
                                                                  else none
                                                                  else none
                                                                  else none
                                                                else
                                                                  if ((X (ix v3)) &&& 63) = 30 then
                                                                    if inb (v3 + 1) L = true then
                                                                    (g_X7_round n (X (ix (v3 + 1))) h).bind fun o117 =>
                                                                    (g_X8_round n (X (ix (v3 + 1))) o117.2).bind fun o118 =>
                                                                    if o117.1 = o118.1 then
                                                                      g_L_law_1773 X L n (g_L_law_18 X L n m) v3 o118.2
                                                                    else
                                                                      some (0, o118.2)
                                                                    else none
                                                                  else
                                                                    if ((X (ix v3)) &&& 63) = 31 then
                                                                      if inb (v3 + 1) L = true then
                                                                      if inb (v3 + 2) L = true then
                                                                      if inb (v3 + 3) L = true then
                                                                      (g_X7_colours n (X (ix (v3 + 1))) (X (ix (v3 + 2))) (X (ix (v3 + 3))) h).bind fun o113 =>
                                                                      (g_X8_colours n (X (ix (v3 + 1))) (X (ix (v3 + 2))) (X (ix (v3 + 3))) o113.2).bind fun o114 =>
                                                                      if o113.1 = o114.1 then
                                                                        g_L_law_1773 X L n (g_L_law_18 X L n m) v3 o114.2
                                                                      else
                                                                        some (0, o114.2)
                                                                      else none
                                                                      else none
                                                                      else none
                                                                    else
                                                                      if ((X (ix v3)) &&& 63) = 32 then
                                                                        if inb (v3 + 1) L = true then
                                                                        if inb (v3 + 2) L = true then
                                                                        if inb (v3 + 3) L = true then
                                                                        (g_X7_thin n (X (ix (v3 + 1))) (X (ix (v3 + 2))) (X (ix (v3 + 3))) h).bind fun o107 =>
                                                                        (g_X8_thin n (X (ix (v3 + 1))) (X (ix (v3 + 2))) (X (ix (v3 + 3))) o107.2).bind fun o108 =>
                                                                        if o107.1 = o108.1 then
                                                                          g_L_law_1773 X L n (g_L_law_18 X L n m) v3 o108.2
                                                                        else
                                                                          some (0, o108.2)
                                                                        else none
                                                                        else none
                                                                        else none
                                                                      else
                                                                        if ((X (ix v3)) &&& 63) = 33 then
                                                                          if inb (v3 + 1) L = true then
                                                                          if inb (v3 + 2) L = true then
                                                                          if inb (v3 + 3) L = true then
                                                                          if inb (v3 + 4) L = true then
                                                                          (g_X7_odds n (X (ix (v3 + 1))) (X (ix (v3 + 2))) (X (ix (v3 + 3))) (X (ix (v3 + 4))) h).bind fun o101 =>
                                                                          (g_X8_odds n (X (ix (v3 + 1))) (X (ix (v3 + 2))) (X (ix (v3 + 3))) (X (ix (v3 + 4))) o101.2).bind fun o102 =>
                                                                          if o101.1 = o102.1 then
                                                                            g_L_law_1773 X L n (g_L_law_18 X L n m) v3 o102.2
                                                                          else
                                                                            some (0, o102.2)
                                                                          else none
                                                                          else none
                                                                          else none
                                                                          else none
                                                                        else
                                                                          if ((X (ix v3)) &&& 63) = 34 then
                                                                            if inb (v3 + 1) L = true then
                                                                            if inb (v3 + 2) L = true then
                                                                            if inb (v3 + 3) L = true then
                                                                            (g_X7_record n (X (ix (v3 + 1))) (X (ix (v3 + 2))) (X (ix (v3 + 3))) h).bind fun o94 =>
                                                                            (g_X8_record n (X (ix (v3 + 1))) (X (ix (v3 + 2))) (X (ix (v3 + 3))) o94.2).bind fun o95 =>
                                                                            if o94.1 = o95.1 then
                                                                              g_L_law_1773 X L n (g_L_law_18 X L n m) v3 o95.2
                                                                            else
                                                                              some (0, o95.2)
                                                                            else none
                                                                            else none
                                                                            else none
                                                                          else
                                                                            if ((X (ix v3)) &&& 63) = 35 then
                                                                              if inb (v3 + 1) L = true then
                                                                              if inb (v3 + 2) L = true then
                                                                              if inb (v3 + 3) L = true then
                                                                              if inb (v3 + 4) L = true then
                                                                              (g_X7_drawn n (X (ix (v3 + 1))) (X (ix (v3 + 2))) (X (ix (v3 + 3))) (X (ix (v3 + 4))) h).bind fun o88 =>
                                                                              (g_X8_drawn n (X (ix (v3 + 1))) (X (ix (v3 + 2))) (X (ix (v3 + 3))) (X (ix (v3 + 4))) o88.2).bind fun o89 =>
                                                                              if o88.1 = o89.1 then
                                                                                g_L_law_1773 X L n (g_L_law_18 X L n m) v3 o89.2
                                                                              else
                                                                                some (0, o89.2)
                                                                              else none
                                                                              else none
                                                                              else none
                                                                              else none
                                                                            else
                                                                              if ((X (ix v3)) &&& 63) = 36 then
                                                                                (g_X7_image h).bind fun o81 =>
                                                                                (g_X8_image n o81.2).bind fun o82 =>
                                                                                if o81.1 = o82.1 then
                                                                                  g_L_law_1773 X L n (g_L_law_18 X L n m) v3 o82.2
                                                                                else
                                                                                  some (0, o82.2)
                                                                              else
                                                                                if ((X (ix v3)) &&& 63) = 37 then
                                                                                  (g_X7_back h).bind fun o78 =>
                                                                                  (g_X8_back n o78.2).bind fun o79 =>
                                                                                  if o78.1 = o79.1 then
                                                                                    g_L_law_1773 X L n (g_L_law_18 X L n m) v3 o79.2
                                                                                  else
                                                                                    some (0, o79.2)
                                                                                else
                                                                                  if ((X (ix v3)) &&& 63) = 38 then
                                                                                    if inb (v3 + 1) L = true then
                                                                                    if inb (v3 + 2) L = true then
                                                                                    if inb (v3 + 3) L = true then
                                                                                    (g_X7_sheet n (X (ix (v3 + 1))) (X (ix (v3 + 2))) (X (ix (v3 + 3))) h).bind fun o75 =>
                                                                                    (g_X8_sheet n (X (ix (v3 + 1))) (X (ix (v3 + 2))) (X (ix (v3 + 3))) o75.2).bind fun o76 =>
                                                                                    if o75.1 = o76.1 then
                                                                                      g_L_law_1773 X L n (g_L_law_18 X L n m) v3 o76.2
                                                                                    else
                                                                                      some (0, o76.2)
                                                                                    else none
                                                                                    else none
                                                                                    else none
                                                                                  else
                                                                                    if ((X (ix v3)) &&& 63) = 39 then
                                                                                      if inb (v3 + 1) L = true then
                                                                                      if inb (v3 + 2) L = true then
                                                                                      if inb (v3 + 3) L = true then
                                                                                      (g_X7_cell (X (ix (v3 + 1))) (X (ix (v3 + 2))) (X (ix (v3 + 3))) h).bind fun o69 =>
                                                                                      (g_X8_cell (X (ix (v3 + 1))) (X (ix (v3 + 2))) (X (ix (v3 + 3))) o69.2).bind fun o70 =>
                                                                                      if o69.1 = o70.1 then
                                                                                        g_L_law_1773 X L n (g_L_law_18 X L n m) v3 o70.2
                                                                                      else
                                                                                        some (0, o70.2)
                                                                                      else none
                                                                                      else none
                                                                                      else none
                                                                                    else
                                                                                      if ((X (ix v3)) &&& 63) = 40 then
                                                                                        if inb (v3 + 1) L = true then
                                                                                        if inb (v3 + 2) L = true then
                                                                                        if inb (v3 + 3) L = true then
                                                                                        if inb (v3 + 4) L = true then
                                                                                        if inb (v3 + 5) L = true then
                                                                                        (g_X7_copy (X (ix (v3 + 1))) (X (ix (v3 + 2))) (X (ix (v3 + 3))) (X (ix (v3 + 4))) (X (ix (v3 + 5))) h).bind fun o63 =>
                                                                                        (g_X8_copy n (X (ix (v3 + 1))) (X (ix (v3 + 2))) (X (ix (v3 + 3))) (X (ix (v3 + 4))) (X (ix (v3 + 5))) o63.2).bind fun o64 =>
                                                                                        if o63.1 = o64.1 then
                                                                                          g_L_law_1773 X L n (g_L_law_18 X L n m) v3 o64.2
                                                                                        else
                                                                                          some (0, o64.2)
                                                                                        else none
                                                                                        else none
                                                                                        else none
                                                                                        else none
                                                                                        else none
                                                                                      else
                                                                                        if ((X (ix v3)) &&& 63) = 41 then
                                                                                          if inb (v3 + 1) L = true then
                                                                                          if inb (v3 + 2) L = true then
                                                                                          if inb (v3 + 3) L = true then
                                                                                          if inb (v3 + 4) L = true then
                                                                                          (g_X7_stepsBy n (X (ix (v3 + 1))) (X (ix (v3 + 2))) (X (ix (v3 + 3))) (X (ix (v3 + 4))) h).bind fun o55 =>
                                                                                          (g_X8_stepsBy n (X (ix (v3 + 1))) (X (ix (v3 + 2))) (X (ix (v3 + 3))) (X (ix (v3 + 4))) o55.2).bind fun o56 =>
                                                                                          if o55.1 = o56.1 then
                                                                                            g_L_law_1773 X L n (g_L_law_18 X L n m) v3 o56.2
                                                                                          else
                                                                                            some (0, o56.2)
                                                                                          else none
                                                                                          else none
                                                                                          else none
                                                                                          else none
                                                                                        else
                                                                                          if ((X (ix v3)) &&& 63) = 42 then
                                                                                            if inb (v3 + 1) L = true then
                                                                                            if inb (v3 + 2) L = true then
                                                                                            (g_X7_taken n (X (ix (v3 + 1))) (X (ix (v3 + 2))) h).bind fun o48 =>
                                                                                            (g_X8_taken (X (ix (v3 + 1))) (X (ix (v3 + 2))) o48.2).bind fun o49 =>
                                                                                            if o48.1 = o49.1 then
                                                                                              g_L_law_1773 X L n (g_L_law_18 X L n m) v3 o49.2
                                                                                            else
                                                                                              some (0, o49.2)
                                                                                            else none
                                                                                            else none
                                                                                          else
                                                                                            g_L_law_1773 X L n (g_L_law_18 X L n m) v3 h
      else none
set_option maxRecDepth 100000 in
set_option maxHeartbeats 4000000 in
theorem q_L_law_18 {X : Nat → Int32} {d : Nat} (hd : 110 ≤ (d + 1)) {L hi : Nat} (hh : 125 ≤ hi) {n : Nat} : ∀ (m : Nat) (v3 : Int32) (h : Hp) (o : (Int32 × Hp)), SHP L hi h → g_L_law_18 X L n m v3 h = some o → Run X (d + 1) 0 18 [some (.ref 14), some (.ref 16), some (.ref 96), some (.int v3)] [] h (some (.int o.1), o.2) ∧ SHP L hi o.2 := by
  intro m
  induction m with
  | zero => intro v3 h o SH hf; cases hf
  | succ m ih =>
    intro v3 h o SH hf
    rw [g_L_law_18] at hf
    refine And.imp_left (rs_iload_n i_L_law_18 rfl) ?_
    refine And.imp_left (rs_aload_n i_L_law_19 rfl) ?_
    refine And.imp_left (rs_alCn i_L_law_20 (sScr SH)) ?_
    refine And.imp_left (rs_bipush i_L_law_21 (v := 6) (by decide)) ?_
    refine And.imp_left (rs_isub i_L_law_23) ?_
    by_cases c1 : ((Int32.ofNat L) - 6) < v3
    · replace hf := (if_pos c1).symm.trans hf
      refine And.imp_left (rs_icT i_L_law_24 (ct_gt c1) (tg := 1779) (by decide)) ?_
      refine And.imp_left (rs_iconst i_L_law_1779 (v := 1) (by decide)) ?_
      have hf := Option.some.inj hf
      subst hf
      exact ⟨rs_iret i_L_law_1780 m_L_law (by decide), SH⟩
    · replace hf := (if_neg c1).symm.trans hf
      refine And.imp_left (rs_icF i_L_law_24 (cf_gt c1)) ?_
      refine And.imp_left (rs_aload_n i_L_law_27 rfl) ?_
      refine And.imp_left (rs_iload_n i_L_law_28 rfl) ?_
      obtain ⟨c2, hf⟩ := ite_some hf
      refine And.imp_left (rs_ialdS i_L_law_29 (sScrI SH c2)) ?_
      refine And.imp_left (rs_bipush i_L_law_30 (v := 63) (by decide)) ?_
      refine And.imp_left (rs_iand i_L_law_32) ?_
      by_cases c3 : ((X (ix v3)) &&& 63) = 0
      · replace hf := (if_pos c3).symm.trans hf
        refine And.imp_left (rs_tsw i_L_law_33 (off := 187) (by rw [c3]; decide) (tg := 220) (by decide)) ?_
        refine And.imp_left (rs_aload_n i_L_law_220 rfl) ?_
        refine And.imp_left (rs_aload_n i_L_law_221 rfl) ?_
        refine And.imp_left (rs_iload_n i_L_law_222 rfl) ?_
        refine And.imp_left (rs_iconst i_L_law_223 (v := 1) (by decide)) ?_
        refine And.imp_left (rs_iadd i_L_law_224) ?_
        obtain ⟨c266, hf⟩ := ite_some hf
        refine And.imp_left (rs_ialdS i_L_law_225 (sScrI SH c266)) ?_
        refine And.imp_left (rs_aload_n i_L_law_226 rfl) ?_
        refine And.imp_left (rs_iload_n i_L_law_227 rfl) ?_
        refine And.imp_left (rs_iconst i_L_law_228 (v := 2) (by decide)) ?_
        refine And.imp_left (rs_iadd i_L_law_229) ?_
        obtain ⟨c267, hf⟩ := ite_some hf
        refine And.imp_left (rs_ialdS i_L_law_230 (sScrI SH c267)) ?_
        refine And.imp_left (rs_aload_n i_L_law_231 rfl) ?_
        refine And.imp_left (rs_iload_n i_L_law_232 rfl) ?_
        refine And.imp_left (rs_iconst i_L_law_233 (v := 3) (by decide)) ?_
        refine And.imp_left (rs_iadd i_L_law_234) ?_
        obtain ⟨c268, hf⟩ := ite_some hf
        refine And.imp_left (rs_ialdS i_L_law_235 (sScrI SH c268)) ?_
        obtain ⟨o269, e269, hf⟩ := bind_some hf
        obtain ⟨u269, SH2⟩ := k_X7_roll (X := X) (d := d) (by omega) (by omega) SH e269
        refine And.imp_left (rs_inV i_L_law_236 m_X7_roll rfl (As := [.int (X (ix (v3 + 1))), .int (X (ix (v3 + 2))), .int (X (ix (v3 + 3)))]) (rest := []) rfl rfl (Nat.le_of_ble_eq_true rfl) (sO7 SH (by omega)) u269 (st' := [.int o269.1]) rfl) ?_
        clear SH; have SH := SH2; clear SH2
        refine And.imp_left (rs_aload_n i_L_law_239 rfl) ?_
        refine And.imp_left (rs_aload_n i_L_law_240 rfl) ?_
        refine And.imp_left (rs_iload_n i_L_law_241 rfl) ?_
        refine And.imp_left (rs_iconst i_L_law_242 (v := 1) (by decide)) ?_
        refine And.imp_left (rs_iadd i_L_law_243) ?_
        refine And.imp_left (rs_ialdS i_L_law_244 (sScrI SH c266)) ?_
        refine And.imp_left (rs_aload_n i_L_law_245 rfl) ?_
        refine And.imp_left (rs_iload_n i_L_law_246 rfl) ?_
        refine And.imp_left (rs_iconst i_L_law_247 (v := 2) (by decide)) ?_
        refine And.imp_left (rs_iadd i_L_law_248) ?_
        refine And.imp_left (rs_ialdS i_L_law_249 (sScrI SH c267)) ?_
        refine And.imp_left (rs_aload_n i_L_law_250 rfl) ?_
        refine And.imp_left (rs_iload_n i_L_law_251 rfl) ?_
        refine And.imp_left (rs_iconst i_L_law_252 (v := 3) (by decide)) ?_
        refine And.imp_left (rs_iadd i_L_law_253) ?_
        refine And.imp_left (rs_ialdS i_L_law_254 (sScrI SH c268)) ?_
        obtain ⟨o270, e270, hf⟩ := bind_some hf
        obtain ⟨u270, SH2⟩ := k_X8_roll (X := X) (d := d) (by omega) (by omega) SH e270
        refine And.imp_left (rs_inV i_L_law_255 m_X8_roll rfl (As := [.int (X (ix (v3 + 1))), .int (X (ix (v3 + 2))), .int (X (ix (v3 + 3)))]) (rest := [.int o269.1]) rfl rfl (Nat.le_of_ble_eq_true rfl) (sO8 SH hh) u270 (st' := [.int o270.1, .int o269.1]) rfl) ?_
        clear SH; have SH := SH2; clear SH2
        by_cases c271 : o269.1 = o270.1
        · replace hf := (if_pos c271).symm.trans hf
          refine And.imp_left (rs_icT i_L_law_258 (ct_eq c271) (tg := 1773) (by decide)) ?_
          exact q_L_law_1773 hd hh ih SH hf
        · replace hf := (if_neg c271).symm.trans hf
          refine And.imp_left (rs_icF i_L_law_258 (cf_eq c271)) ?_
          refine And.imp_left (rs_iconst i_L_law_261 (v := 0) (by decide)) ?_
          have hf := Option.some.inj hf
          subst hf
          exact ⟨rs_iret i_L_law_262 m_L_law (by decide), SH⟩
      · replace hf := (if_neg c3).symm.trans hf
        by_cases c4 : ((X (ix v3)) &&& 63) = 1
        · replace hf := (if_pos c4).symm.trans hf
          refine And.imp_left (rs_tsw i_L_law_33 (off := 230) (by rw [c4]; decide) (tg := 263) (by decide)) ?_
          refine And.imp_left (rs_aload_n i_L_law_263 rfl) ?_
          refine And.imp_left (rs_aload_n i_L_law_264 rfl) ?_
          refine And.imp_left (rs_iload_n i_L_law_265 rfl) ?_
          refine And.imp_left (rs_iconst i_L_law_266 (v := 1) (by decide)) ?_
          refine And.imp_left (rs_iadd i_L_law_267) ?_
          obtain ⟨c261, hf⟩ := ite_some hf
          refine And.imp_left (rs_ialdS i_L_law_268 (sScrI SH c261)) ?_
          refine And.imp_left (rs_aload_n i_L_law_269 rfl) ?_
          refine And.imp_left (rs_iload_n i_L_law_270 rfl) ?_
          refine And.imp_left (rs_iconst i_L_law_271 (v := 2) (by decide)) ?_
          refine And.imp_left (rs_iadd i_L_law_272) ?_
          obtain ⟨c262, hf⟩ := ite_some hf
          refine And.imp_left (rs_ialdS i_L_law_273 (sScrI SH c262)) ?_
          obtain ⟨o263, e263, hf⟩ := bind_some hf
          obtain ⟨u263, SH2⟩ := k_X7_set (X := X) (d := d) (by omega) (by omega) SH e263
          refine And.imp_left (rs_inV i_L_law_274 m_X7_set rfl (As := [.int (X (ix (v3 + 1))), .int (X (ix (v3 + 2)))]) (rest := []) rfl rfl (Nat.le_of_ble_eq_true rfl) (sO7 SH (by omega)) u263 (st' := [.int o263.1]) rfl) ?_
          clear SH; have SH := SH2; clear SH2
          refine And.imp_left (rs_aload_n i_L_law_277 rfl) ?_
          refine And.imp_left (rs_aload_n i_L_law_278 rfl) ?_
          refine And.imp_left (rs_iload_n i_L_law_279 rfl) ?_
          refine And.imp_left (rs_iconst i_L_law_280 (v := 1) (by decide)) ?_
          refine And.imp_left (rs_iadd i_L_law_281) ?_
          refine And.imp_left (rs_ialdS i_L_law_282 (sScrI SH c261)) ?_
          refine And.imp_left (rs_aload_n i_L_law_283 rfl) ?_
          refine And.imp_left (rs_iload_n i_L_law_284 rfl) ?_
          refine And.imp_left (rs_iconst i_L_law_285 (v := 2) (by decide)) ?_
          refine And.imp_left (rs_iadd i_L_law_286) ?_
          refine And.imp_left (rs_ialdS i_L_law_287 (sScrI SH c262)) ?_
          obtain ⟨o264, e264, hf⟩ := bind_some hf
          obtain ⟨u264, SH2⟩ := k_X8_set (X := X) (d := d) (by omega) (by omega) SH e264
          refine And.imp_left (rs_inV i_L_law_288 m_X8_set rfl (As := [.int (X (ix (v3 + 1))), .int (X (ix (v3 + 2)))]) (rest := [.int o263.1]) rfl rfl (Nat.le_of_ble_eq_true rfl) (sO8 SH hh) u264 (st' := [.int o264.1, .int o263.1]) rfl) ?_
          clear SH; have SH := SH2; clear SH2
          by_cases c265 : o263.1 = o264.1
          · replace hf := (if_pos c265).symm.trans hf
            refine And.imp_left (rs_icT i_L_law_291 (ct_eq c265) (tg := 1773) (by decide)) ?_
            exact q_L_law_1773 hd hh ih SH hf
          · replace hf := (if_neg c265).symm.trans hf
            refine And.imp_left (rs_icF i_L_law_291 (cf_eq c265)) ?_
            refine And.imp_left (rs_iconst i_L_law_294 (v := 0) (by decide)) ?_
            have hf := Option.some.inj hf
            subst hf
            exact ⟨rs_iret i_L_law_295 m_L_law (by decide), SH⟩
        · replace hf := (if_neg c4).symm.trans hf
          by_cases c5 : ((X (ix v3)) &&& 63) = 2
          · replace hf := (if_pos c5).symm.trans hf
            refine And.imp_left (rs_tsw i_L_law_33 (off := 263) (by rw [c5]; decide) (tg := 296) (by decide)) ?_
            refine And.imp_left (rs_aload_n i_L_law_296 rfl) ?_
            refine And.imp_left (rs_aload_n i_L_law_297 rfl) ?_
            refine And.imp_left (rs_iload_n i_L_law_298 rfl) ?_
            refine And.imp_left (rs_iconst i_L_law_299 (v := 1) (by decide)) ?_
            refine And.imp_left (rs_iadd i_L_law_300) ?_
            obtain ⟨c257, hf⟩ := ite_some hf
            refine And.imp_left (rs_ialdS i_L_law_301 (sScrI SH c257)) ?_
            obtain ⟨o258, e258, hf⟩ := bind_some hf
            obtain ⟨u258, SH2⟩ := k_X7_count (X := X) (d := d) (by omega) (by omega) SH e258
            refine And.imp_left (rs_inV i_L_law_302 m_X7_count rfl (As := [.int (X (ix (v3 + 1)))]) (rest := []) rfl rfl (Nat.le_of_ble_eq_true rfl) (sO7 SH (by omega)) u258 (st' := [.int o258.1]) rfl) ?_
            clear SH; have SH := SH2; clear SH2
            refine And.imp_left (rs_aload_n i_L_law_305 rfl) ?_
            refine And.imp_left (rs_aload_n i_L_law_306 rfl) ?_
            refine And.imp_left (rs_iload_n i_L_law_307 rfl) ?_
            refine And.imp_left (rs_iconst i_L_law_308 (v := 1) (by decide)) ?_
            refine And.imp_left (rs_iadd i_L_law_309) ?_
            refine And.imp_left (rs_ialdS i_L_law_310 (sScrI SH c257)) ?_
            obtain ⟨o259, e259, hf⟩ := bind_some hf
            obtain ⟨u259, SH2⟩ := k_X8_count (X := X) (d := d) (by omega) (by omega) SH e259
            refine And.imp_left (rs_inV i_L_law_311 m_X8_count rfl (As := [.int (X (ix (v3 + 1)))]) (rest := [.int o258.1]) rfl rfl (Nat.le_of_ble_eq_true rfl) (sO8 SH hh) u259 (st' := [.int o259.1, .int o258.1]) rfl) ?_
            clear SH; have SH := SH2; clear SH2
            by_cases c260 : o258.1 = o259.1
            · replace hf := (if_pos c260).symm.trans hf
              refine And.imp_left (rs_icT i_L_law_314 (ct_eq c260) (tg := 1773) (by decide)) ?_
              exact q_L_law_1773 hd hh ih SH hf
            · replace hf := (if_neg c260).symm.trans hf
              refine And.imp_left (rs_icF i_L_law_314 (cf_eq c260)) ?_
              refine And.imp_left (rs_iconst i_L_law_317 (v := 0) (by decide)) ?_
              have hf := Option.some.inj hf
              subst hf
              exact ⟨rs_iret i_L_law_318 m_L_law (by decide), SH⟩
          · replace hf := (if_neg c5).symm.trans hf
            by_cases c6 : ((X (ix v3)) &&& 63) = 3
            · replace hf := (if_pos c6).symm.trans hf
              refine And.imp_left (rs_tsw i_L_law_33 (off := 286) (by rw [c6]; decide) (tg := 319) (by decide)) ?_
              refine And.imp_left (rs_aload_n i_L_law_319 rfl) ?_
              refine And.imp_left (rs_aload_n i_L_law_320 rfl) ?_
              refine And.imp_left (rs_iload_n i_L_law_321 rfl) ?_
              refine And.imp_left (rs_iconst i_L_law_322 (v := 1) (by decide)) ?_
              refine And.imp_left (rs_iadd i_L_law_323) ?_
              obtain ⟨c251, hf⟩ := ite_some hf
              refine And.imp_left (rs_ialdS i_L_law_324 (sScrI SH c251)) ?_
              refine And.imp_left (rs_i2l i_L_law_325) ?_
              refine And.imp_left (rs_bipush i_L_law_326 (v := 32) (by decide)) ?_
              refine And.imp_left (rs_lshl i_L_law_328) ?_
              refine And.imp_left (rs_aload_n i_L_law_329 rfl) ?_
              refine And.imp_left (rs_iload_n i_L_law_330 rfl) ?_
              refine And.imp_left (rs_iconst i_L_law_331 (v := 2) (by decide)) ?_
              refine And.imp_left (rs_iadd i_L_law_332) ?_
              obtain ⟨c252, hf⟩ := ite_some hf
              refine And.imp_left (rs_ialdS i_L_law_333 (sScrI SH c252)) ?_
              refine And.imp_left (rs_i2l i_L_law_334) ?_
              refine And.imp_left (rs_ldc2 i_L_law_335 (v := 4294967295) (by decide)) ?_
              refine And.imp_left (rs_land i_L_law_338) ?_
              refine And.imp_left (rs_lor i_L_law_339) ?_
              refine And.imp_left (rs_aload_n i_L_law_340 rfl) ?_
              refine And.imp_left (rs_iload_n i_L_law_341 rfl) ?_
              refine And.imp_left (rs_iconst i_L_law_342 (v := 3) (by decide)) ?_
              refine And.imp_left (rs_iadd i_L_law_343) ?_
              obtain ⟨c253, hf⟩ := ite_some hf
              refine And.imp_left (rs_ialdS i_L_law_344 (sScrI SH c253)) ?_
              obtain ⟨o254, e254, hf⟩ := bind_some hf
              obtain ⟨u254, SH2⟩ := k_X7_feed (X := X) (d := d) (by omega) (by omega) SH e254
              refine And.imp_left (rs_inV i_L_law_345 m_X7_feed rfl (As := [.long (((Int32.toInt64 (X (ix (v3 + 1)))) <<< (Int32.toInt64 32 &&& 63)) ||| ((Int32.toInt64 (X (ix (v3 + 2)))) &&& 4294967295)), .int (X (ix (v3 + 3)))]) (rest := []) rfl rfl (Nat.le_of_ble_eq_true rfl) (sO7 SH (by omega)) u254 (st' := [.int o254.1]) rfl) ?_
              clear SH; have SH := SH2; clear SH2
              refine And.imp_left (rs_aload_n i_L_law_348 rfl) ?_
              refine And.imp_left (rs_aload_n i_L_law_349 rfl) ?_
              refine And.imp_left (rs_iload_n i_L_law_350 rfl) ?_
              refine And.imp_left (rs_iconst i_L_law_351 (v := 1) (by decide)) ?_
              refine And.imp_left (rs_iadd i_L_law_352) ?_
              refine And.imp_left (rs_ialdS i_L_law_353 (sScrI SH c251)) ?_
              refine And.imp_left (rs_i2l i_L_law_354) ?_
              refine And.imp_left (rs_bipush i_L_law_355 (v := 32) (by decide)) ?_
              refine And.imp_left (rs_lshl i_L_law_357) ?_
              refine And.imp_left (rs_aload_n i_L_law_358 rfl) ?_
              refine And.imp_left (rs_iload_n i_L_law_359 rfl) ?_
              refine And.imp_left (rs_iconst i_L_law_360 (v := 2) (by decide)) ?_
              refine And.imp_left (rs_iadd i_L_law_361) ?_
              refine And.imp_left (rs_ialdS i_L_law_362 (sScrI SH c252)) ?_
              refine And.imp_left (rs_i2l i_L_law_363) ?_
              refine And.imp_left (rs_ldc2 i_L_law_364 (v := 4294967295) (by decide)) ?_
              refine And.imp_left (rs_land i_L_law_367) ?_
              refine And.imp_left (rs_lor i_L_law_368) ?_
              refine And.imp_left (rs_aload_n i_L_law_369 rfl) ?_
              refine And.imp_left (rs_iload_n i_L_law_370 rfl) ?_
              refine And.imp_left (rs_iconst i_L_law_371 (v := 3) (by decide)) ?_
              refine And.imp_left (rs_iadd i_L_law_372) ?_
              refine And.imp_left (rs_ialdS i_L_law_373 (sScrI SH c253)) ?_
              obtain ⟨o255, e255, hf⟩ := bind_some hf
              obtain ⟨u255, SH2⟩ := k_X8_feed (X := X) (d := d) (by omega) (by omega) SH e255
              refine And.imp_left (rs_inV i_L_law_374 m_X8_feed rfl (As := [.long (((Int32.toInt64 (X (ix (v3 + 1)))) <<< (Int32.toInt64 32 &&& 63)) ||| ((Int32.toInt64 (X (ix (v3 + 2)))) &&& 4294967295)), .int (X (ix (v3 + 3)))]) (rest := [.int o254.1]) rfl rfl (Nat.le_of_ble_eq_true rfl) (sO8 SH hh) u255 (st' := [.int o255.1, .int o254.1]) rfl) ?_
              clear SH; have SH := SH2; clear SH2
              by_cases c256 : o254.1 = o255.1
              · replace hf := (if_pos c256).symm.trans hf
                refine And.imp_left (rs_icT i_L_law_377 (ct_eq c256) (tg := 1773) (by decide)) ?_
                exact q_L_law_1773 hd hh ih SH hf
              · replace hf := (if_neg c256).symm.trans hf
                refine And.imp_left (rs_icF i_L_law_377 (cf_eq c256)) ?_
                refine And.imp_left (rs_iconst i_L_law_380 (v := 0) (by decide)) ?_
                have hf := Option.some.inj hf
                subst hf
                exact ⟨rs_iret i_L_law_381 m_L_law (by decide), SH⟩
            · replace hf := (if_neg c6).symm.trans hf
              by_cases c7 : ((X (ix v3)) &&& 63) = 4
              · replace hf := (if_pos c7).symm.trans hf
                refine And.imp_left (rs_tsw i_L_law_33 (off := 349) (by rw [c7]; decide) (tg := 382) (by decide)) ?_
                refine And.imp_left (rs_aload_n i_L_law_382 rfl) ?_
                obtain ⟨o248, e248, hf⟩ := bind_some hf
                obtain ⟨u248, SH2⟩ := k_X7_text (X := X) (d := d) (by omega) (by omega) SH e248
                refine And.imp_left (rs_inV i_L_law_383 m_X7_text rfl (As := []) (rest := []) rfl rfl (Nat.le_of_ble_eq_true rfl) (sO7 SH (by omega)) u248 (st' := [.int o248.1]) rfl) ?_
                clear SH; have SH := SH2; clear SH2
                refine And.imp_left (rs_aload_n i_L_law_386 rfl) ?_
                obtain ⟨o249, e249, hf⟩ := bind_some hf
                obtain ⟨u249, SH2⟩ := k_X8_text (X := X) (d := d) (by omega) (by omega) SH e249
                refine And.imp_left (rs_inV i_L_law_387 m_X8_text rfl (As := []) (rest := [.int o248.1]) rfl rfl (Nat.le_of_ble_eq_true rfl) (sO8 SH hh) u249 (st' := [.int o249.1, .int o248.1]) rfl) ?_
                clear SH; have SH := SH2; clear SH2
                by_cases c250 : o248.1 = o249.1
                · replace hf := (if_pos c250).symm.trans hf
                  refine And.imp_left (rs_icT i_L_law_390 (ct_eq c250) (tg := 1773) (by decide)) ?_
                  exact q_L_law_1773 hd hh ih SH hf
                · replace hf := (if_neg c250).symm.trans hf
                  refine And.imp_left (rs_icF i_L_law_390 (cf_eq c250)) ?_
                  refine And.imp_left (rs_iconst i_L_law_393 (v := 0) (by decide)) ?_
                  have hf := Option.some.inj hf
                  subst hf
                  exact ⟨rs_iret i_L_law_394 m_L_law (by decide), SH⟩
              · replace hf := (if_neg c7).symm.trans hf
                by_cases c8 : ((X (ix v3)) &&& 63) = 5
                · replace hf := (if_pos c8).symm.trans hf
                  refine And.imp_left (rs_tsw i_L_law_33 (off := 362) (by rw [c8]; decide) (tg := 395) (by decide)) ?_
                  refine And.imp_left (rs_aload_n i_L_law_395 rfl) ?_
                  refine And.imp_left (rs_aload_n i_L_law_396 rfl) ?_
                  refine And.imp_left (rs_iload_n i_L_law_397 rfl) ?_
                  refine And.imp_left (rs_iconst i_L_law_398 (v := 1) (by decide)) ?_
                  refine And.imp_left (rs_iadd i_L_law_399) ?_
                  obtain ⟨c244, hf⟩ := ite_some hf
                  refine And.imp_left (rs_ialdS i_L_law_400 (sScrI SH c244)) ?_
                  obtain ⟨o245, e245, hf⟩ := bind_some hf
                  obtain ⟨u245, SH2⟩ := k_X7_force (X := X) (d := d) (by omega) (by omega) SH e245
                  refine And.imp_left (rs_inV i_L_law_401 m_X7_force rfl (As := [.int (X (ix (v3 + 1)))]) (rest := []) rfl rfl (Nat.le_of_ble_eq_true rfl) (sO7 SH (by omega)) u245 (st' := [.int o245.1]) rfl) ?_
                  clear SH; have SH := SH2; clear SH2
                  refine And.imp_left (rs_aload_n i_L_law_404 rfl) ?_
                  refine And.imp_left (rs_aload_n i_L_law_405 rfl) ?_
                  refine And.imp_left (rs_iload_n i_L_law_406 rfl) ?_
                  refine And.imp_left (rs_iconst i_L_law_407 (v := 1) (by decide)) ?_
                  refine And.imp_left (rs_iadd i_L_law_408) ?_
                  refine And.imp_left (rs_ialdS i_L_law_409 (sScrI SH c244)) ?_
                  obtain ⟨o246, e246, hf⟩ := bind_some hf
                  obtain ⟨u246, SH2⟩ := k_X8_force (X := X) (d := d) (by omega) (by omega) SH e246
                  refine And.imp_left (rs_inV i_L_law_410 m_X8_force rfl (As := [.int (X (ix (v3 + 1)))]) (rest := [.int o245.1]) rfl rfl (Nat.le_of_ble_eq_true rfl) (sO8 SH hh) u246 (st' := [.int o246.1, .int o245.1]) rfl) ?_
                  clear SH; have SH := SH2; clear SH2
                  by_cases c247 : o245.1 = o246.1
                  · replace hf := (if_pos c247).symm.trans hf
                    refine And.imp_left (rs_icT i_L_law_413 (ct_eq c247) (tg := 1773) (by decide)) ?_
                    exact q_L_law_1773 hd hh ih SH hf
                  · replace hf := (if_neg c247).symm.trans hf
                    refine And.imp_left (rs_icF i_L_law_413 (cf_eq c247)) ?_
                    refine And.imp_left (rs_iconst i_L_law_416 (v := 0) (by decide)) ?_
                    have hf := Option.some.inj hf
                    subst hf
                    exact ⟨rs_iret i_L_law_417 m_L_law (by decide), SH⟩
                · replace hf := (if_neg c8).symm.trans hf
                  by_cases c9 : ((X (ix v3)) &&& 63) = 6
                  · replace hf := (if_pos c9).symm.trans hf
                    refine And.imp_left (rs_tsw i_L_law_33 (off := 385) (by rw [c9]; decide) (tg := 418) (by decide)) ?_
                    refine And.imp_left (rs_aload_n i_L_law_418 rfl) ?_
                    refine And.imp_left (rs_aload_n i_L_law_419 rfl) ?_
                    refine And.imp_left (rs_iload_n i_L_law_420 rfl) ?_
                    refine And.imp_left (rs_iconst i_L_law_421 (v := 1) (by decide)) ?_
                    refine And.imp_left (rs_iadd i_L_law_422) ?_
                    obtain ⟨c238, hf⟩ := ite_some hf
                    refine And.imp_left (rs_ialdS i_L_law_423 (sScrI SH c238)) ?_
                    refine And.imp_left (rs_aload_n i_L_law_424 rfl) ?_
                    refine And.imp_left (rs_iload_n i_L_law_425 rfl) ?_
                    refine And.imp_left (rs_iconst i_L_law_426 (v := 2) (by decide)) ?_
                    refine And.imp_left (rs_iadd i_L_law_427) ?_
                    obtain ⟨c239, hf⟩ := ite_some hf
                    refine And.imp_left (rs_ialdS i_L_law_428 (sScrI SH c239)) ?_
                    refine And.imp_left (rs_aload_n i_L_law_429 rfl) ?_
                    refine And.imp_left (rs_iload_n i_L_law_430 rfl) ?_
                    refine And.imp_left (rs_iconst i_L_law_431 (v := 3) (by decide)) ?_
                    refine And.imp_left (rs_iadd i_L_law_432) ?_
                    obtain ⟨c240, hf⟩ := ite_some hf
                    refine And.imp_left (rs_ialdS i_L_law_433 (sScrI SH c240)) ?_
                    obtain ⟨o241, e241, hf⟩ := bind_some hf
                    obtain ⟨u241, SH2⟩ := k_X7_step (X := X) (d := d) (by omega) (by omega) SH e241
                    refine And.imp_left (rs_inV i_L_law_434 m_X7_step rfl (As := [.int (X (ix (v3 + 1))), .int (X (ix (v3 + 2))), .int (X (ix (v3 + 3)))]) (rest := []) rfl rfl (Nat.le_of_ble_eq_true rfl) (sO7 SH (by omega)) u241 (st' := [.int o241.1]) rfl) ?_
                    clear SH; have SH := SH2; clear SH2
                    refine And.imp_left (rs_aload_n i_L_law_437 rfl) ?_
                    refine And.imp_left (rs_aload_n i_L_law_438 rfl) ?_
                    refine And.imp_left (rs_iload_n i_L_law_439 rfl) ?_
                    refine And.imp_left (rs_iconst i_L_law_440 (v := 1) (by decide)) ?_
                    refine And.imp_left (rs_iadd i_L_law_441) ?_
                    refine And.imp_left (rs_ialdS i_L_law_442 (sScrI SH c238)) ?_
                    refine And.imp_left (rs_aload_n i_L_law_443 rfl) ?_
                    refine And.imp_left (rs_iload_n i_L_law_444 rfl) ?_
                    refine And.imp_left (rs_iconst i_L_law_445 (v := 2) (by decide)) ?_
                    refine And.imp_left (rs_iadd i_L_law_446) ?_
                    refine And.imp_left (rs_ialdS i_L_law_447 (sScrI SH c239)) ?_
                    refine And.imp_left (rs_aload_n i_L_law_448 rfl) ?_
                    refine And.imp_left (rs_iload_n i_L_law_449 rfl) ?_
                    refine And.imp_left (rs_iconst i_L_law_450 (v := 3) (by decide)) ?_
                    refine And.imp_left (rs_iadd i_L_law_451) ?_
                    refine And.imp_left (rs_ialdS i_L_law_452 (sScrI SH c240)) ?_
                    obtain ⟨o242, e242, hf⟩ := bind_some hf
                    obtain ⟨u242, SH2⟩ := k_X8_step (X := X) (d := d) (by omega) (by omega) SH e242
                    refine And.imp_left (rs_inV i_L_law_453 m_X8_step rfl (As := [.int (X (ix (v3 + 1))), .int (X (ix (v3 + 2))), .int (X (ix (v3 + 3)))]) (rest := [.int o241.1]) rfl rfl (Nat.le_of_ble_eq_true rfl) (sO8 SH hh) u242 (st' := [.int o242.1, .int o241.1]) rfl) ?_
                    clear SH; have SH := SH2; clear SH2
                    by_cases c243 : o241.1 = o242.1
                    · replace hf := (if_pos c243).symm.trans hf
                      refine And.imp_left (rs_icT i_L_law_456 (ct_eq c243) (tg := 1773) (by decide)) ?_
                      exact q_L_law_1773 hd hh ih SH hf
                    · replace hf := (if_neg c243).symm.trans hf
                      refine And.imp_left (rs_icF i_L_law_456 (cf_eq c243)) ?_
                      refine And.imp_left (rs_iconst i_L_law_459 (v := 0) (by decide)) ?_
                      have hf := Option.some.inj hf
                      subst hf
                      exact ⟨rs_iret i_L_law_460 m_L_law (by decide), SH⟩
                  · replace hf := (if_neg c9).symm.trans hf
                    by_cases c10 : ((X (ix v3)) &&& 63) = 7
                    · replace hf := (if_pos c10).symm.trans hf
                      refine And.imp_left (rs_tsw i_L_law_33 (off := 428) (by rw [c10]; decide) (tg := 461) (by decide)) ?_
                      refine And.imp_left (rs_aload_n i_L_law_461 rfl) ?_
                      obtain ⟨o235, e235, hf⟩ := bind_some hf
                      obtain ⟨u235, SH2⟩ := k_X7_forget (X := X) (d := d) (by omega) (by omega) SH e235
                      refine And.imp_left (rs_inV i_L_law_462 m_X7_forget rfl (As := []) (rest := []) rfl rfl (Nat.le_of_ble_eq_true rfl) (sO7 SH (by omega)) u235 (st' := [.int o235.1]) rfl) ?_
                      clear SH; have SH := SH2; clear SH2
                      refine And.imp_left (rs_aload_n i_L_law_465 rfl) ?_
                      obtain ⟨o236, e236, hf⟩ := bind_some hf
                      obtain ⟨u236, SH2⟩ := k_X8_forget (X := X) (d := d) (by omega) (by omega) SH e236
                      refine And.imp_left (rs_inV i_L_law_466 m_X8_forget rfl (As := []) (rest := [.int o235.1]) rfl rfl (Nat.le_of_ble_eq_true rfl) (sO8 SH hh) u236 (st' := [.int o236.1, .int o235.1]) rfl) ?_
                      clear SH; have SH := SH2; clear SH2
                      by_cases c237 : o235.1 = o236.1
                      · replace hf := (if_pos c237).symm.trans hf
                        refine And.imp_left (rs_icT i_L_law_469 (ct_eq c237) (tg := 1773) (by decide)) ?_
                        exact q_L_law_1773 hd hh ih SH hf
                      · replace hf := (if_neg c237).symm.trans hf
                        refine And.imp_left (rs_icF i_L_law_469 (cf_eq c237)) ?_
                        refine And.imp_left (rs_iconst i_L_law_472 (v := 0) (by decide)) ?_
                        have hf := Option.some.inj hf
                        subst hf
                        exact ⟨rs_iret i_L_law_473 m_L_law (by decide), SH⟩
                    · replace hf := (if_neg c10).symm.trans hf
                      by_cases c11 : ((X (ix v3)) &&& 63) = 8
                      · replace hf := (if_pos c11).symm.trans hf
                        refine And.imp_left (rs_tsw i_L_law_33 (off := 441) (by rw [c11]; decide) (tg := 474) (by decide)) ?_
                        refine And.imp_left (rs_aload_n i_L_law_474 rfl) ?_
                        refine And.imp_left (rs_aload_n i_L_law_475 rfl) ?_
                        refine And.imp_left (rs_iload_n i_L_law_476 rfl) ?_
                        refine And.imp_left (rs_iconst i_L_law_477 (v := 1) (by decide)) ?_
                        refine And.imp_left (rs_iadd i_L_law_478) ?_
                        obtain ⟨c230, hf⟩ := ite_some hf
                        refine And.imp_left (rs_ialdS i_L_law_479 (sScrI SH c230)) ?_
                        refine And.imp_left (rs_aload_n i_L_law_480 rfl) ?_
                        refine And.imp_left (rs_iload_n i_L_law_481 rfl) ?_
                        refine And.imp_left (rs_iconst i_L_law_482 (v := 2) (by decide)) ?_
                        refine And.imp_left (rs_iadd i_L_law_483) ?_
                        obtain ⟨c231, hf⟩ := ite_some hf
                        refine And.imp_left (rs_ialdS i_L_law_484 (sScrI SH c231)) ?_
                        obtain ⟨o232, e232, hf⟩ := bind_some hf
                        obtain ⟨u232, SH2⟩ := k_X7_stepTold (X := X) (d := d) (by omega) (by omega) SH e232
                        refine And.imp_left (rs_inV i_L_law_485 m_X7_stepTold rfl (As := [.int (X (ix (v3 + 1))), .int (X (ix (v3 + 2)))]) (rest := []) rfl rfl (Nat.le_of_ble_eq_true rfl) (sO7 SH (by omega)) u232 (st' := [.int o232.1]) rfl) ?_
                        clear SH; have SH := SH2; clear SH2
                        refine And.imp_left (rs_aload_n i_L_law_488 rfl) ?_
                        refine And.imp_left (rs_aload_n i_L_law_489 rfl) ?_
                        refine And.imp_left (rs_iload_n i_L_law_490 rfl) ?_
                        refine And.imp_left (rs_iconst i_L_law_491 (v := 1) (by decide)) ?_
                        refine And.imp_left (rs_iadd i_L_law_492) ?_
                        refine And.imp_left (rs_ialdS i_L_law_493 (sScrI SH c230)) ?_
                        refine And.imp_left (rs_aload_n i_L_law_494 rfl) ?_
                        refine And.imp_left (rs_iload_n i_L_law_495 rfl) ?_
                        refine And.imp_left (rs_iconst i_L_law_496 (v := 2) (by decide)) ?_
                        refine And.imp_left (rs_iadd i_L_law_497) ?_
                        refine And.imp_left (rs_ialdS i_L_law_498 (sScrI SH c231)) ?_
                        obtain ⟨o233, e233, hf⟩ := bind_some hf
                        obtain ⟨u233, SH2⟩ := k_X8_stepTold (X := X) (d := d) (by omega) (by omega) SH e233
                        refine And.imp_left (rs_inV i_L_law_499 m_X8_stepTold rfl (As := [.int (X (ix (v3 + 1))), .int (X (ix (v3 + 2)))]) (rest := [.int o232.1]) rfl rfl (Nat.le_of_ble_eq_true rfl) (sO8 SH hh) u233 (st' := [.int o233.1, .int o232.1]) rfl) ?_
                        clear SH; have SH := SH2; clear SH2
                        by_cases c234 : o232.1 = o233.1
                        · replace hf := (if_pos c234).symm.trans hf
                          refine And.imp_left (rs_icT i_L_law_502 (ct_eq c234) (tg := 1773) (by decide)) ?_
                          exact q_L_law_1773 hd hh ih SH hf
                        · replace hf := (if_neg c234).symm.trans hf
                          refine And.imp_left (rs_icF i_L_law_502 (cf_eq c234)) ?_
                          refine And.imp_left (rs_iconst i_L_law_505 (v := 0) (by decide)) ?_
                          have hf := Option.some.inj hf
                          subst hf
                          exact ⟨rs_iret i_L_law_506 m_L_law (by decide), SH⟩
                      · replace hf := (if_neg c11).symm.trans hf
                        by_cases c12 : ((X (ix v3)) &&& 63) = 9
                        · replace hf := (if_pos c12).symm.trans hf
                          refine And.imp_left (rs_tsw i_L_law_33 (off := 474) (by rw [c12]; decide) (tg := 507) (by decide)) ?_
                          refine And.imp_left (rs_aload_n i_L_law_507 rfl) ?_
                          refine And.imp_left (rs_aload_n i_L_law_508 rfl) ?_
                          refine And.imp_left (rs_iload_n i_L_law_509 rfl) ?_
                          refine And.imp_left (rs_iconst i_L_law_510 (v := 1) (by decide)) ?_
                          refine And.imp_left (rs_iadd i_L_law_511) ?_
                          obtain ⟨c224, hf⟩ := ite_some hf
                          refine And.imp_left (rs_ialdS i_L_law_512 (sScrI SH c224)) ?_
                          refine And.imp_left (rs_aload_n i_L_law_513 rfl) ?_
                          refine And.imp_left (rs_iload_n i_L_law_514 rfl) ?_
                          refine And.imp_left (rs_iconst i_L_law_515 (v := 2) (by decide)) ?_
                          refine And.imp_left (rs_iadd i_L_law_516) ?_
                          obtain ⟨c225, hf⟩ := ite_some hf
                          refine And.imp_left (rs_ialdS i_L_law_517 (sScrI SH c225)) ?_
                          refine And.imp_left (rs_aload_n i_L_law_518 rfl) ?_
                          refine And.imp_left (rs_iload_n i_L_law_519 rfl) ?_
                          refine And.imp_left (rs_iconst i_L_law_520 (v := 3) (by decide)) ?_
                          refine And.imp_left (rs_iadd i_L_law_521) ?_
                          obtain ⟨c226, hf⟩ := ite_some hf
                          refine And.imp_left (rs_ialdS i_L_law_522 (sScrI SH c226)) ?_
                          obtain ⟨o227, e227, hf⟩ := bind_some hf
                          obtain ⟨u227, SH2⟩ := k_X7_rope (X := X) (d := d) (by omega) (by omega) SH e227
                          refine And.imp_left (rs_inV i_L_law_523 m_X7_rope rfl (As := [.int (X (ix (v3 + 1))), .int (X (ix (v3 + 2))), .int (X (ix (v3 + 3)))]) (rest := []) rfl rfl (Nat.le_of_ble_eq_true rfl) (sO7 SH (by omega)) u227 (st' := [.int o227.1]) rfl) ?_
                          clear SH; have SH := SH2; clear SH2
                          refine And.imp_left (rs_aload_n i_L_law_526 rfl) ?_
                          refine And.imp_left (rs_aload_n i_L_law_527 rfl) ?_
                          refine And.imp_left (rs_iload_n i_L_law_528 rfl) ?_
                          refine And.imp_left (rs_iconst i_L_law_529 (v := 1) (by decide)) ?_
                          refine And.imp_left (rs_iadd i_L_law_530) ?_
                          refine And.imp_left (rs_ialdS i_L_law_531 (sScrI SH c224)) ?_
                          refine And.imp_left (rs_aload_n i_L_law_532 rfl) ?_
                          refine And.imp_left (rs_iload_n i_L_law_533 rfl) ?_
                          refine And.imp_left (rs_iconst i_L_law_534 (v := 2) (by decide)) ?_
                          refine And.imp_left (rs_iadd i_L_law_535) ?_
                          refine And.imp_left (rs_ialdS i_L_law_536 (sScrI SH c225)) ?_
                          refine And.imp_left (rs_aload_n i_L_law_537 rfl) ?_
                          refine And.imp_left (rs_iload_n i_L_law_538 rfl) ?_
                          refine And.imp_left (rs_iconst i_L_law_539 (v := 3) (by decide)) ?_
                          refine And.imp_left (rs_iadd i_L_law_540) ?_
                          refine And.imp_left (rs_ialdS i_L_law_541 (sScrI SH c226)) ?_
                          obtain ⟨o228, e228, hf⟩ := bind_some hf
                          obtain ⟨u228, SH2⟩ := k_X8_rope (X := X) (d := d) (by omega) (by omega) SH e228
                          refine And.imp_left (rs_inV i_L_law_542 m_X8_rope rfl (As := [.int (X (ix (v3 + 1))), .int (X (ix (v3 + 2))), .int (X (ix (v3 + 3)))]) (rest := [.int o227.1]) rfl rfl (Nat.le_of_ble_eq_true rfl) (sO8 SH hh) u228 (st' := [.int o228.1, .int o227.1]) rfl) ?_
                          clear SH; have SH := SH2; clear SH2
                          by_cases c229 : o227.1 = o228.1
                          · replace hf := (if_pos c229).symm.trans hf
                            refine And.imp_left (rs_icT i_L_law_545 (ct_eq c229) (tg := 1773) (by decide)) ?_
                            exact q_L_law_1773 hd hh ih SH hf
                          · replace hf := (if_neg c229).symm.trans hf
                            refine And.imp_left (rs_icF i_L_law_545 (cf_eq c229)) ?_
                            refine And.imp_left (rs_iconst i_L_law_548 (v := 0) (by decide)) ?_
                            have hf := Option.some.inj hf
                            subst hf
                            exact ⟨rs_iret i_L_law_549 m_L_law (by decide), SH⟩
                        · replace hf := (if_neg c12).symm.trans hf
                          by_cases c13 : ((X (ix v3)) &&& 63) = 10
                          · replace hf := (if_pos c13).symm.trans hf
                            refine And.imp_left (rs_tsw i_L_law_33 (off := 517) (by rw [c13]; decide) (tg := 550) (by decide)) ?_
                            refine And.imp_left (rs_aload_n i_L_law_550 rfl) ?_
                            refine And.imp_left (rs_aload_n i_L_law_551 rfl) ?_
                            refine And.imp_left (rs_iload_n i_L_law_552 rfl) ?_
                            refine And.imp_left (rs_iconst i_L_law_553 (v := 1) (by decide)) ?_
                            refine And.imp_left (rs_iadd i_L_law_554) ?_
                            obtain ⟨c219, hf⟩ := ite_some hf
                            refine And.imp_left (rs_ialdS i_L_law_555 (sScrI SH c219)) ?_
                            refine And.imp_left (rs_aload_n i_L_law_556 rfl) ?_
                            refine And.imp_left (rs_iload_n i_L_law_557 rfl) ?_
                            refine And.imp_left (rs_iconst i_L_law_558 (v := 2) (by decide)) ?_
                            refine And.imp_left (rs_iadd i_L_law_559) ?_
                            obtain ⟨c220, hf⟩ := ite_some hf
                            refine And.imp_left (rs_ialdS i_L_law_560 (sScrI SH c220)) ?_
                            obtain ⟨o221, e221, hf⟩ := bind_some hf
                            obtain ⟨u221, SH2⟩ := k_X7_state (X := X) (d := d) (by omega) (by omega) SH e221
                            refine And.imp_left (rs_inV i_L_law_561 m_X7_state rfl (As := [.int (X (ix (v3 + 1))), .int (X (ix (v3 + 2)))]) (rest := []) rfl rfl (Nat.le_of_ble_eq_true rfl) (sO7 SH (by omega)) u221 (st' := [.long o221.1]) rfl) ?_
                            clear SH; have SH := SH2; clear SH2
                            refine And.imp_left (rs_aload_n i_L_law_564 rfl) ?_
                            refine And.imp_left (rs_aload_n i_L_law_565 rfl) ?_
                            refine And.imp_left (rs_iload_n i_L_law_566 rfl) ?_
                            refine And.imp_left (rs_iconst i_L_law_567 (v := 1) (by decide)) ?_
                            refine And.imp_left (rs_iadd i_L_law_568) ?_
                            refine And.imp_left (rs_ialdS i_L_law_569 (sScrI SH c219)) ?_
                            refine And.imp_left (rs_aload_n i_L_law_570 rfl) ?_
                            refine And.imp_left (rs_iload_n i_L_law_571 rfl) ?_
                            refine And.imp_left (rs_iconst i_L_law_572 (v := 2) (by decide)) ?_
                            refine And.imp_left (rs_iadd i_L_law_573) ?_
                            refine And.imp_left (rs_ialdS i_L_law_574 (sScrI SH c220)) ?_
                            obtain ⟨o222, e222, hf⟩ := bind_some hf
                            obtain ⟨u222, SH2⟩ := k_X8_state (X := X) (d := d) (by omega) (by omega) SH e222
                            refine And.imp_left (rs_inV i_L_law_575 m_X8_state rfl (As := [.int (X (ix (v3 + 1))), .int (X (ix (v3 + 2)))]) (rest := [.long o221.1]) rfl rfl (Nat.le_of_ble_eq_true rfl) (sO8 SH hh) u222 (st' := [.long o222.1, .long o221.1]) rfl) ?_
                            clear SH; have SH := SH2; clear SH2
                            refine And.imp_left (rs_lcmp i_L_law_578) ?_
                            by_cases c223 : o221.1 = o222.1
                            · replace hf := (if_pos c223).symm.trans hf
                              refine And.imp_left (rs_ifT i_L_law_579 (by rw [lc_eq]; exact decide_eq_true c223) (tg := 1773) (by decide)) ?_
                              exact q_L_law_1773 hd hh ih SH hf
                            · replace hf := (if_neg c223).symm.trans hf
                              refine And.imp_left (rs_ifF i_L_law_579 (by rw [lc_eq]; exact decide_eq_false c223)) ?_
                              refine And.imp_left (rs_iconst i_L_law_582 (v := 0) (by decide)) ?_
                              have hf := Option.some.inj hf
                              subst hf
                              exact ⟨rs_iret i_L_law_583 m_L_law (by decide), SH⟩
                          · replace hf := (if_neg c13).symm.trans hf
                            by_cases c14 : ((X (ix v3)) &&& 63) = 11
                            · replace hf := (if_pos c14).symm.trans hf
                              refine And.imp_left (rs_tsw i_L_law_33 (off := 551) (by rw [c14]; decide) (tg := 584) (by decide)) ?_
                              refine And.imp_left (rs_aload_n i_L_law_584 rfl) ?_
                              refine And.imp_left (rs_aload_n i_L_law_585 rfl) ?_
                              refine And.imp_left (rs_iload_n i_L_law_586 rfl) ?_
                              refine And.imp_left (rs_iconst i_L_law_587 (v := 1) (by decide)) ?_
                              refine And.imp_left (rs_iadd i_L_law_588) ?_
                              obtain ⟨c214, hf⟩ := ite_some hf
                              refine And.imp_left (rs_ialdS i_L_law_589 (sScrI SH c214)) ?_
                              refine And.imp_left (rs_aload_n i_L_law_590 rfl) ?_
                              refine And.imp_left (rs_iload_n i_L_law_591 rfl) ?_
                              refine And.imp_left (rs_iconst i_L_law_592 (v := 2) (by decide)) ?_
                              refine And.imp_left (rs_iadd i_L_law_593) ?_
                              obtain ⟨c215, hf⟩ := ite_some hf
                              refine And.imp_left (rs_ialdS i_L_law_594 (sScrI SH c215)) ?_
                              obtain ⟨o216, e216, hf⟩ := bind_some hf
                              obtain ⟨u216, SH2⟩ := k_X7_whole (X := X) (d := d) (by omega) (by omega) SH e216
                              refine And.imp_left (rs_inV i_L_law_595 m_X7_whole rfl (As := [.int (X (ix (v3 + 1))), .int (X (ix (v3 + 2)))]) (rest := []) rfl rfl (Nat.le_of_ble_eq_true rfl) (sO7 SH (by omega)) u216 (st' := [.long o216.1]) rfl) ?_
                              clear SH; have SH := SH2; clear SH2
                              refine And.imp_left (rs_aload_n i_L_law_598 rfl) ?_
                              refine And.imp_left (rs_aload_n i_L_law_599 rfl) ?_
                              refine And.imp_left (rs_iload_n i_L_law_600 rfl) ?_
                              refine And.imp_left (rs_iconst i_L_law_601 (v := 1) (by decide)) ?_
                              refine And.imp_left (rs_iadd i_L_law_602) ?_
                              refine And.imp_left (rs_ialdS i_L_law_603 (sScrI SH c214)) ?_
                              refine And.imp_left (rs_aload_n i_L_law_604 rfl) ?_
                              refine And.imp_left (rs_iload_n i_L_law_605 rfl) ?_
                              refine And.imp_left (rs_iconst i_L_law_606 (v := 2) (by decide)) ?_
                              refine And.imp_left (rs_iadd i_L_law_607) ?_
                              refine And.imp_left (rs_ialdS i_L_law_608 (sScrI SH c215)) ?_
                              obtain ⟨o217, e217, hf⟩ := bind_some hf
                              obtain ⟨u217, SH2⟩ := k_X8_whole (X := X) (d := d) (by omega) (by omega) SH e217
                              refine And.imp_left (rs_inV i_L_law_609 m_X8_whole rfl (As := [.int (X (ix (v3 + 1))), .int (X (ix (v3 + 2)))]) (rest := [.long o216.1]) rfl rfl (Nat.le_of_ble_eq_true rfl) (sO8 SH hh) u217 (st' := [.long o217.1, .long o216.1]) rfl) ?_
                              clear SH; have SH := SH2; clear SH2
                              refine And.imp_left (rs_lcmp i_L_law_612) ?_
                              by_cases c218 : o216.1 = o217.1
                              · replace hf := (if_pos c218).symm.trans hf
                                refine And.imp_left (rs_ifT i_L_law_613 (by rw [lc_eq]; exact decide_eq_true c218) (tg := 1773) (by decide)) ?_
                                exact q_L_law_1773 hd hh ih SH hf
                              · replace hf := (if_neg c218).symm.trans hf
                                refine And.imp_left (rs_ifF i_L_law_613 (by rw [lc_eq]; exact decide_eq_false c218)) ?_
                                refine And.imp_left (rs_iconst i_L_law_616 (v := 0) (by decide)) ?_
                                have hf := Option.some.inj hf
                                subst hf
                                exact ⟨rs_iret i_L_law_617 m_L_law (by decide), SH⟩
                            · replace hf := (if_neg c14).symm.trans hf
                              by_cases c15 : ((X (ix v3)) &&& 63) = 12
                              · replace hf := (if_pos c15).symm.trans hf
                                refine And.imp_left (rs_tsw i_L_law_33 (off := 585) (by rw [c15]; decide) (tg := 618) (by decide)) ?_
                                refine And.imp_left (rs_aload_n i_L_law_618 rfl) ?_
                                refine And.imp_left (rs_aload_n i_L_law_619 rfl) ?_
                                refine And.imp_left (rs_iload_n i_L_law_620 rfl) ?_
                                refine And.imp_left (rs_iconst i_L_law_621 (v := 1) (by decide)) ?_
                                refine And.imp_left (rs_iadd i_L_law_622) ?_
                                obtain ⟨c210, hf⟩ := ite_some hf
                                refine And.imp_left (rs_ialdS i_L_law_623 (sScrI SH c210)) ?_
                                obtain ⟨o211, e211, hf⟩ := bind_some hf
                                obtain ⟨u211, SH2⟩ := k_X7_stop (X := X) (d := d) (by omega) (by omega) SH e211
                                refine And.imp_left (rs_inV i_L_law_624 m_X7_stop rfl (As := [.int (X (ix (v3 + 1)))]) (rest := []) rfl rfl (Nat.le_of_ble_eq_true rfl) (sO7 SH (by omega)) u211 (st' := [.int o211.1]) rfl) ?_
                                clear SH; have SH := SH2; clear SH2
                                refine And.imp_left (rs_aload_n i_L_law_627 rfl) ?_
                                refine And.imp_left (rs_aload_n i_L_law_628 rfl) ?_
                                refine And.imp_left (rs_iload_n i_L_law_629 rfl) ?_
                                refine And.imp_left (rs_iconst i_L_law_630 (v := 1) (by decide)) ?_
                                refine And.imp_left (rs_iadd i_L_law_631) ?_
                                refine And.imp_left (rs_ialdS i_L_law_632 (sScrI SH c210)) ?_
                                obtain ⟨o212, e212, hf⟩ := bind_some hf
                                obtain ⟨u212, SH2⟩ := k_X8_stop (X := X) (d := d) (by omega) (by omega) SH e212
                                refine And.imp_left (rs_inV i_L_law_633 m_X8_stop rfl (As := [.int (X (ix (v3 + 1)))]) (rest := [.int o211.1]) rfl rfl (Nat.le_of_ble_eq_true rfl) (sO8 SH hh) u212 (st' := [.int o212.1, .int o211.1]) rfl) ?_
                                clear SH; have SH := SH2; clear SH2
                                by_cases c213 : o211.1 = o212.1
                                · replace hf := (if_pos c213).symm.trans hf
                                  refine And.imp_left (rs_icT i_L_law_636 (ct_eq c213) (tg := 1773) (by decide)) ?_
                                  exact q_L_law_1773 hd hh ih SH hf
                                · replace hf := (if_neg c213).symm.trans hf
                                  refine And.imp_left (rs_icF i_L_law_636 (cf_eq c213)) ?_
                                  refine And.imp_left (rs_iconst i_L_law_639 (v := 0) (by decide)) ?_
                                  have hf := Option.some.inj hf
                                  subst hf
                                  exact ⟨rs_iret i_L_law_640 m_L_law (by decide), SH⟩
                              · replace hf := (if_neg c15).symm.trans hf
                                by_cases c16 : ((X (ix v3)) &&& 63) = 13
                                · replace hf := (if_pos c16).symm.trans hf
                                  refine And.imp_left (rs_tsw i_L_law_33 (off := 608) (by rw [c16]; decide) (tg := 641) (by decide)) ?_
                                  refine And.imp_left (rs_aload_n i_L_law_641 rfl) ?_
                                  obtain ⟨o207, e207, hf⟩ := bind_some hf
                                  obtain ⟨u207, SH2⟩ := k_X7_worst (X := X) (d := d) (by omega) (by omega) SH e207
                                  refine And.imp_left (rs_inV i_L_law_642 m_X7_worst rfl (As := []) (rest := []) rfl rfl (Nat.le_of_ble_eq_true rfl) (sO7 SH (by omega)) u207 (st' := [.int o207.1]) rfl) ?_
                                  clear SH; have SH := SH2; clear SH2
                                  refine And.imp_left (rs_aload_n i_L_law_645 rfl) ?_
                                  obtain ⟨o208, e208, hf⟩ := bind_some hf
                                  obtain ⟨u208, SH2⟩ := k_X8_worst (X := X) (d := d) (by omega) (by omega) SH e208
                                  refine And.imp_left (rs_inV i_L_law_646 m_X8_worst rfl (As := []) (rest := [.int o207.1]) rfl rfl (Nat.le_of_ble_eq_true rfl) (sO8 SH hh) u208 (st' := [.int o208.1, .int o207.1]) rfl) ?_
                                  clear SH; have SH := SH2; clear SH2
                                  by_cases c209 : o207.1 = o208.1
                                  · replace hf := (if_pos c209).symm.trans hf
                                    refine And.imp_left (rs_icT i_L_law_649 (ct_eq c209) (tg := 1773) (by decide)) ?_
                                    exact q_L_law_1773 hd hh ih SH hf
                                  · replace hf := (if_neg c209).symm.trans hf
                                    refine And.imp_left (rs_icF i_L_law_649 (cf_eq c209)) ?_
                                    refine And.imp_left (rs_iconst i_L_law_652 (v := 0) (by decide)) ?_
                                    have hf := Option.some.inj hf
                                    subst hf
                                    exact ⟨rs_iret i_L_law_653 m_L_law (by decide), SH⟩
                                · replace hf := (if_neg c16).symm.trans hf
                                  by_cases c17 : ((X (ix v3)) &&& 63) = 14
                                  · replace hf := (if_pos c17).symm.trans hf
                                    refine And.imp_left (rs_tsw i_L_law_33 (off := 621) (by rw [c17]; decide) (tg := 654) (by decide)) ?_
                                    refine And.imp_left (rs_aload_n i_L_law_654 rfl) ?_
                                    refine And.imp_left (rs_aload_n i_L_law_655 rfl) ?_
                                    refine And.imp_left (rs_iload_n i_L_law_656 rfl) ?_
                                    refine And.imp_left (rs_iconst i_L_law_657 (v := 1) (by decide)) ?_
                                    refine And.imp_left (rs_iadd i_L_law_658) ?_
                                    obtain ⟨c202, hf⟩ := ite_some hf
                                    refine And.imp_left (rs_ialdS i_L_law_659 (sScrI SH c202)) ?_
                                    refine And.imp_left (rs_aload_n i_L_law_660 rfl) ?_
                                    refine And.imp_left (rs_iload_n i_L_law_661 rfl) ?_
                                    refine And.imp_left (rs_iconst i_L_law_662 (v := 2) (by decide)) ?_
                                    refine And.imp_left (rs_iadd i_L_law_663) ?_
                                    obtain ⟨c203, hf⟩ := ite_some hf
                                    refine And.imp_left (rs_ialdS i_L_law_664 (sScrI SH c203)) ?_
                                    obtain ⟨o204, e204, hf⟩ := bind_some hf
                                    obtain ⟨u204, SH2⟩ := k_X7_window (X := X) (d := d) (by omega) (by omega) SH e204
                                    refine And.imp_left (rs_inV i_L_law_665 m_X7_window rfl (As := [.int (X (ix (v3 + 1))), .int (X (ix (v3 + 2)))]) (rest := []) rfl rfl (Nat.le_of_ble_eq_true rfl) (sO7 SH (by omega)) u204 (st' := [.int o204.1]) rfl) ?_
                                    clear SH; have SH := SH2; clear SH2
                                    refine And.imp_left (rs_aload_n i_L_law_668 rfl) ?_
                                    refine And.imp_left (rs_aload_n i_L_law_669 rfl) ?_
                                    refine And.imp_left (rs_iload_n i_L_law_670 rfl) ?_
                                    refine And.imp_left (rs_iconst i_L_law_671 (v := 1) (by decide)) ?_
                                    refine And.imp_left (rs_iadd i_L_law_672) ?_
                                    refine And.imp_left (rs_ialdS i_L_law_673 (sScrI SH c202)) ?_
                                    refine And.imp_left (rs_aload_n i_L_law_674 rfl) ?_
                                    refine And.imp_left (rs_iload_n i_L_law_675 rfl) ?_
                                    refine And.imp_left (rs_iconst i_L_law_676 (v := 2) (by decide)) ?_
                                    refine And.imp_left (rs_iadd i_L_law_677) ?_
                                    refine And.imp_left (rs_ialdS i_L_law_678 (sScrI SH c203)) ?_
                                    obtain ⟨o205, e205, hf⟩ := bind_some hf
                                    obtain ⟨u205, SH2⟩ := k_X8_window (X := X) (d := d) (by omega) (by omega) SH e205
                                    refine And.imp_left (rs_inV i_L_law_679 m_X8_window rfl (As := [.int (X (ix (v3 + 1))), .int (X (ix (v3 + 2)))]) (rest := [.int o204.1]) rfl rfl (Nat.le_of_ble_eq_true rfl) (sO8 SH hh) u205 (st' := [.int o205.1, .int o204.1]) rfl) ?_
                                    clear SH; have SH := SH2; clear SH2
                                    by_cases c206 : o204.1 = o205.1
                                    · replace hf := (if_pos c206).symm.trans hf
                                      refine And.imp_left (rs_icT i_L_law_682 (ct_eq c206) (tg := 1773) (by decide)) ?_
                                      exact q_L_law_1773 hd hh ih SH hf
                                    · replace hf := (if_neg c206).symm.trans hf
                                      refine And.imp_left (rs_icF i_L_law_682 (cf_eq c206)) ?_
                                      refine And.imp_left (rs_iconst i_L_law_685 (v := 0) (by decide)) ?_
                                      have hf := Option.some.inj hf
                                      subst hf
                                      exact ⟨rs_iret i_L_law_686 m_L_law (by decide), SH⟩
                                  · replace hf := (if_neg c17).symm.trans hf
                                    by_cases c18 : ((X (ix v3)) &&& 63) = 15
                                    · replace hf := (if_pos c18).symm.trans hf
                                      refine And.imp_left (rs_tsw i_L_law_33 (off := 654) (by rw [c18]; decide) (tg := 687) (by decide)) ?_
                                      refine And.imp_left (rs_aload_n i_L_law_687 rfl) ?_
                                      refine And.imp_left (rs_aload_n i_L_law_688 rfl) ?_
                                      refine And.imp_left (rs_iload_n i_L_law_689 rfl) ?_
                                      refine And.imp_left (rs_iconst i_L_law_690 (v := 1) (by decide)) ?_
                                      refine And.imp_left (rs_iadd i_L_law_691) ?_
                                      obtain ⟨c196, hf⟩ := ite_some hf
                                      refine And.imp_left (rs_ialdS i_L_law_692 (sScrI SH c196)) ?_
                                      refine And.imp_left (rs_aload_n i_L_law_693 rfl) ?_
                                      refine And.imp_left (rs_iload_n i_L_law_694 rfl) ?_
                                      refine And.imp_left (rs_iconst i_L_law_695 (v := 2) (by decide)) ?_
                                      refine And.imp_left (rs_iadd i_L_law_696) ?_
                                      obtain ⟨c197, hf⟩ := ite_some hf
                                      refine And.imp_left (rs_ialdS i_L_law_697 (sScrI SH c197)) ?_
                                      refine And.imp_left (rs_aload_n i_L_law_698 rfl) ?_
                                      refine And.imp_left (rs_iload_n i_L_law_699 rfl) ?_
                                      refine And.imp_left (rs_iconst i_L_law_700 (v := 3) (by decide)) ?_
                                      refine And.imp_left (rs_iadd i_L_law_701) ?_
                                      obtain ⟨c198, hf⟩ := ite_some hf
                                      refine And.imp_left (rs_ialdS i_L_law_702 (sScrI SH c198)) ?_
                                      obtain ⟨o199, e199, hf⟩ := bind_some hf
                                      obtain ⟨u199, SH2⟩ := k_X7_pace (X := X) (d := d) (by omega) (by omega) SH e199
                                      refine And.imp_left (rs_inV i_L_law_703 m_X7_pace rfl (As := [.int (X (ix (v3 + 1))), .int (X (ix (v3 + 2))), .int (X (ix (v3 + 3)))]) (rest := []) rfl rfl (Nat.le_of_ble_eq_true rfl) (sO7 SH (by omega)) u199 (st' := [.int o199.1]) rfl) ?_
                                      clear SH; have SH := SH2; clear SH2
                                      refine And.imp_left (rs_aload_n i_L_law_706 rfl) ?_
                                      refine And.imp_left (rs_aload_n i_L_law_707 rfl) ?_
                                      refine And.imp_left (rs_iload_n i_L_law_708 rfl) ?_
                                      refine And.imp_left (rs_iconst i_L_law_709 (v := 1) (by decide)) ?_
                                      refine And.imp_left (rs_iadd i_L_law_710) ?_
                                      refine And.imp_left (rs_ialdS i_L_law_711 (sScrI SH c196)) ?_
                                      refine And.imp_left (rs_aload_n i_L_law_712 rfl) ?_
                                      refine And.imp_left (rs_iload_n i_L_law_713 rfl) ?_
                                      refine And.imp_left (rs_iconst i_L_law_714 (v := 2) (by decide)) ?_
                                      refine And.imp_left (rs_iadd i_L_law_715) ?_
                                      refine And.imp_left (rs_ialdS i_L_law_716 (sScrI SH c197)) ?_
                                      refine And.imp_left (rs_aload_n i_L_law_717 rfl) ?_
                                      refine And.imp_left (rs_iload_n i_L_law_718 rfl) ?_
                                      refine And.imp_left (rs_iconst i_L_law_719 (v := 3) (by decide)) ?_
                                      refine And.imp_left (rs_iadd i_L_law_720) ?_
                                      refine And.imp_left (rs_ialdS i_L_law_721 (sScrI SH c198)) ?_
                                      obtain ⟨o200, e200, hf⟩ := bind_some hf
                                      obtain ⟨u200, SH2⟩ := k_X8_pace (X := X) (d := d) (by omega) (by omega) SH e200
                                      refine And.imp_left (rs_inV i_L_law_722 m_X8_pace rfl (As := [.int (X (ix (v3 + 1))), .int (X (ix (v3 + 2))), .int (X (ix (v3 + 3)))]) (rest := [.int o199.1]) rfl rfl (Nat.le_of_ble_eq_true rfl) (sO8 SH hh) u200 (st' := [.int o200.1, .int o199.1]) rfl) ?_
                                      clear SH; have SH := SH2; clear SH2
                                      by_cases c201 : o199.1 = o200.1
                                      · replace hf := (if_pos c201).symm.trans hf
                                        refine And.imp_left (rs_icT i_L_law_725 (ct_eq c201) (tg := 1773) (by decide)) ?_
                                        exact q_L_law_1773 hd hh ih SH hf
                                      · replace hf := (if_neg c201).symm.trans hf
                                        refine And.imp_left (rs_icF i_L_law_725 (cf_eq c201)) ?_
                                        refine And.imp_left (rs_iconst i_L_law_728 (v := 0) (by decide)) ?_
                                        have hf := Option.some.inj hf
                                        subst hf
                                        exact ⟨rs_iret i_L_law_729 m_L_law (by decide), SH⟩
                                    · replace hf := (if_neg c18).symm.trans hf
                                      by_cases c19 : ((X (ix v3)) &&& 63) = 16
                                      · replace hf := (if_pos c19).symm.trans hf
                                        refine And.imp_left (rs_tsw i_L_law_33 (off := 697) (by rw [c19]; decide) (tg := 730) (by decide)) ?_
                                        refine And.imp_left (rs_aload_n i_L_law_730 rfl) ?_
                                        refine And.imp_left (rs_aload_n i_L_law_731 rfl) ?_
                                        refine And.imp_left (rs_iload_n i_L_law_732 rfl) ?_
                                        refine And.imp_left (rs_iconst i_L_law_733 (v := 1) (by decide)) ?_
                                        refine And.imp_left (rs_iadd i_L_law_734) ?_
                                        obtain ⟨c190, hf⟩ := ite_some hf
                                        refine And.imp_left (rs_ialdS i_L_law_735 (sScrI SH c190)) ?_
                                        refine And.imp_left (rs_aload_n i_L_law_736 rfl) ?_
                                        refine And.imp_left (rs_iload_n i_L_law_737 rfl) ?_
                                        refine And.imp_left (rs_iconst i_L_law_738 (v := 2) (by decide)) ?_
                                        refine And.imp_left (rs_iadd i_L_law_739) ?_
                                        obtain ⟨c191, hf⟩ := ite_some hf
                                        refine And.imp_left (rs_ialdS i_L_law_740 (sScrI SH c191)) ?_
                                        refine And.imp_left (rs_aload_n i_L_law_741 rfl) ?_
                                        refine And.imp_left (rs_iload_n i_L_law_742 rfl) ?_
                                        refine And.imp_left (rs_iconst i_L_law_743 (v := 3) (by decide)) ?_
                                        refine And.imp_left (rs_iadd i_L_law_744) ?_
                                        obtain ⟨c192, hf⟩ := ite_some hf
                                        refine And.imp_left (rs_ialdS i_L_law_745 (sScrI SH c192)) ?_
                                        obtain ⟨o193, e193, hf⟩ := bind_some hf
                                        obtain ⟨u193, SH2⟩ := k_X7_rest (X := X) (d := d) (by omega) (by omega) SH e193
                                        refine And.imp_left (rs_inV i_L_law_746 m_X7_rest rfl (As := [.int (X (ix (v3 + 1))), .int (X (ix (v3 + 2))), .int (X (ix (v3 + 3)))]) (rest := []) rfl rfl (Nat.le_of_ble_eq_true rfl) (sO7 SH (by omega)) u193 (st' := [.int o193.1]) rfl) ?_
                                        clear SH; have SH := SH2; clear SH2
                                        refine And.imp_left (rs_aload_n i_L_law_749 rfl) ?_
                                        refine And.imp_left (rs_aload_n i_L_law_750 rfl) ?_
                                        refine And.imp_left (rs_iload_n i_L_law_751 rfl) ?_
                                        refine And.imp_left (rs_iconst i_L_law_752 (v := 1) (by decide)) ?_
                                        refine And.imp_left (rs_iadd i_L_law_753) ?_
                                        refine And.imp_left (rs_ialdS i_L_law_754 (sScrI SH c190)) ?_
                                        refine And.imp_left (rs_aload_n i_L_law_755 rfl) ?_
                                        refine And.imp_left (rs_iload_n i_L_law_756 rfl) ?_
                                        refine And.imp_left (rs_iconst i_L_law_757 (v := 2) (by decide)) ?_
                                        refine And.imp_left (rs_iadd i_L_law_758) ?_
                                        refine And.imp_left (rs_ialdS i_L_law_759 (sScrI SH c191)) ?_
                                        refine And.imp_left (rs_aload_n i_L_law_760 rfl) ?_
                                        refine And.imp_left (rs_iload_n i_L_law_761 rfl) ?_
                                        refine And.imp_left (rs_iconst i_L_law_762 (v := 3) (by decide)) ?_
                                        refine And.imp_left (rs_iadd i_L_law_763) ?_
                                        refine And.imp_left (rs_ialdS i_L_law_764 (sScrI SH c192)) ?_
                                        obtain ⟨o194, e194, hf⟩ := bind_some hf
                                        obtain ⟨u194, SH2⟩ := k_X8_rest (X := X) (d := d) (by omega) (by omega) SH e194
                                        refine And.imp_left (rs_inV i_L_law_765 m_X8_rest rfl (As := [.int (X (ix (v3 + 1))), .int (X (ix (v3 + 2))), .int (X (ix (v3 + 3)))]) (rest := [.int o193.1]) rfl rfl (Nat.le_of_ble_eq_true rfl) (sO8 SH hh) u194 (st' := [.int o194.1, .int o193.1]) rfl) ?_
                                        clear SH; have SH := SH2; clear SH2
                                        by_cases c195 : o193.1 = o194.1
                                        · replace hf := (if_pos c195).symm.trans hf
                                          refine And.imp_left (rs_icT i_L_law_768 (ct_eq c195) (tg := 1773) (by decide)) ?_
                                          exact q_L_law_1773 hd hh ih SH hf
                                        · replace hf := (if_neg c195).symm.trans hf
                                          refine And.imp_left (rs_icF i_L_law_768 (cf_eq c195)) ?_
                                          refine And.imp_left (rs_iconst i_L_law_771 (v := 0) (by decide)) ?_
                                          have hf := Option.some.inj hf
                                          subst hf
                                          exact ⟨rs_iret i_L_law_772 m_L_law (by decide), SH⟩
                                      · replace hf := (if_neg c19).symm.trans hf
                                        by_cases c20 : ((X (ix v3)) &&& 63) = 17
                                        · replace hf := (if_pos c20).symm.trans hf
                                          refine And.imp_left (rs_tsw i_L_law_33 (off := 740) (by rw [c20]; decide) (tg := 773) (by decide)) ?_
                                          refine And.imp_left (rs_aload_n i_L_law_773 rfl) ?_
                                          refine And.imp_left (rs_aload_n i_L_law_774 rfl) ?_
                                          refine And.imp_left (rs_iload_n i_L_law_775 rfl) ?_
                                          refine And.imp_left (rs_iconst i_L_law_776 (v := 1) (by decide)) ?_
                                          refine And.imp_left (rs_iadd i_L_law_777) ?_
                                          obtain ⟨c185, hf⟩ := ite_some hf
                                          refine And.imp_left (rs_ialdS i_L_law_778 (sScrI SH c185)) ?_
                                          refine And.imp_left (rs_aload_n i_L_law_779 rfl) ?_
                                          refine And.imp_left (rs_iload_n i_L_law_780 rfl) ?_
                                          refine And.imp_left (rs_iconst i_L_law_781 (v := 2) (by decide)) ?_
                                          refine And.imp_left (rs_iadd i_L_law_782) ?_
                                          obtain ⟨c186, hf⟩ := ite_some hf
                                          refine And.imp_left (rs_ialdS i_L_law_783 (sScrI SH c186)) ?_
                                          obtain ⟨o187, e187, hf⟩ := bind_some hf
                                          obtain ⟨u187, SH2⟩ := k_X7_dust (X := X) (d := d) (by omega) (by omega) SH e187
                                          refine And.imp_left (rs_inV i_L_law_784 m_X7_dust rfl (As := [.int (X (ix (v3 + 1))), .int (X (ix (v3 + 2)))]) (rest := []) rfl rfl (Nat.le_of_ble_eq_true rfl) (sO7 SH (by omega)) u187 (st' := [.int o187.1]) rfl) ?_
                                          clear SH; have SH := SH2; clear SH2
                                          refine And.imp_left (rs_aload_n i_L_law_787 rfl) ?_
                                          refine And.imp_left (rs_aload_n i_L_law_788 rfl) ?_
                                          refine And.imp_left (rs_iload_n i_L_law_789 rfl) ?_
                                          refine And.imp_left (rs_iconst i_L_law_790 (v := 1) (by decide)) ?_
                                          refine And.imp_left (rs_iadd i_L_law_791) ?_
                                          refine And.imp_left (rs_ialdS i_L_law_792 (sScrI SH c185)) ?_
                                          refine And.imp_left (rs_aload_n i_L_law_793 rfl) ?_
                                          refine And.imp_left (rs_iload_n i_L_law_794 rfl) ?_
                                          refine And.imp_left (rs_iconst i_L_law_795 (v := 2) (by decide)) ?_
                                          refine And.imp_left (rs_iadd i_L_law_796) ?_
                                          refine And.imp_left (rs_ialdS i_L_law_797 (sScrI SH c186)) ?_
                                          obtain ⟨o188, e188, hf⟩ := bind_some hf
                                          obtain ⟨u188, SH2⟩ := k_X8_dust (X := X) (d := d) (by omega) (by omega) SH e188
                                          refine And.imp_left (rs_inV i_L_law_798 m_X8_dust rfl (As := [.int (X (ix (v3 + 1))), .int (X (ix (v3 + 2)))]) (rest := [.int o187.1]) rfl rfl (Nat.le_of_ble_eq_true rfl) (sO8 SH hh) u188 (st' := [.int o188.1, .int o187.1]) rfl) ?_
                                          clear SH; have SH := SH2; clear SH2
                                          by_cases c189 : o187.1 = o188.1
                                          · replace hf := (if_pos c189).symm.trans hf
                                            refine And.imp_left (rs_icT i_L_law_801 (ct_eq c189) (tg := 1773) (by decide)) ?_
                                            exact q_L_law_1773 hd hh ih SH hf
                                          · replace hf := (if_neg c189).symm.trans hf
                                            refine And.imp_left (rs_icF i_L_law_801 (cf_eq c189)) ?_
                                            refine And.imp_left (rs_iconst i_L_law_804 (v := 0) (by decide)) ?_
                                            have hf := Option.some.inj hf
                                            subst hf
                                            exact ⟨rs_iret i_L_law_805 m_L_law (by decide), SH⟩
                                        · replace hf := (if_neg c20).symm.trans hf
                                          by_cases c21 : ((X (ix v3)) &&& 63) = 18
                                          · replace hf := (if_pos c21).symm.trans hf
                                            refine And.imp_left (rs_tsw i_L_law_33 (off := 773) (by rw [c21]; decide) (tg := 806) (by decide)) ?_
                                            refine And.imp_left (rs_aload_n i_L_law_806 rfl) ?_
                                            refine And.imp_left (rs_aload_n i_L_law_807 rfl) ?_
                                            refine And.imp_left (rs_iload_n i_L_law_808 rfl) ?_
                                            refine And.imp_left (rs_iconst i_L_law_809 (v := 1) (by decide)) ?_
                                            refine And.imp_left (rs_iadd i_L_law_810) ?_
                                            obtain ⟨c179, hf⟩ := ite_some hf
                                            refine And.imp_left (rs_ialdS i_L_law_811 (sScrI SH c179)) ?_
                                            refine And.imp_left (rs_aload_n i_L_law_812 rfl) ?_
                                            refine And.imp_left (rs_iload_n i_L_law_813 rfl) ?_
                                            refine And.imp_left (rs_iconst i_L_law_814 (v := 2) (by decide)) ?_
                                            refine And.imp_left (rs_iadd i_L_law_815) ?_
                                            obtain ⟨c180, hf⟩ := ite_some hf
                                            refine And.imp_left (rs_ialdS i_L_law_816 (sScrI SH c180)) ?_
                                            refine And.imp_left (rs_aload_n i_L_law_817 rfl) ?_
                                            refine And.imp_left (rs_iload_n i_L_law_818 rfl) ?_
                                            refine And.imp_left (rs_iconst i_L_law_819 (v := 3) (by decide)) ?_
                                            refine And.imp_left (rs_iadd i_L_law_820) ?_
                                            obtain ⟨c181, hf⟩ := ite_some hf
                                            refine And.imp_left (rs_ialdS i_L_law_821 (sScrI SH c181)) ?_
                                            obtain ⟨o182, e182, hf⟩ := bind_some hf
                                            obtain ⟨u182, SH2⟩ := k_X7_doublings (X := X) (d := d) (by omega) (by omega) SH e182
                                            refine And.imp_left (rs_inV i_L_law_822 m_X7_doublings rfl (As := [.int (X (ix (v3 + 1))), .int (X (ix (v3 + 2))), .int (X (ix (v3 + 3)))]) (rest := []) rfl rfl (Nat.le_of_ble_eq_true rfl) (sO7 SH (by omega)) u182 (st' := [.int o182.1]) rfl) ?_
                                            clear SH; have SH := SH2; clear SH2
                                            refine And.imp_left (rs_aload_n i_L_law_825 rfl) ?_
                                            refine And.imp_left (rs_aload_n i_L_law_826 rfl) ?_
                                            refine And.imp_left (rs_iload_n i_L_law_827 rfl) ?_
                                            refine And.imp_left (rs_iconst i_L_law_828 (v := 1) (by decide)) ?_
                                            refine And.imp_left (rs_iadd i_L_law_829) ?_
                                            refine And.imp_left (rs_ialdS i_L_law_830 (sScrI SH c179)) ?_
                                            refine And.imp_left (rs_aload_n i_L_law_831 rfl) ?_
                                            refine And.imp_left (rs_iload_n i_L_law_832 rfl) ?_
                                            refine And.imp_left (rs_iconst i_L_law_833 (v := 2) (by decide)) ?_
                                            refine And.imp_left (rs_iadd i_L_law_834) ?_
                                            refine And.imp_left (rs_ialdS i_L_law_835 (sScrI SH c180)) ?_
                                            refine And.imp_left (rs_aload_n i_L_law_836 rfl) ?_
                                            refine And.imp_left (rs_iload_n i_L_law_837 rfl) ?_
                                            refine And.imp_left (rs_iconst i_L_law_838 (v := 3) (by decide)) ?_
                                            refine And.imp_left (rs_iadd i_L_law_839) ?_
                                            refine And.imp_left (rs_ialdS i_L_law_840 (sScrI SH c181)) ?_
                                            obtain ⟨o183, e183, hf⟩ := bind_some hf
                                            obtain ⟨u183, SH2⟩ := k_X8_doublings (X := X) (d := d) (by omega) (by omega) SH e183
                                            refine And.imp_left (rs_inV i_L_law_841 m_X8_doublings rfl (As := [.int (X (ix (v3 + 1))), .int (X (ix (v3 + 2))), .int (X (ix (v3 + 3)))]) (rest := [.int o182.1]) rfl rfl (Nat.le_of_ble_eq_true rfl) (sO8 SH hh) u183 (st' := [.int o183.1, .int o182.1]) rfl) ?_
                                            clear SH; have SH := SH2; clear SH2
                                            by_cases c184 : o182.1 = o183.1
                                            · replace hf := (if_pos c184).symm.trans hf
                                              refine And.imp_left (rs_icT i_L_law_844 (ct_eq c184) (tg := 1773) (by decide)) ?_
                                              exact q_L_law_1773 hd hh ih SH hf
                                            · replace hf := (if_neg c184).symm.trans hf
                                              refine And.imp_left (rs_icF i_L_law_844 (cf_eq c184)) ?_
                                              refine And.imp_left (rs_iconst i_L_law_847 (v := 0) (by decide)) ?_
                                              have hf := Option.some.inj hf
                                              subst hf
                                              exact ⟨rs_iret i_L_law_848 m_L_law (by decide), SH⟩
                                          · replace hf := (if_neg c21).symm.trans hf
                                            by_cases c22 : ((X (ix v3)) &&& 63) = 19
                                            · replace hf := (if_pos c22).symm.trans hf
                                              refine And.imp_left (rs_tsw i_L_law_33 (off := 816) (by rw [c22]; decide) (tg := 849) (by decide)) ?_
                                              refine And.imp_left (rs_aload_n i_L_law_849 rfl) ?_
                                              refine And.imp_left (rs_aload_n i_L_law_850 rfl) ?_
                                              refine And.imp_left (rs_iload_n i_L_law_851 rfl) ?_
                                              refine And.imp_left (rs_iconst i_L_law_852 (v := 1) (by decide)) ?_
                                              refine And.imp_left (rs_iadd i_L_law_853) ?_
                                              obtain ⟨c173, hf⟩ := ite_some hf
                                              refine And.imp_left (rs_ialdS i_L_law_854 (sScrI SH c173)) ?_
                                              refine And.imp_left (rs_aload_n i_L_law_855 rfl) ?_
                                              refine And.imp_left (rs_iload_n i_L_law_856 rfl) ?_
                                              refine And.imp_left (rs_iconst i_L_law_857 (v := 2) (by decide)) ?_
                                              refine And.imp_left (rs_iadd i_L_law_858) ?_
                                              obtain ⟨c174, hf⟩ := ite_some hf
                                              refine And.imp_left (rs_ialdS i_L_law_859 (sScrI SH c174)) ?_
                                              refine And.imp_left (rs_aload_n i_L_law_860 rfl) ?_
                                              refine And.imp_left (rs_iload_n i_L_law_861 rfl) ?_
                                              refine And.imp_left (rs_iconst i_L_law_862 (v := 3) (by decide)) ?_
                                              refine And.imp_left (rs_iadd i_L_law_863) ?_
                                              obtain ⟨c175, hf⟩ := ite_some hf
                                              refine And.imp_left (rs_ialdS i_L_law_864 (sScrI SH c175)) ?_
                                              obtain ⟨o176, e176, hf⟩ := bind_some hf
                                              obtain ⟨u176, SH2⟩ := k_X7_judge (X := X) (d := d) (by omega) (by omega) SH e176
                                              refine And.imp_left (rs_inV i_L_law_865 m_X7_judge rfl (As := [.int (X (ix (v3 + 1))), .int (X (ix (v3 + 2))), .int (X (ix (v3 + 3)))]) (rest := []) rfl rfl (Nat.le_of_ble_eq_true rfl) (sO7 SH (by omega)) u176 (st' := [.int o176.1]) rfl) ?_
                                              clear SH; have SH := SH2; clear SH2
                                              refine And.imp_left (rs_aload_n i_L_law_868 rfl) ?_
                                              refine And.imp_left (rs_aload_n i_L_law_869 rfl) ?_
                                              refine And.imp_left (rs_iload_n i_L_law_870 rfl) ?_
                                              refine And.imp_left (rs_iconst i_L_law_871 (v := 1) (by decide)) ?_
                                              refine And.imp_left (rs_iadd i_L_law_872) ?_
                                              refine And.imp_left (rs_ialdS i_L_law_873 (sScrI SH c173)) ?_
                                              refine And.imp_left (rs_aload_n i_L_law_874 rfl) ?_
                                              refine And.imp_left (rs_iload_n i_L_law_875 rfl) ?_
                                              refine And.imp_left (rs_iconst i_L_law_876 (v := 2) (by decide)) ?_
                                              refine And.imp_left (rs_iadd i_L_law_877) ?_
                                              refine And.imp_left (rs_ialdS i_L_law_878 (sScrI SH c174)) ?_
                                              refine And.imp_left (rs_aload_n i_L_law_879 rfl) ?_
                                              refine And.imp_left (rs_iload_n i_L_law_880 rfl) ?_
                                              refine And.imp_left (rs_iconst i_L_law_881 (v := 3) (by decide)) ?_
                                              refine And.imp_left (rs_iadd i_L_law_882) ?_
                                              refine And.imp_left (rs_ialdS i_L_law_883 (sScrI SH c175)) ?_
                                              obtain ⟨o177, e177, hf⟩ := bind_some hf
                                              obtain ⟨u177, SH2⟩ := k_X8_judge (X := X) (d := d) (by omega) (by omega) SH e177
                                              refine And.imp_left (rs_inV i_L_law_884 m_X8_judge rfl (As := [.int (X (ix (v3 + 1))), .int (X (ix (v3 + 2))), .int (X (ix (v3 + 3)))]) (rest := [.int o176.1]) rfl rfl (Nat.le_of_ble_eq_true rfl) (sO8 SH hh) u177 (st' := [.int o177.1, .int o176.1]) rfl) ?_
                                              clear SH; have SH := SH2; clear SH2
                                              by_cases c178 : o176.1 = o177.1
                                              · replace hf := (if_pos c178).symm.trans hf
                                                refine And.imp_left (rs_icT i_L_law_887 (ct_eq c178) (tg := 1773) (by decide)) ?_
                                                exact q_L_law_1773 hd hh ih SH hf
                                              · replace hf := (if_neg c178).symm.trans hf
                                                refine And.imp_left (rs_icF i_L_law_887 (cf_eq c178)) ?_
                                                refine And.imp_left (rs_iconst i_L_law_890 (v := 0) (by decide)) ?_
                                                have hf := Option.some.inj hf
                                                subst hf
                                                exact ⟨rs_iret i_L_law_891 m_L_law (by decide), SH⟩
                                            · replace hf := (if_neg c22).symm.trans hf
                                              by_cases c23 : ((X (ix v3)) &&& 63) = 20
                                              · replace hf := (if_pos c23).symm.trans hf
                                                refine And.imp_left (rs_tsw i_L_law_33 (off := 859) (by rw [c23]; decide) (tg := 892) (by decide)) ?_
                                                refine And.imp_left (rs_aload_n i_L_law_892 rfl) ?_
                                                refine And.imp_left (rs_aload_n i_L_law_893 rfl) ?_
                                                refine And.imp_left (rs_iload_n i_L_law_894 rfl) ?_
                                                refine And.imp_left (rs_iconst i_L_law_895 (v := 1) (by decide)) ?_
                                                refine And.imp_left (rs_iadd i_L_law_896) ?_
                                                obtain ⟨c168, hf⟩ := ite_some hf
                                                refine And.imp_left (rs_ialdS i_L_law_897 (sScrI SH c168)) ?_
                                                refine And.imp_left (rs_aload_n i_L_law_898 rfl) ?_
                                                refine And.imp_left (rs_iload_n i_L_law_899 rfl) ?_
                                                refine And.imp_left (rs_iconst i_L_law_900 (v := 2) (by decide)) ?_
                                                refine And.imp_left (rs_iadd i_L_law_901) ?_
                                                obtain ⟨c169, hf⟩ := ite_some hf
                                                refine And.imp_left (rs_ialdS i_L_law_902 (sScrI SH c169)) ?_
                                                obtain ⟨o170, e170, hf⟩ := bind_some hf
                                                obtain ⟨u170, SH2⟩ := k_X7_film (X := X) (d := d) (by omega) (by omega) SH e170
                                                refine And.imp_left (rs_inV i_L_law_903 m_X7_film rfl (As := [.int (X (ix (v3 + 1))), .int (X (ix (v3 + 2)))]) (rest := []) rfl rfl (Nat.le_of_ble_eq_true rfl) (sO7 SH (by omega)) u170 (st' := [.int o170.1]) rfl) ?_
                                                clear SH; have SH := SH2; clear SH2
                                                refine And.imp_left (rs_aload_n i_L_law_906 rfl) ?_
                                                refine And.imp_left (rs_aload_n i_L_law_907 rfl) ?_
                                                refine And.imp_left (rs_iload_n i_L_law_908 rfl) ?_
                                                refine And.imp_left (rs_iconst i_L_law_909 (v := 1) (by decide)) ?_
                                                refine And.imp_left (rs_iadd i_L_law_910) ?_
                                                refine And.imp_left (rs_ialdS i_L_law_911 (sScrI SH c168)) ?_
                                                refine And.imp_left (rs_aload_n i_L_law_912 rfl) ?_
                                                refine And.imp_left (rs_iload_n i_L_law_913 rfl) ?_
                                                refine And.imp_left (rs_iconst i_L_law_914 (v := 2) (by decide)) ?_
                                                refine And.imp_left (rs_iadd i_L_law_915) ?_
                                                refine And.imp_left (rs_ialdS i_L_law_916 (sScrI SH c169)) ?_
                                                obtain ⟨o171, e171, hf⟩ := bind_some hf
                                                obtain ⟨u171, SH2⟩ := k_X8_film (X := X) (d := d) (by omega) (by omega) SH e171
                                                refine And.imp_left (rs_inV i_L_law_917 m_X8_film rfl (As := [.int (X (ix (v3 + 1))), .int (X (ix (v3 + 2)))]) (rest := [.int o170.1]) rfl rfl (Nat.le_of_ble_eq_true rfl) (sO8 SH hh) u171 (st' := [.int o171.1, .int o170.1]) rfl) ?_
                                                clear SH; have SH := SH2; clear SH2
                                                by_cases c172 : o170.1 = o171.1
                                                · replace hf := (if_pos c172).symm.trans hf
                                                  refine And.imp_left (rs_icT i_L_law_920 (ct_eq c172) (tg := 1773) (by decide)) ?_
                                                  exact q_L_law_1773 hd hh ih SH hf
                                                · replace hf := (if_neg c172).symm.trans hf
                                                  refine And.imp_left (rs_icF i_L_law_920 (cf_eq c172)) ?_
                                                  refine And.imp_left (rs_iconst i_L_law_923 (v := 0) (by decide)) ?_
                                                  have hf := Option.some.inj hf
                                                  subst hf
                                                  exact ⟨rs_iret i_L_law_924 m_L_law (by decide), SH⟩
                                              · replace hf := (if_neg c23).symm.trans hf
                                                by_cases c24 : ((X (ix v3)) &&& 63) = 21
                                                · replace hf := (if_pos c24).symm.trans hf
                                                  refine And.imp_left (rs_tsw i_L_law_33 (off := 892) (by rw [c24]; decide) (tg := 925) (by decide)) ?_
                                                  refine And.imp_left (rs_aload_n i_L_law_925 rfl) ?_
                                                  refine And.imp_left (rs_aload_n i_L_law_926 rfl) ?_
                                                  refine And.imp_left (rs_iload_n i_L_law_927 rfl) ?_
                                                  refine And.imp_left (rs_iconst i_L_law_928 (v := 1) (by decide)) ?_
                                                  refine And.imp_left (rs_iadd i_L_law_929) ?_
                                                  obtain ⟨c162, hf⟩ := ite_some hf
                                                  refine And.imp_left (rs_ialdS i_L_law_930 (sScrI SH c162)) ?_
                                                  refine And.imp_left (rs_aload_n i_L_law_931 rfl) ?_
                                                  refine And.imp_left (rs_iload_n i_L_law_932 rfl) ?_
                                                  refine And.imp_left (rs_iconst i_L_law_933 (v := 2) (by decide)) ?_
                                                  refine And.imp_left (rs_iadd i_L_law_934) ?_
                                                  obtain ⟨c163, hf⟩ := ite_some hf
                                                  refine And.imp_left (rs_ialdS i_L_law_935 (sScrI SH c163)) ?_
                                                  refine And.imp_left (rs_aload_n i_L_law_936 rfl) ?_
                                                  refine And.imp_left (rs_iload_n i_L_law_937 rfl) ?_
                                                  refine And.imp_left (rs_iconst i_L_law_938 (v := 3) (by decide)) ?_
                                                  refine And.imp_left (rs_iadd i_L_law_939) ?_
                                                  obtain ⟨c164, hf⟩ := ite_some hf
                                                  refine And.imp_left (rs_ialdS i_L_law_940 (sScrI SH c164)) ?_
                                                  obtain ⟨o165, e165, hf⟩ := bind_some hf
                                                  obtain ⟨u165, SH2⟩ := k_X7_serves (X := X) (d := d) (by omega) (by omega) SH e165
                                                  refine And.imp_left (rs_inV i_L_law_941 m_X7_serves rfl (As := [.int (X (ix (v3 + 1))), .int (X (ix (v3 + 2))), .int (X (ix (v3 + 3)))]) (rest := []) rfl rfl (Nat.le_of_ble_eq_true rfl) (sO7 SH (by omega)) u165 (st' := [.int o165.1]) rfl) ?_
                                                  clear SH; have SH := SH2; clear SH2
                                                  refine And.imp_left (rs_aload_n i_L_law_944 rfl) ?_
                                                  refine And.imp_left (rs_aload_n i_L_law_945 rfl) ?_
                                                  refine And.imp_left (rs_iload_n i_L_law_946 rfl) ?_
                                                  refine And.imp_left (rs_iconst i_L_law_947 (v := 1) (by decide)) ?_
                                                  refine And.imp_left (rs_iadd i_L_law_948) ?_
                                                  refine And.imp_left (rs_ialdS i_L_law_949 (sScrI SH c162)) ?_
                                                  refine And.imp_left (rs_aload_n i_L_law_950 rfl) ?_
                                                  refine And.imp_left (rs_iload_n i_L_law_951 rfl) ?_
                                                  refine And.imp_left (rs_iconst i_L_law_952 (v := 2) (by decide)) ?_
                                                  refine And.imp_left (rs_iadd i_L_law_953) ?_
                                                  refine And.imp_left (rs_ialdS i_L_law_954 (sScrI SH c163)) ?_
                                                  refine And.imp_left (rs_aload_n i_L_law_955 rfl) ?_
                                                  refine And.imp_left (rs_iload_n i_L_law_956 rfl) ?_
                                                  refine And.imp_left (rs_iconst i_L_law_957 (v := 3) (by decide)) ?_
                                                  refine And.imp_left (rs_iadd i_L_law_958) ?_
                                                  refine And.imp_left (rs_ialdS i_L_law_959 (sScrI SH c164)) ?_
                                                  obtain ⟨o166, e166, hf⟩ := bind_some hf
                                                  obtain ⟨u166, SH2⟩ := k_X8_serves (X := X) (d := d) (by omega) (by omega) SH e166
                                                  refine And.imp_left (rs_inV i_L_law_960 m_X8_serves rfl (As := [.int (X (ix (v3 + 1))), .int (X (ix (v3 + 2))), .int (X (ix (v3 + 3)))]) (rest := [.int o165.1]) rfl rfl (Nat.le_of_ble_eq_true rfl) (sO8 SH hh) u166 (st' := [.int o166.1, .int o165.1]) rfl) ?_
                                                  clear SH; have SH := SH2; clear SH2
                                                  by_cases c167 : o165.1 = o166.1
                                                  · replace hf := (if_pos c167).symm.trans hf
                                                    refine And.imp_left (rs_icT i_L_law_963 (ct_eq c167) (tg := 1773) (by decide)) ?_
                                                    exact q_L_law_1773 hd hh ih SH hf
                                                  · replace hf := (if_neg c167).symm.trans hf
                                                    refine And.imp_left (rs_icF i_L_law_963 (cf_eq c167)) ?_
                                                    refine And.imp_left (rs_iconst i_L_law_966 (v := 0) (by decide)) ?_
                                                    have hf := Option.some.inj hf
                                                    subst hf
                                                    exact ⟨rs_iret i_L_law_967 m_L_law (by decide), SH⟩
                                                · replace hf := (if_neg c24).symm.trans hf
                                                  by_cases c25 : ((X (ix v3)) &&& 63) = 22
                                                  · replace hf := (if_pos c25).symm.trans hf
                                                    refine And.imp_left (rs_tsw i_L_law_33 (off := 935) (by rw [c25]; decide) (tg := 968) (by decide)) ?_
                                                    refine And.imp_left (rs_aload_n i_L_law_968 rfl) ?_
                                                    refine And.imp_left (rs_aload_n i_L_law_969 rfl) ?_
                                                    refine And.imp_left (rs_iload_n i_L_law_970 rfl) ?_
                                                    refine And.imp_left (rs_iconst i_L_law_971 (v := 1) (by decide)) ?_
                                                    refine And.imp_left (rs_iadd i_L_law_972) ?_
                                                    obtain ⟨c157, hf⟩ := ite_some hf
                                                    refine And.imp_left (rs_ialdS i_L_law_973 (sScrI SH c157)) ?_
                                                    refine And.imp_left (rs_aload_n i_L_law_974 rfl) ?_
                                                    refine And.imp_left (rs_iload_n i_L_law_975 rfl) ?_
                                                    refine And.imp_left (rs_iconst i_L_law_976 (v := 2) (by decide)) ?_
                                                    refine And.imp_left (rs_iadd i_L_law_977) ?_
                                                    obtain ⟨c158, hf⟩ := ite_some hf
                                                    refine And.imp_left (rs_ialdS i_L_law_978 (sScrI SH c158)) ?_
                                                    obtain ⟨o159, e159, hf⟩ := bind_some hf
                                                    obtain ⟨u159, SH2⟩ := k_X7_which (X := X) (d := d) (by omega) (by omega) SH e159
                                                    refine And.imp_left (rs_inV i_L_law_979 m_X7_which rfl (As := [.int (X (ix (v3 + 1))), .int (X (ix (v3 + 2)))]) (rest := []) rfl rfl (Nat.le_of_ble_eq_true rfl) (sO7 SH (by omega)) u159 (st' := [.int o159.1]) rfl) ?_
                                                    clear SH; have SH := SH2; clear SH2
                                                    refine And.imp_left (rs_aload_n i_L_law_982 rfl) ?_
                                                    refine And.imp_left (rs_aload_n i_L_law_983 rfl) ?_
                                                    refine And.imp_left (rs_iload_n i_L_law_984 rfl) ?_
                                                    refine And.imp_left (rs_iconst i_L_law_985 (v := 1) (by decide)) ?_
                                                    refine And.imp_left (rs_iadd i_L_law_986) ?_
                                                    refine And.imp_left (rs_ialdS i_L_law_987 (sScrI SH c157)) ?_
                                                    refine And.imp_left (rs_aload_n i_L_law_988 rfl) ?_
                                                    refine And.imp_left (rs_iload_n i_L_law_989 rfl) ?_
                                                    refine And.imp_left (rs_iconst i_L_law_990 (v := 2) (by decide)) ?_
                                                    refine And.imp_left (rs_iadd i_L_law_991) ?_
                                                    refine And.imp_left (rs_ialdS i_L_law_992 (sScrI SH c158)) ?_
                                                    obtain ⟨o160, e160, hf⟩ := bind_some hf
                                                    obtain ⟨u160, SH2⟩ := k_X8_which (X := X) (d := d) (by omega) (by omega) SH e160
                                                    refine And.imp_left (rs_inV i_L_law_993 m_X8_which rfl (As := [.int (X (ix (v3 + 1))), .int (X (ix (v3 + 2)))]) (rest := [.int o159.1]) rfl rfl (Nat.le_of_ble_eq_true rfl) (sO8 SH hh) u160 (st' := [.int o160.1, .int o159.1]) rfl) ?_
                                                    clear SH; have SH := SH2; clear SH2
                                                    by_cases c161 : o159.1 = o160.1
                                                    · replace hf := (if_pos c161).symm.trans hf
                                                      refine And.imp_left (rs_icT i_L_law_996 (ct_eq c161) (tg := 1773) (by decide)) ?_
                                                      exact q_L_law_1773 hd hh ih SH hf
                                                    · replace hf := (if_neg c161).symm.trans hf
                                                      refine And.imp_left (rs_icF i_L_law_996 (cf_eq c161)) ?_
                                                      refine And.imp_left (rs_iconst i_L_law_999 (v := 0) (by decide)) ?_
                                                      have hf := Option.some.inj hf
                                                      subst hf
                                                      exact ⟨rs_iret i_L_law_1000 m_L_law (by decide), SH⟩
                                                  · replace hf := (if_neg c25).symm.trans hf
                                                    by_cases c26 : ((X (ix v3)) &&& 63) = 23
                                                    · replace hf := (if_pos c26).symm.trans hf
                                                      refine And.imp_left (rs_tsw i_L_law_33 (off := 968) (by rw [c26]; decide) (tg := 1001) (by decide)) ?_
                                                      refine And.imp_left (rs_aload_n i_L_law_1001 rfl) ?_
                                                      refine And.imp_left (rs_aload_n i_L_law_1002 rfl) ?_
                                                      refine And.imp_left (rs_iload_n i_L_law_1003 rfl) ?_
                                                      refine And.imp_left (rs_iconst i_L_law_1004 (v := 1) (by decide)) ?_
                                                      refine And.imp_left (rs_iadd i_L_law_1005) ?_
                                                      obtain ⟨c152, hf⟩ := ite_some hf
                                                      refine And.imp_left (rs_ialdS i_L_law_1006 (sScrI SH c152)) ?_
                                                      refine And.imp_left (rs_aload_n i_L_law_1007 rfl) ?_
                                                      refine And.imp_left (rs_iload_n i_L_law_1008 rfl) ?_
                                                      refine And.imp_left (rs_iconst i_L_law_1009 (v := 2) (by decide)) ?_
                                                      refine And.imp_left (rs_iadd i_L_law_1010) ?_
                                                      obtain ⟨c153, hf⟩ := ite_some hf
                                                      refine And.imp_left (rs_ialdS i_L_law_1011 (sScrI SH c153)) ?_
                                                      obtain ⟨o154, e154, hf⟩ := bind_some hf
                                                      obtain ⟨u154, SH2⟩ := k_X7_fault (X := X) (d := d) (by omega) (by omega) SH e154
                                                      refine And.imp_left (rs_inV i_L_law_1012 m_X7_fault rfl (As := [.int (X (ix (v3 + 1))), .int (X (ix (v3 + 2)))]) (rest := []) rfl rfl (Nat.le_of_ble_eq_true rfl) (sO7 SH (by omega)) u154 (st' := [.int o154.1]) rfl) ?_
                                                      clear SH; have SH := SH2; clear SH2
                                                      refine And.imp_left (rs_aload_n i_L_law_1015 rfl) ?_
                                                      refine And.imp_left (rs_aload_n i_L_law_1016 rfl) ?_
                                                      refine And.imp_left (rs_iload_n i_L_law_1017 rfl) ?_
                                                      refine And.imp_left (rs_iconst i_L_law_1018 (v := 1) (by decide)) ?_
                                                      refine And.imp_left (rs_iadd i_L_law_1019) ?_
                                                      refine And.imp_left (rs_ialdS i_L_law_1020 (sScrI SH c152)) ?_
                                                      refine And.imp_left (rs_aload_n i_L_law_1021 rfl) ?_
                                                      refine And.imp_left (rs_iload_n i_L_law_1022 rfl) ?_
                                                      refine And.imp_left (rs_iconst i_L_law_1023 (v := 2) (by decide)) ?_
                                                      refine And.imp_left (rs_iadd i_L_law_1024) ?_
                                                      refine And.imp_left (rs_ialdS i_L_law_1025 (sScrI SH c153)) ?_
                                                      obtain ⟨o155, e155, hf⟩ := bind_some hf
                                                      obtain ⟨u155, SH2⟩ := k_X8_fault (X := X) (d := d) (by omega) (by omega) SH e155
                                                      refine And.imp_left (rs_inV i_L_law_1026 m_X8_fault rfl (As := [.int (X (ix (v3 + 1))), .int (X (ix (v3 + 2)))]) (rest := [.int o154.1]) rfl rfl (Nat.le_of_ble_eq_true rfl) (sO8 SH hh) u155 (st' := [.int o155.1, .int o154.1]) rfl) ?_
                                                      clear SH; have SH := SH2; clear SH2
                                                      by_cases c156 : o154.1 = o155.1
                                                      · replace hf := (if_pos c156).symm.trans hf
                                                        refine And.imp_left (rs_icT i_L_law_1029 (ct_eq c156) (tg := 1773) (by decide)) ?_
                                                        exact q_L_law_1773 hd hh ih SH hf
                                                      · replace hf := (if_neg c156).symm.trans hf
                                                        refine And.imp_left (rs_icF i_L_law_1029 (cf_eq c156)) ?_
                                                        refine And.imp_left (rs_iconst i_L_law_1032 (v := 0) (by decide)) ?_
                                                        have hf := Option.some.inj hf
                                                        subst hf
                                                        exact ⟨rs_iret i_L_law_1033 m_L_law (by decide), SH⟩
                                                    · replace hf := (if_neg c26).symm.trans hf
                                                      by_cases c27 : ((X (ix v3)) &&& 63) = 24
                                                      · replace hf := (if_pos c27).symm.trans hf
                                                        refine And.imp_left (rs_tsw i_L_law_33 (off := 1001) (by rw [c27]; decide) (tg := 1034) (by decide)) ?_
                                                        refine And.imp_left (rs_aload_n i_L_law_1034 rfl) ?_
                                                        refine And.imp_left (rs_aload_n i_L_law_1035 rfl) ?_
                                                        refine And.imp_left (rs_iload_n i_L_law_1036 rfl) ?_
                                                        refine And.imp_left (rs_iconst i_L_law_1037 (v := 1) (by decide)) ?_
                                                        refine And.imp_left (rs_iadd i_L_law_1038) ?_
                                                        obtain ⟨c147, hf⟩ := ite_some hf
                                                        refine And.imp_left (rs_ialdS i_L_law_1039 (sScrI SH c147)) ?_
                                                        refine And.imp_left (rs_aload_n i_L_law_1040 rfl) ?_
                                                        refine And.imp_left (rs_iload_n i_L_law_1041 rfl) ?_
                                                        refine And.imp_left (rs_iconst i_L_law_1042 (v := 2) (by decide)) ?_
                                                        refine And.imp_left (rs_iadd i_L_law_1043) ?_
                                                        obtain ⟨c148, hf⟩ := ite_some hf
                                                        refine And.imp_left (rs_ialdS i_L_law_1044 (sScrI SH c148)) ?_
                                                        obtain ⟨o149, e149, hf⟩ := bind_some hf
                                                        obtain ⟨u149, SH2⟩ := k_X7_uneven (X := X) (d := d) (by omega) (by omega) SH e149
                                                        refine And.imp_left (rs_inV i_L_law_1045 m_X7_uneven rfl (As := [.int (X (ix (v3 + 1))), .int (X (ix (v3 + 2)))]) (rest := []) rfl rfl (Nat.le_of_ble_eq_true rfl) (sO7 SH (by omega)) u149 (st' := [.int o149.1]) rfl) ?_
                                                        clear SH; have SH := SH2; clear SH2
                                                        refine And.imp_left (rs_aload_n i_L_law_1048 rfl) ?_
                                                        refine And.imp_left (rs_aload_n i_L_law_1049 rfl) ?_
                                                        refine And.imp_left (rs_iload_n i_L_law_1050 rfl) ?_
                                                        refine And.imp_left (rs_iconst i_L_law_1051 (v := 1) (by decide)) ?_
                                                        refine And.imp_left (rs_iadd i_L_law_1052) ?_
                                                        refine And.imp_left (rs_ialdS i_L_law_1053 (sScrI SH c147)) ?_
                                                        refine And.imp_left (rs_aload_n i_L_law_1054 rfl) ?_
                                                        refine And.imp_left (rs_iload_n i_L_law_1055 rfl) ?_
                                                        refine And.imp_left (rs_iconst i_L_law_1056 (v := 2) (by decide)) ?_
                                                        refine And.imp_left (rs_iadd i_L_law_1057) ?_
                                                        refine And.imp_left (rs_ialdS i_L_law_1058 (sScrI SH c148)) ?_
                                                        obtain ⟨o150, e150, hf⟩ := bind_some hf
                                                        obtain ⟨u150, SH2⟩ := k_X8_uneven (X := X) (d := d) (by omega) (by omega) SH e150
                                                        refine And.imp_left (rs_inV i_L_law_1059 m_X8_uneven rfl (As := [.int (X (ix (v3 + 1))), .int (X (ix (v3 + 2)))]) (rest := [.int o149.1]) rfl rfl (Nat.le_of_ble_eq_true rfl) (sO8 SH hh) u150 (st' := [.int o150.1, .int o149.1]) rfl) ?_
                                                        clear SH; have SH := SH2; clear SH2
                                                        by_cases c151 : o149.1 = o150.1
                                                        · replace hf := (if_pos c151).symm.trans hf
                                                          refine And.imp_left (rs_icT i_L_law_1062 (ct_eq c151) (tg := 1773) (by decide)) ?_
                                                          exact q_L_law_1773 hd hh ih SH hf
                                                        · replace hf := (if_neg c151).symm.trans hf
                                                          refine And.imp_left (rs_icF i_L_law_1062 (cf_eq c151)) ?_
                                                          refine And.imp_left (rs_iconst i_L_law_1065 (v := 0) (by decide)) ?_
                                                          have hf := Option.some.inj hf
                                                          subst hf
                                                          exact ⟨rs_iret i_L_law_1066 m_L_law (by decide), SH⟩
                                                      · replace hf := (if_neg c27).symm.trans hf
                                                        by_cases c28 : ((X (ix v3)) &&& 63) = 25
                                                        · replace hf := (if_pos c28).symm.trans hf
                                                          refine And.imp_left (rs_tsw i_L_law_33 (off := 1034) (by rw [c28]; decide) (tg := 1067) (by decide)) ?_
                                                          refine And.imp_left (rs_aload_n i_L_law_1067 rfl) ?_
                                                          refine And.imp_left (rs_aload_n i_L_law_1068 rfl) ?_
                                                          refine And.imp_left (rs_iload_n i_L_law_1069 rfl) ?_
                                                          refine And.imp_left (rs_iconst i_L_law_1070 (v := 1) (by decide)) ?_
                                                          refine And.imp_left (rs_iadd i_L_law_1071) ?_
                                                          obtain ⟨c141, hf⟩ := ite_some hf
                                                          refine And.imp_left (rs_ialdS i_L_law_1072 (sScrI SH c141)) ?_
                                                          refine And.imp_left (rs_aload_n i_L_law_1073 rfl) ?_
                                                          refine And.imp_left (rs_iload_n i_L_law_1074 rfl) ?_
                                                          refine And.imp_left (rs_iconst i_L_law_1075 (v := 2) (by decide)) ?_
                                                          refine And.imp_left (rs_iadd i_L_law_1076) ?_
                                                          obtain ⟨c142, hf⟩ := ite_some hf
                                                          refine And.imp_left (rs_ialdS i_L_law_1077 (sScrI SH c142)) ?_
                                                          refine And.imp_left (rs_aload_n i_L_law_1078 rfl) ?_
                                                          refine And.imp_left (rs_iload_n i_L_law_1079 rfl) ?_
                                                          refine And.imp_left (rs_iconst i_L_law_1080 (v := 3) (by decide)) ?_
                                                          refine And.imp_left (rs_iadd i_L_law_1081) ?_
                                                          obtain ⟨c143, hf⟩ := ite_some hf
                                                          refine And.imp_left (rs_ialdS i_L_law_1082 (sScrI SH c143)) ?_
                                                          obtain ⟨o144, e144, hf⟩ := bind_some hf
                                                          obtain ⟨u144, SH2⟩ := k_X7_cooks (X := X) (d := d) (by omega) (by omega) SH e144
                                                          refine And.imp_left (rs_inV i_L_law_1083 m_X7_cooks rfl (As := [.int (X (ix (v3 + 1))), .int (X (ix (v3 + 2))), .int (X (ix (v3 + 3)))]) (rest := []) rfl rfl (Nat.le_of_ble_eq_true rfl) (sO7 SH (by omega)) u144 (st' := [.int o144.1]) rfl) ?_
                                                          clear SH; have SH := SH2; clear SH2
                                                          refine And.imp_left (rs_aload_n i_L_law_1086 rfl) ?_
                                                          refine And.imp_left (rs_aload_n i_L_law_1087 rfl) ?_
                                                          refine And.imp_left (rs_iload_n i_L_law_1088 rfl) ?_
                                                          refine And.imp_left (rs_iconst i_L_law_1089 (v := 1) (by decide)) ?_
                                                          refine And.imp_left (rs_iadd i_L_law_1090) ?_
                                                          refine And.imp_left (rs_ialdS i_L_law_1091 (sScrI SH c141)) ?_
                                                          refine And.imp_left (rs_aload_n i_L_law_1092 rfl) ?_
                                                          refine And.imp_left (rs_iload_n i_L_law_1093 rfl) ?_
                                                          refine And.imp_left (rs_iconst i_L_law_1094 (v := 2) (by decide)) ?_
                                                          refine And.imp_left (rs_iadd i_L_law_1095) ?_
                                                          refine And.imp_left (rs_ialdS i_L_law_1096 (sScrI SH c142)) ?_
                                                          refine And.imp_left (rs_aload_n i_L_law_1097 rfl) ?_
                                                          refine And.imp_left (rs_iload_n i_L_law_1098 rfl) ?_
                                                          refine And.imp_left (rs_iconst i_L_law_1099 (v := 3) (by decide)) ?_
                                                          refine And.imp_left (rs_iadd i_L_law_1100) ?_
                                                          refine And.imp_left (rs_ialdS i_L_law_1101 (sScrI SH c143)) ?_
                                                          obtain ⟨o145, e145, hf⟩ := bind_some hf
                                                          obtain ⟨u145, SH2⟩ := k_X8_cooks (X := X) (d := d) (by omega) (by omega) SH e145
                                                          refine And.imp_left (rs_inV i_L_law_1102 m_X8_cooks rfl (As := [.int (X (ix (v3 + 1))), .int (X (ix (v3 + 2))), .int (X (ix (v3 + 3)))]) (rest := [.int o144.1]) rfl rfl (Nat.le_of_ble_eq_true rfl) (sO8 SH hh) u145 (st' := [.int o145.1, .int o144.1]) rfl) ?_
                                                          clear SH; have SH := SH2; clear SH2
                                                          by_cases c146 : o144.1 = o145.1
                                                          · replace hf := (if_pos c146).symm.trans hf
                                                            refine And.imp_left (rs_icT i_L_law_1105 (ct_eq c146) (tg := 1773) (by decide)) ?_
                                                            exact q_L_law_1773 hd hh ih SH hf
                                                          · replace hf := (if_neg c146).symm.trans hf
                                                            refine And.imp_left (rs_icF i_L_law_1105 (cf_eq c146)) ?_
                                                            refine And.imp_left (rs_iconst i_L_law_1108 (v := 0) (by decide)) ?_
                                                            have hf := Option.some.inj hf
                                                            subst hf
                                                            exact ⟨rs_iret i_L_law_1109 m_L_law (by decide), SH⟩
                                                        · replace hf := (if_neg c28).symm.trans hf
                                                          by_cases c29 : ((X (ix v3)) &&& 63) = 26
                                                          · replace hf := (if_pos c29).symm.trans hf
                                                            refine And.imp_left (rs_tsw i_L_law_33 (off := 1077) (by rw [c29]; decide) (tg := 1110) (by decide)) ?_
                                                            refine And.imp_left (rs_aload_n i_L_law_1110 rfl) ?_
                                                            refine And.imp_left (rs_aload_n i_L_law_1111 rfl) ?_
                                                            refine And.imp_left (rs_iload_n i_L_law_1112 rfl) ?_
                                                            refine And.imp_left (rs_iconst i_L_law_1113 (v := 1) (by decide)) ?_
                                                            refine And.imp_left (rs_iadd i_L_law_1114) ?_
                                                            obtain ⟨c137, hf⟩ := ite_some hf
                                                            refine And.imp_left (rs_ialdS i_L_law_1115 (sScrI SH c137)) ?_
                                                            obtain ⟨o138, e138, hf⟩ := bind_some hf
                                                            obtain ⟨u138, SH2⟩ := k_X7_pot (X := X) (d := d) (by omega) (by omega) SH e138
                                                            refine And.imp_left (rs_inV i_L_law_1116 m_X7_pot rfl (As := [.int (X (ix (v3 + 1)))]) (rest := []) rfl rfl (Nat.le_of_ble_eq_true rfl) (sO7 SH (by omega)) u138 (st' := [.int o138.1]) rfl) ?_
                                                            clear SH; have SH := SH2; clear SH2
                                                            refine And.imp_left (rs_aload_n i_L_law_1119 rfl) ?_
                                                            refine And.imp_left (rs_aload_n i_L_law_1120 rfl) ?_
                                                            refine And.imp_left (rs_iload_n i_L_law_1121 rfl) ?_
                                                            refine And.imp_left (rs_iconst i_L_law_1122 (v := 1) (by decide)) ?_
                                                            refine And.imp_left (rs_iadd i_L_law_1123) ?_
                                                            refine And.imp_left (rs_ialdS i_L_law_1124 (sScrI SH c137)) ?_
                                                            obtain ⟨o139, e139, hf⟩ := bind_some hf
                                                            obtain ⟨u139, SH2⟩ := k_X8_pot (X := X) (d := d) (by omega) (by omega) SH e139
                                                            refine And.imp_left (rs_inV i_L_law_1125 m_X8_pot rfl (As := [.int (X (ix (v3 + 1)))]) (rest := [.int o138.1]) rfl rfl (Nat.le_of_ble_eq_true rfl) (sO8 SH hh) u139 (st' := [.int o139.1, .int o138.1]) rfl) ?_
                                                            clear SH; have SH := SH2; clear SH2
                                                            by_cases c140 : o138.1 = o139.1
                                                            · replace hf := (if_pos c140).symm.trans hf
                                                              refine And.imp_left (rs_icT i_L_law_1128 (ct_eq c140) (tg := 1773) (by decide)) ?_
                                                              exact q_L_law_1773 hd hh ih SH hf
                                                            · replace hf := (if_neg c140).symm.trans hf
                                                              refine And.imp_left (rs_icF i_L_law_1128 (cf_eq c140)) ?_
                                                              refine And.imp_left (rs_iconst i_L_law_1131 (v := 0) (by decide)) ?_
                                                              have hf := Option.some.inj hf
                                                              subst hf
                                                              exact ⟨rs_iret i_L_law_1132 m_L_law (by decide), SH⟩
                                                          · replace hf := (if_neg c29).symm.trans hf
                                                            by_cases c30 : ((X (ix v3)) &&& 63) = 27
                                                            · replace hf := (if_pos c30).symm.trans hf
                                                              refine And.imp_left (rs_tsw i_L_law_33 (off := 1100) (by rw [c30]; decide) (tg := 1133) (by decide)) ?_
                                                              refine And.imp_left (rs_aload_n i_L_law_1133 rfl) ?_
                                                              refine And.imp_left (rs_aload_n i_L_law_1134 rfl) ?_
                                                              refine And.imp_left (rs_iload_n i_L_law_1135 rfl) ?_
                                                              refine And.imp_left (rs_iconst i_L_law_1136 (v := 1) (by decide)) ?_
                                                              refine And.imp_left (rs_iadd i_L_law_1137) ?_
                                                              obtain ⟨c132, hf⟩ := ite_some hf
                                                              refine And.imp_left (rs_ialdS i_L_law_1138 (sScrI SH c132)) ?_
                                                              refine And.imp_left (rs_aload_n i_L_law_1139 rfl) ?_
                                                              refine And.imp_left (rs_iload_n i_L_law_1140 rfl) ?_
                                                              refine And.imp_left (rs_iconst i_L_law_1141 (v := 2) (by decide)) ?_
                                                              refine And.imp_left (rs_iadd i_L_law_1142) ?_
                                                              obtain ⟨c133, hf⟩ := ite_some hf
                                                              refine And.imp_left (rs_ialdS i_L_law_1143 (sScrI SH c133)) ?_
                                                              obtain ⟨o134, e134, hf⟩ := bind_some hf
                                                              obtain ⟨u134, SH2⟩ := k_X7_place (X := X) (d := d) (by omega) (by omega) SH e134
                                                              refine And.imp_left (rs_inV i_L_law_1144 m_X7_place rfl (As := [.int (X (ix (v3 + 1))), .int (X (ix (v3 + 2)))]) (rest := []) rfl rfl (Nat.le_of_ble_eq_true rfl) (sO7 SH (by omega)) u134 (st' := [.int o134.1]) rfl) ?_
                                                              clear SH; have SH := SH2; clear SH2
                                                              refine And.imp_left (rs_aload_n i_L_law_1147 rfl) ?_
                                                              refine And.imp_left (rs_aload_n i_L_law_1148 rfl) ?_
                                                              refine And.imp_left (rs_iload_n i_L_law_1149 rfl) ?_
                                                              refine And.imp_left (rs_iconst i_L_law_1150 (v := 1) (by decide)) ?_
                                                              refine And.imp_left (rs_iadd i_L_law_1151) ?_
                                                              refine And.imp_left (rs_ialdS i_L_law_1152 (sScrI SH c132)) ?_
                                                              refine And.imp_left (rs_aload_n i_L_law_1153 rfl) ?_
                                                              refine And.imp_left (rs_iload_n i_L_law_1154 rfl) ?_
                                                              refine And.imp_left (rs_iconst i_L_law_1155 (v := 2) (by decide)) ?_
                                                              refine And.imp_left (rs_iadd i_L_law_1156) ?_
                                                              refine And.imp_left (rs_ialdS i_L_law_1157 (sScrI SH c133)) ?_
                                                              obtain ⟨o135, e135, hf⟩ := bind_some hf
                                                              obtain ⟨u135, SH2⟩ := k_X8_place (X := X) (d := d) (by omega) (by omega) SH e135
                                                              refine And.imp_left (rs_inV i_L_law_1158 m_X8_place rfl (As := [.int (X (ix (v3 + 1))), .int (X (ix (v3 + 2)))]) (rest := [.int o134.1]) rfl rfl (Nat.le_of_ble_eq_true rfl) (sO8 SH hh) u135 (st' := [.int o135.1, .int o134.1]) rfl) ?_
                                                              clear SH; have SH := SH2; clear SH2
                                                              by_cases c136 : o134.1 = o135.1
                                                              · replace hf := (if_pos c136).symm.trans hf
                                                                refine And.imp_left (rs_icT i_L_law_1161 (ct_eq c136) (tg := 1773) (by decide)) ?_
                                                                exact q_L_law_1773 hd hh ih SH hf
                                                              · replace hf := (if_neg c136).symm.trans hf
                                                                refine And.imp_left (rs_icF i_L_law_1161 (cf_eq c136)) ?_
                                                                refine And.imp_left (rs_iconst i_L_law_1164 (v := 0) (by decide)) ?_
                                                                have hf := Option.some.inj hf
                                                                subst hf
                                                                exact ⟨rs_iret i_L_law_1165 m_L_law (by decide), SH⟩
                                                            · replace hf := (if_neg c30).symm.trans hf
                                                              by_cases c31 : ((X (ix v3)) &&& 63) = 28
                                                              · replace hf := (if_pos c31).symm.trans hf
                                                                refine And.imp_left (rs_tsw i_L_law_33 (off := 1133) (by rw [c31]; decide) (tg := 1166) (by decide)) ?_
                                                                refine And.imp_left (rs_aload_n i_L_law_1166 rfl) ?_
                                                                refine And.imp_left (rs_aload_n i_L_law_1167 rfl) ?_
                                                                refine And.imp_left (rs_iload_n i_L_law_1168 rfl) ?_
                                                                refine And.imp_left (rs_iconst i_L_law_1169 (v := 1) (by decide)) ?_
                                                                refine And.imp_left (rs_iadd i_L_law_1170) ?_
                                                                obtain ⟨c126, hf⟩ := ite_some hf
                                                                refine And.imp_left (rs_ialdS i_L_law_1171 (sScrI SH c126)) ?_
                                                                refine And.imp_left (rs_aload_n i_L_law_1172 rfl) ?_
                                                                refine And.imp_left (rs_iload_n i_L_law_1173 rfl) ?_
                                                                refine And.imp_left (rs_iconst i_L_law_1174 (v := 2) (by decide)) ?_
                                                                refine And.imp_left (rs_iadd i_L_law_1175) ?_
                                                                obtain ⟨c127, hf⟩ := ite_some hf
                                                                refine And.imp_left (rs_ialdS i_L_law_1176 (sScrI SH c127)) ?_
                                                                refine And.imp_left (rs_aload_n i_L_law_1177 rfl) ?_
                                                                refine And.imp_left (rs_iload_n i_L_law_1178 rfl) ?_
                                                                refine And.imp_left (rs_iconst i_L_law_1179 (v := 3) (by decide)) ?_
                                                                refine And.imp_left (rs_iadd i_L_law_1180) ?_
                                                                obtain ⟨c128, hf⟩ := ite_some hf
                                                                refine And.imp_left (rs_ialdS i_L_law_1181 (sScrI SH c128)) ?_
                                                                obtain ⟨o129, e129, hf⟩ := bind_some hf
                                                                obtain ⟨u129, SH2⟩ := k_X7_apart (X := X) (d := d) (by omega) (by omega) SH e129
                                                                refine And.imp_left (rs_inV i_L_law_1182 m_X7_apart rfl (As := [.int (X (ix (v3 + 1))), .int (X (ix (v3 + 2))), .int (X (ix (v3 + 3)))]) (rest := []) rfl rfl (Nat.le_of_ble_eq_true rfl) (sO7 SH (by omega)) u129 (st' := [.int o129.1]) rfl) ?_
                                                                clear SH; have SH := SH2; clear SH2
                                                                refine And.imp_left (rs_aload_n i_L_law_1185 rfl) ?_
                                                                refine And.imp_left (rs_aload_n i_L_law_1186 rfl) ?_
                                                                refine And.imp_left (rs_iload_n i_L_law_1187 rfl) ?_
                                                                refine And.imp_left (rs_iconst i_L_law_1188 (v := 1) (by decide)) ?_
                                                                refine And.imp_left (rs_iadd i_L_law_1189) ?_
                                                                refine And.imp_left (rs_ialdS i_L_law_1190 (sScrI SH c126)) ?_
                                                                refine And.imp_left (rs_aload_n i_L_law_1191 rfl) ?_
                                                                refine And.imp_left (rs_iload_n i_L_law_1192 rfl) ?_
                                                                refine And.imp_left (rs_iconst i_L_law_1193 (v := 2) (by decide)) ?_
                                                                refine And.imp_left (rs_iadd i_L_law_1194) ?_
                                                                refine And.imp_left (rs_ialdS i_L_law_1195 (sScrI SH c127)) ?_
                                                                refine And.imp_left (rs_aload_n i_L_law_1196 rfl) ?_
                                                                refine And.imp_left (rs_iload_n i_L_law_1197 rfl) ?_
                                                                refine And.imp_left (rs_iconst i_L_law_1198 (v := 3) (by decide)) ?_
                                                                refine And.imp_left (rs_iadd i_L_law_1199) ?_
                                                                refine And.imp_left (rs_ialdS i_L_law_1200 (sScrI SH c128)) ?_
                                                                obtain ⟨o130, e130, hf⟩ := bind_some hf
                                                                obtain ⟨u130, SH2⟩ := k_X8_apart (X := X) (d := d) (by omega) (by omega) SH e130
                                                                refine And.imp_left (rs_inV i_L_law_1201 m_X8_apart rfl (As := [.int (X (ix (v3 + 1))), .int (X (ix (v3 + 2))), .int (X (ix (v3 + 3)))]) (rest := [.int o129.1]) rfl rfl (Nat.le_of_ble_eq_true rfl) (sO8 SH hh) u130 (st' := [.int o130.1, .int o129.1]) rfl) ?_
                                                                clear SH; have SH := SH2; clear SH2
                                                                by_cases c131 : o129.1 = o130.1
                                                                · replace hf := (if_pos c131).symm.trans hf
                                                                  refine And.imp_left (rs_icT i_L_law_1204 (ct_eq c131) (tg := 1773) (by decide)) ?_
                                                                  exact q_L_law_1773 hd hh ih SH hf
                                                                · replace hf := (if_neg c131).symm.trans hf
                                                                  refine And.imp_left (rs_icF i_L_law_1204 (cf_eq c131)) ?_
                                                                  refine And.imp_left (rs_iconst i_L_law_1207 (v := 0) (by decide)) ?_
                                                                  have hf := Option.some.inj hf
                                                                  subst hf
                                                                  exact ⟨rs_iret i_L_law_1208 m_L_law (by decide), SH⟩
                                                              · replace hf := (if_neg c31).symm.trans hf
                                                                by_cases c32 : ((X (ix v3)) &&& 63) = 29
                                                                · replace hf := (if_pos c32).symm.trans hf
                                                                  refine And.imp_left (rs_tsw i_L_law_33 (off := 1176) (by rw [c32]; decide) (tg := 1209) (by decide)) ?_
                                                                  refine And.imp_left (rs_aload_n i_L_law_1209 rfl) ?_
                                                                  refine And.imp_left (rs_aload_n i_L_law_1210 rfl) ?_
                                                                  refine And.imp_left (rs_iload_n i_L_law_1211 rfl) ?_
                                                                  refine And.imp_left (rs_iconst i_L_law_1212 (v := 1) (by decide)) ?_
                                                                  refine And.imp_left (rs_iadd i_L_law_1213) ?_
                                                                  obtain ⟨c120, hf⟩ := ite_some hf
                                                                  refine And.imp_left (rs_ialdS i_L_law_1214 (sScrI SH c120)) ?_
                                                                  refine And.imp_left (rs_aload_n i_L_law_1215 rfl) ?_
                                                                  refine And.imp_left (rs_iload_n i_L_law_1216 rfl) ?_
                                                                  refine And.imp_left (rs_iconst i_L_law_1217 (v := 2) (by decide)) ?_
                                                                  refine And.imp_left (rs_iadd i_L_law_1218) ?_
                                                                  obtain ⟨c121, hf⟩ := ite_some hf
                                                                  refine And.imp_left (rs_ialdS i_L_law_1219 (sScrI SH c121)) ?_
                                                                  refine And.imp_left (rs_aload_n i_L_law_1220 rfl) ?_
                                                                  refine And.imp_left (rs_iload_n i_L_law_1221 rfl) ?_
                                                                  refine And.imp_left (rs_iconst i_L_law_1222 (v := 3) (by decide)) ?_
                                                                  refine And.imp_left (rs_iadd i_L_law_1223) ?_
                                                                  obtain ⟨c122, hf⟩ := ite_some hf
                                                                  refine And.imp_left (rs_ialdS i_L_law_1224 (sScrI SH c122)) ?_
                                                                  obtain ⟨o123, e123, hf⟩ := bind_some hf
                                                                  obtain ⟨u123, SH2⟩ := k_X7_parted (X := X) (d := d) (by omega) (by omega) SH e123
                                                                  refine And.imp_left (rs_inV i_L_law_1225 m_X7_parted rfl (As := [.int (X (ix (v3 + 1))), .int (X (ix (v3 + 2))), .int (X (ix (v3 + 3)))]) (rest := []) rfl rfl (Nat.le_of_ble_eq_true rfl) (sO7 SH (by omega)) u123 (st' := [.int o123.1]) rfl) ?_
                                                                  clear SH; have SH := SH2; clear SH2
                                                                  refine And.imp_left (rs_aload_n i_L_law_1228 rfl) ?_
                                                                  refine And.imp_left (rs_aload_n i_L_law_1229 rfl) ?_
                                                                  refine And.imp_left (rs_iload_n i_L_law_1230 rfl) ?_
                                                                  refine And.imp_left (rs_iconst i_L_law_1231 (v := 1) (by decide)) ?_
                                                                  refine And.imp_left (rs_iadd i_L_law_1232) ?_
                                                                  refine And.imp_left (rs_ialdS i_L_law_1233 (sScrI SH c120)) ?_
                                                                  refine And.imp_left (rs_aload_n i_L_law_1234 rfl) ?_
                                                                  refine And.imp_left (rs_iload_n i_L_law_1235 rfl) ?_
                                                                  refine And.imp_left (rs_iconst i_L_law_1236 (v := 2) (by decide)) ?_
                                                                  refine And.imp_left (rs_iadd i_L_law_1237) ?_
                                                                  refine And.imp_left (rs_ialdS i_L_law_1238 (sScrI SH c121)) ?_
                                                                  refine And.imp_left (rs_aload_n i_L_law_1239 rfl) ?_
                                                                  refine And.imp_left (rs_iload_n i_L_law_1240 rfl) ?_
                                                                  refine And.imp_left (rs_iconst i_L_law_1241 (v := 3) (by decide)) ?_
                                                                  refine And.imp_left (rs_iadd i_L_law_1242) ?_
                                                                  refine And.imp_left (rs_ialdS i_L_law_1243 (sScrI SH c122)) ?_
                                                                  obtain ⟨o124, e124, hf⟩ := bind_some hf
                                                                  obtain ⟨u124, SH2⟩ := k_X8_parted (X := X) (d := d) (by omega) (by omega) SH e124
                                                                  refine And.imp_left (rs_inV i_L_law_1244 m_X8_parted rfl (As := [.int (X (ix (v3 + 1))), .int (X (ix (v3 + 2))), .int (X (ix (v3 + 3)))]) (rest := [.int o123.1]) rfl rfl (Nat.le_of_ble_eq_true rfl) (sO8 SH hh) u124 (st' := [.int o124.1, .int o123.1]) rfl) ?_
                                                                  clear SH; have SH := SH2; clear SH2
                                                                  by_cases c125 : o123.1 = o124.1
                                                                  · replace hf := (if_pos c125).symm.trans hf
                                                                    refine And.imp_left (rs_icT i_L_law_1247 (ct_eq c125) (tg := 1773) (by decide)) ?_
                                                                    exact q_L_law_1773 hd hh ih SH hf
                                                                  · replace hf := (if_neg c125).symm.trans hf
                                                                    refine And.imp_left (rs_icF i_L_law_1247 (cf_eq c125)) ?_
                                                                    refine And.imp_left (rs_iconst i_L_law_1250 (v := 0) (by decide)) ?_
                                                                    have hf := Option.some.inj hf
                                                                    subst hf
                                                                    exact ⟨rs_iret i_L_law_1251 m_L_law (by decide), SH⟩
                                                                · replace hf := (if_neg c32).symm.trans hf
                                                                  by_cases c33 : ((X (ix v3)) &&& 63) = 30
                                                                  · replace hf := (if_pos c33).symm.trans hf
                                                                    refine And.imp_left (rs_tsw i_L_law_33 (off := 1219) (by rw [c33]; decide) (tg := 1252) (by decide)) ?_
                                                                    refine And.imp_left (rs_aload_n i_L_law_1252 rfl) ?_
                                                                    refine And.imp_left (rs_aload_n i_L_law_1253 rfl) ?_
                                                                    refine And.imp_left (rs_iload_n i_L_law_1254 rfl) ?_
                                                                    refine And.imp_left (rs_iconst i_L_law_1255 (v := 1) (by decide)) ?_
                                                                    refine And.imp_left (rs_iadd i_L_law_1256) ?_
                                                                    obtain ⟨c116, hf⟩ := ite_some hf
                                                                    refine And.imp_left (rs_ialdS i_L_law_1257 (sScrI SH c116)) ?_
                                                                    obtain ⟨o117, e117, hf⟩ := bind_some hf
                                                                    obtain ⟨u117, SH2⟩ := k_X7_round (X := X) (d := d) (by omega) (by omega) SH e117
                                                                    refine And.imp_left (rs_inV i_L_law_1258 m_X7_round rfl (As := [.int (X (ix (v3 + 1)))]) (rest := []) rfl rfl (Nat.le_of_ble_eq_true rfl) (sO7 SH (by omega)) u117 (st' := [.int o117.1]) rfl) ?_
                                                                    clear SH; have SH := SH2; clear SH2
                                                                    refine And.imp_left (rs_aload_n i_L_law_1261 rfl) ?_
                                                                    refine And.imp_left (rs_aload_n i_L_law_1262 rfl) ?_
                                                                    refine And.imp_left (rs_iload_n i_L_law_1263 rfl) ?_
                                                                    refine And.imp_left (rs_iconst i_L_law_1264 (v := 1) (by decide)) ?_
                                                                    refine And.imp_left (rs_iadd i_L_law_1265) ?_
                                                                    refine And.imp_left (rs_ialdS i_L_law_1266 (sScrI SH c116)) ?_
                                                                    obtain ⟨o118, e118, hf⟩ := bind_some hf
                                                                    obtain ⟨u118, SH2⟩ := k_X8_round (X := X) (d := d) (by omega) (by omega) SH e118
                                                                    refine And.imp_left (rs_inV i_L_law_1267 m_X8_round rfl (As := [.int (X (ix (v3 + 1)))]) (rest := [.int o117.1]) rfl rfl (Nat.le_of_ble_eq_true rfl) (sO8 SH hh) u118 (st' := [.int o118.1, .int o117.1]) rfl) ?_
                                                                    clear SH; have SH := SH2; clear SH2
                                                                    by_cases c119 : o117.1 = o118.1
                                                                    · replace hf := (if_pos c119).symm.trans hf
                                                                      refine And.imp_left (rs_icT i_L_law_1270 (ct_eq c119) (tg := 1773) (by decide)) ?_
                                                                      exact q_L_law_1773 hd hh ih SH hf
                                                                    · replace hf := (if_neg c119).symm.trans hf
                                                                      refine And.imp_left (rs_icF i_L_law_1270 (cf_eq c119)) ?_
                                                                      refine And.imp_left (rs_iconst i_L_law_1273 (v := 0) (by decide)) ?_
                                                                      have hf := Option.some.inj hf
                                                                      subst hf
                                                                      exact ⟨rs_iret i_L_law_1274 m_L_law (by decide), SH⟩
                                                                  · replace hf := (if_neg c33).symm.trans hf
                                                                    by_cases c34 : ((X (ix v3)) &&& 63) = 31
                                                                    · replace hf := (if_pos c34).symm.trans hf
                                                                      refine And.imp_left (rs_tsw i_L_law_33 (off := 1242) (by rw [c34]; decide) (tg := 1275) (by decide)) ?_
                                                                      refine And.imp_left (rs_aload_n i_L_law_1275 rfl) ?_
                                                                      refine And.imp_left (rs_aload_n i_L_law_1276 rfl) ?_
                                                                      refine And.imp_left (rs_iload_n i_L_law_1277 rfl) ?_
                                                                      refine And.imp_left (rs_iconst i_L_law_1278 (v := 1) (by decide)) ?_
                                                                      refine And.imp_left (rs_iadd i_L_law_1279) ?_
                                                                      obtain ⟨c110, hf⟩ := ite_some hf
                                                                      refine And.imp_left (rs_ialdS i_L_law_1280 (sScrI SH c110)) ?_
                                                                      refine And.imp_left (rs_aload_n i_L_law_1281 rfl) ?_
                                                                      refine And.imp_left (rs_iload_n i_L_law_1282 rfl) ?_
                                                                      refine And.imp_left (rs_iconst i_L_law_1283 (v := 2) (by decide)) ?_
                                                                      refine And.imp_left (rs_iadd i_L_law_1284) ?_
                                                                      obtain ⟨c111, hf⟩ := ite_some hf
                                                                      refine And.imp_left (rs_ialdS i_L_law_1285 (sScrI SH c111)) ?_
                                                                      refine And.imp_left (rs_aload_n i_L_law_1286 rfl) ?_
                                                                      refine And.imp_left (rs_iload_n i_L_law_1287 rfl) ?_
                                                                      refine And.imp_left (rs_iconst i_L_law_1288 (v := 3) (by decide)) ?_
                                                                      refine And.imp_left (rs_iadd i_L_law_1289) ?_
                                                                      obtain ⟨c112, hf⟩ := ite_some hf
                                                                      refine And.imp_left (rs_ialdS i_L_law_1290 (sScrI SH c112)) ?_
                                                                      obtain ⟨o113, e113, hf⟩ := bind_some hf
                                                                      obtain ⟨u113, SH2⟩ := k_X7_colours (X := X) (d := d) (by omega) (by omega) SH e113
                                                                      refine And.imp_left (rs_inV i_L_law_1291 m_X7_colours rfl (As := [.int (X (ix (v3 + 1))), .int (X (ix (v3 + 2))), .int (X (ix (v3 + 3)))]) (rest := []) rfl rfl (Nat.le_of_ble_eq_true rfl) (sO7 SH (by omega)) u113 (st' := [.int o113.1]) rfl) ?_
                                                                      clear SH; have SH := SH2; clear SH2
                                                                      refine And.imp_left (rs_aload_n i_L_law_1294 rfl) ?_
                                                                      refine And.imp_left (rs_aload_n i_L_law_1295 rfl) ?_
                                                                      refine And.imp_left (rs_iload_n i_L_law_1296 rfl) ?_
                                                                      refine And.imp_left (rs_iconst i_L_law_1297 (v := 1) (by decide)) ?_
                                                                      refine And.imp_left (rs_iadd i_L_law_1298) ?_
                                                                      refine And.imp_left (rs_ialdS i_L_law_1299 (sScrI SH c110)) ?_
                                                                      refine And.imp_left (rs_aload_n i_L_law_1300 rfl) ?_
                                                                      refine And.imp_left (rs_iload_n i_L_law_1301 rfl) ?_
                                                                      refine And.imp_left (rs_iconst i_L_law_1302 (v := 2) (by decide)) ?_
                                                                      refine And.imp_left (rs_iadd i_L_law_1303) ?_
                                                                      refine And.imp_left (rs_ialdS i_L_law_1304 (sScrI SH c111)) ?_
                                                                      refine And.imp_left (rs_aload_n i_L_law_1305 rfl) ?_
                                                                      refine And.imp_left (rs_iload_n i_L_law_1306 rfl) ?_
                                                                      refine And.imp_left (rs_iconst i_L_law_1307 (v := 3) (by decide)) ?_
                                                                      refine And.imp_left (rs_iadd i_L_law_1308) ?_
                                                                      refine And.imp_left (rs_ialdS i_L_law_1309 (sScrI SH c112)) ?_
                                                                      obtain ⟨o114, e114, hf⟩ := bind_some hf
                                                                      obtain ⟨u114, SH2⟩ := k_X8_colours (X := X) (d := d) (by omega) (by omega) SH e114
                                                                      refine And.imp_left (rs_inV i_L_law_1310 m_X8_colours rfl (As := [.int (X (ix (v3 + 1))), .int (X (ix (v3 + 2))), .int (X (ix (v3 + 3)))]) (rest := [.int o113.1]) rfl rfl (Nat.le_of_ble_eq_true rfl) (sO8 SH hh) u114 (st' := [.int o114.1, .int o113.1]) rfl) ?_
                                                                      clear SH; have SH := SH2; clear SH2
                                                                      by_cases c115 : o113.1 = o114.1
                                                                      · replace hf := (if_pos c115).symm.trans hf
                                                                        refine And.imp_left (rs_icT i_L_law_1313 (ct_eq c115) (tg := 1773) (by decide)) ?_
                                                                        exact q_L_law_1773 hd hh ih SH hf
                                                                      · replace hf := (if_neg c115).symm.trans hf
                                                                        refine And.imp_left (rs_icF i_L_law_1313 (cf_eq c115)) ?_
                                                                        refine And.imp_left (rs_iconst i_L_law_1316 (v := 0) (by decide)) ?_
                                                                        have hf := Option.some.inj hf
                                                                        subst hf
                                                                        exact ⟨rs_iret i_L_law_1317 m_L_law (by decide), SH⟩
                                                                    · replace hf := (if_neg c34).symm.trans hf
                                                                      by_cases c35 : ((X (ix v3)) &&& 63) = 32
                                                                      · replace hf := (if_pos c35).symm.trans hf
                                                                        refine And.imp_left (rs_tsw i_L_law_33 (off := 1285) (by rw [c35]; decide) (tg := 1318) (by decide)) ?_
                                                                        refine And.imp_left (rs_aload_n i_L_law_1318 rfl) ?_
                                                                        refine And.imp_left (rs_aload_n i_L_law_1319 rfl) ?_
                                                                        refine And.imp_left (rs_iload_n i_L_law_1320 rfl) ?_
                                                                        refine And.imp_left (rs_iconst i_L_law_1321 (v := 1) (by decide)) ?_
                                                                        refine And.imp_left (rs_iadd i_L_law_1322) ?_
                                                                        obtain ⟨c104, hf⟩ := ite_some hf
                                                                        refine And.imp_left (rs_ialdS i_L_law_1323 (sScrI SH c104)) ?_
                                                                        refine And.imp_left (rs_aload_n i_L_law_1324 rfl) ?_
                                                                        refine And.imp_left (rs_iload_n i_L_law_1325 rfl) ?_
                                                                        refine And.imp_left (rs_iconst i_L_law_1326 (v := 2) (by decide)) ?_
                                                                        refine And.imp_left (rs_iadd i_L_law_1327) ?_
                                                                        obtain ⟨c105, hf⟩ := ite_some hf
                                                                        refine And.imp_left (rs_ialdS i_L_law_1328 (sScrI SH c105)) ?_
                                                                        refine And.imp_left (rs_aload_n i_L_law_1329 rfl) ?_
                                                                        refine And.imp_left (rs_iload_n i_L_law_1330 rfl) ?_
                                                                        refine And.imp_left (rs_iconst i_L_law_1331 (v := 3) (by decide)) ?_
                                                                        refine And.imp_left (rs_iadd i_L_law_1332) ?_
                                                                        obtain ⟨c106, hf⟩ := ite_some hf
                                                                        refine And.imp_left (rs_ialdS i_L_law_1333 (sScrI SH c106)) ?_
                                                                        obtain ⟨o107, e107, hf⟩ := bind_some hf
                                                                        obtain ⟨u107, SH2⟩ := k_X7_thin (X := X) (d := d) (by omega) (by omega) SH e107
                                                                        refine And.imp_left (rs_inV i_L_law_1334 m_X7_thin rfl (As := [.int (X (ix (v3 + 1))), .int (X (ix (v3 + 2))), .int (X (ix (v3 + 3)))]) (rest := []) rfl rfl (Nat.le_of_ble_eq_true rfl) (sO7 SH (by omega)) u107 (st' := [.long o107.1]) rfl) ?_
                                                                        clear SH; have SH := SH2; clear SH2
                                                                        refine And.imp_left (rs_aload_n i_L_law_1337 rfl) ?_
                                                                        refine And.imp_left (rs_aload_n i_L_law_1338 rfl) ?_
                                                                        refine And.imp_left (rs_iload_n i_L_law_1339 rfl) ?_
                                                                        refine And.imp_left (rs_iconst i_L_law_1340 (v := 1) (by decide)) ?_
                                                                        refine And.imp_left (rs_iadd i_L_law_1341) ?_
                                                                        refine And.imp_left (rs_ialdS i_L_law_1342 (sScrI SH c104)) ?_
                                                                        refine And.imp_left (rs_aload_n i_L_law_1343 rfl) ?_
                                                                        refine And.imp_left (rs_iload_n i_L_law_1344 rfl) ?_
                                                                        refine And.imp_left (rs_iconst i_L_law_1345 (v := 2) (by decide)) ?_
                                                                        refine And.imp_left (rs_iadd i_L_law_1346) ?_
                                                                        refine And.imp_left (rs_ialdS i_L_law_1347 (sScrI SH c105)) ?_
                                                                        refine And.imp_left (rs_aload_n i_L_law_1348 rfl) ?_
                                                                        refine And.imp_left (rs_iload_n i_L_law_1349 rfl) ?_
                                                                        refine And.imp_left (rs_iconst i_L_law_1350 (v := 3) (by decide)) ?_
                                                                        refine And.imp_left (rs_iadd i_L_law_1351) ?_
                                                                        refine And.imp_left (rs_ialdS i_L_law_1352 (sScrI SH c106)) ?_
                                                                        obtain ⟨o108, e108, hf⟩ := bind_some hf
                                                                        obtain ⟨u108, SH2⟩ := k_X8_thin (X := X) (d := d) (by omega) (by omega) SH e108
                                                                        refine And.imp_left (rs_inV i_L_law_1353 m_X8_thin rfl (As := [.int (X (ix (v3 + 1))), .int (X (ix (v3 + 2))), .int (X (ix (v3 + 3)))]) (rest := [.long o107.1]) rfl rfl (Nat.le_of_ble_eq_true rfl) (sO8 SH hh) u108 (st' := [.long o108.1, .long o107.1]) rfl) ?_
                                                                        clear SH; have SH := SH2; clear SH2
                                                                        refine And.imp_left (rs_lcmp i_L_law_1356) ?_
                                                                        by_cases c109 : o107.1 = o108.1
                                                                        · replace hf := (if_pos c109).symm.trans hf
                                                                          refine And.imp_left (rs_ifT i_L_law_1357 (by rw [lc_eq]; exact decide_eq_true c109) (tg := 1773) (by decide)) ?_
                                                                          exact q_L_law_1773 hd hh ih SH hf
                                                                        · replace hf := (if_neg c109).symm.trans hf
                                                                          refine And.imp_left (rs_ifF i_L_law_1357 (by rw [lc_eq]; exact decide_eq_false c109)) ?_
                                                                          refine And.imp_left (rs_iconst i_L_law_1360 (v := 0) (by decide)) ?_
                                                                          have hf := Option.some.inj hf
                                                                          subst hf
                                                                          exact ⟨rs_iret i_L_law_1361 m_L_law (by decide), SH⟩
                                                                      · replace hf := (if_neg c35).symm.trans hf
                                                                        by_cases c36 : ((X (ix v3)) &&& 63) = 33
                                                                        · replace hf := (if_pos c36).symm.trans hf
                                                                          refine And.imp_left (rs_tsw i_L_law_33 (off := 1329) (by rw [c36]; decide) (tg := 1362) (by decide)) ?_
                                                                          refine And.imp_left (rs_aload_n i_L_law_1362 rfl) ?_
                                                                          refine And.imp_left (rs_aload_n i_L_law_1363 rfl) ?_
                                                                          refine And.imp_left (rs_iload_n i_L_law_1364 rfl) ?_
                                                                          refine And.imp_left (rs_iconst i_L_law_1365 (v := 1) (by decide)) ?_
                                                                          refine And.imp_left (rs_iadd i_L_law_1366) ?_
                                                                          obtain ⟨c97, hf⟩ := ite_some hf
                                                                          refine And.imp_left (rs_ialdS i_L_law_1367 (sScrI SH c97)) ?_
                                                                          refine And.imp_left (rs_aload_n i_L_law_1368 rfl) ?_
                                                                          refine And.imp_left (rs_iload_n i_L_law_1369 rfl) ?_
                                                                          refine And.imp_left (rs_iconst i_L_law_1370 (v := 2) (by decide)) ?_
                                                                          refine And.imp_left (rs_iadd i_L_law_1371) ?_
                                                                          obtain ⟨c98, hf⟩ := ite_some hf
                                                                          refine And.imp_left (rs_ialdS i_L_law_1372 (sScrI SH c98)) ?_
                                                                          refine And.imp_left (rs_aload_n i_L_law_1373 rfl) ?_
                                                                          refine And.imp_left (rs_iload_n i_L_law_1374 rfl) ?_
                                                                          refine And.imp_left (rs_iconst i_L_law_1375 (v := 3) (by decide)) ?_
                                                                          refine And.imp_left (rs_iadd i_L_law_1376) ?_
                                                                          obtain ⟨c99, hf⟩ := ite_some hf
                                                                          refine And.imp_left (rs_ialdS i_L_law_1377 (sScrI SH c99)) ?_
                                                                          refine And.imp_left (rs_aload_n i_L_law_1378 rfl) ?_
                                                                          refine And.imp_left (rs_iload_n i_L_law_1379 rfl) ?_
                                                                          refine And.imp_left (rs_iconst i_L_law_1380 (v := 4) (by decide)) ?_
                                                                          refine And.imp_left (rs_iadd i_L_law_1381) ?_
                                                                          obtain ⟨c100, hf⟩ := ite_some hf
                                                                          refine And.imp_left (rs_ialdS i_L_law_1382 (sScrI SH c100)) ?_
                                                                          obtain ⟨o101, e101, hf⟩ := bind_some hf
                                                                          obtain ⟨u101, SH2⟩ := k_X7_odds (X := X) (d := d) (by omega) (by omega) SH e101
                                                                          refine And.imp_left (rs_inV i_L_law_1383 m_X7_odds rfl (As := [.int (X (ix (v3 + 1))), .int (X (ix (v3 + 2))), .int (X (ix (v3 + 3))), .int (X (ix (v3 + 4)))]) (rest := []) rfl rfl (Nat.le_of_ble_eq_true rfl) (sO7 SH (by omega)) u101 (st' := [.long o101.1]) rfl) ?_
                                                                          clear SH; have SH := SH2; clear SH2
                                                                          refine And.imp_left (rs_aload_n i_L_law_1386 rfl) ?_
                                                                          refine And.imp_left (rs_aload_n i_L_law_1387 rfl) ?_
                                                                          refine And.imp_left (rs_iload_n i_L_law_1388 rfl) ?_
                                                                          refine And.imp_left (rs_iconst i_L_law_1389 (v := 1) (by decide)) ?_
                                                                          refine And.imp_left (rs_iadd i_L_law_1390) ?_
                                                                          refine And.imp_left (rs_ialdS i_L_law_1391 (sScrI SH c97)) ?_
                                                                          refine And.imp_left (rs_aload_n i_L_law_1392 rfl) ?_
                                                                          refine And.imp_left (rs_iload_n i_L_law_1393 rfl) ?_
                                                                          refine And.imp_left (rs_iconst i_L_law_1394 (v := 2) (by decide)) ?_
                                                                          refine And.imp_left (rs_iadd i_L_law_1395) ?_
                                                                          refine And.imp_left (rs_ialdS i_L_law_1396 (sScrI SH c98)) ?_
                                                                          refine And.imp_left (rs_aload_n i_L_law_1397 rfl) ?_
                                                                          refine And.imp_left (rs_iload_n i_L_law_1398 rfl) ?_
                                                                          refine And.imp_left (rs_iconst i_L_law_1399 (v := 3) (by decide)) ?_
                                                                          refine And.imp_left (rs_iadd i_L_law_1400) ?_
                                                                          refine And.imp_left (rs_ialdS i_L_law_1401 (sScrI SH c99)) ?_
                                                                          refine And.imp_left (rs_aload_n i_L_law_1402 rfl) ?_
                                                                          refine And.imp_left (rs_iload_n i_L_law_1403 rfl) ?_
                                                                          refine And.imp_left (rs_iconst i_L_law_1404 (v := 4) (by decide)) ?_
                                                                          refine And.imp_left (rs_iadd i_L_law_1405) ?_
                                                                          refine And.imp_left (rs_ialdS i_L_law_1406 (sScrI SH c100)) ?_
                                                                          obtain ⟨o102, e102, hf⟩ := bind_some hf
                                                                          obtain ⟨u102, SH2⟩ := k_X8_odds (X := X) (d := d) (by omega) (by omega) SH e102
                                                                          refine And.imp_left (rs_inV i_L_law_1407 m_X8_odds rfl (As := [.int (X (ix (v3 + 1))), .int (X (ix (v3 + 2))), .int (X (ix (v3 + 3))), .int (X (ix (v3 + 4)))]) (rest := [.long o101.1]) rfl rfl (Nat.le_of_ble_eq_true rfl) (sO8 SH hh) u102 (st' := [.long o102.1, .long o101.1]) rfl) ?_
                                                                          clear SH; have SH := SH2; clear SH2
                                                                          refine And.imp_left (rs_lcmp i_L_law_1410) ?_
                                                                          by_cases c103 : o101.1 = o102.1
                                                                          · replace hf := (if_pos c103).symm.trans hf
                                                                            refine And.imp_left (rs_ifT i_L_law_1411 (by rw [lc_eq]; exact decide_eq_true c103) (tg := 1773) (by decide)) ?_
                                                                            exact q_L_law_1773 hd hh ih SH hf
                                                                          · replace hf := (if_neg c103).symm.trans hf
                                                                            refine And.imp_left (rs_ifF i_L_law_1411 (by rw [lc_eq]; exact decide_eq_false c103)) ?_
                                                                            refine And.imp_left (rs_iconst i_L_law_1414 (v := 0) (by decide)) ?_
                                                                            have hf := Option.some.inj hf
                                                                            subst hf
                                                                            exact ⟨rs_iret i_L_law_1415 m_L_law (by decide), SH⟩
                                                                        · replace hf := (if_neg c36).symm.trans hf
                                                                          by_cases c37 : ((X (ix v3)) &&& 63) = 34
                                                                          · replace hf := (if_pos c37).symm.trans hf
                                                                            refine And.imp_left (rs_tsw i_L_law_33 (off := 1383) (by rw [c37]; decide) (tg := 1416) (by decide)) ?_
                                                                            refine And.imp_left (rs_aload_n i_L_law_1416 rfl) ?_
                                                                            refine And.imp_left (rs_aload_n i_L_law_1417 rfl) ?_
                                                                            refine And.imp_left (rs_iload_n i_L_law_1418 rfl) ?_
                                                                            refine And.imp_left (rs_iconst i_L_law_1419 (v := 1) (by decide)) ?_
                                                                            refine And.imp_left (rs_iadd i_L_law_1420) ?_
                                                                            obtain ⟨c91, hf⟩ := ite_some hf
                                                                            refine And.imp_left (rs_ialdS i_L_law_1421 (sScrI SH c91)) ?_
                                                                            refine And.imp_left (rs_aload_n i_L_law_1422 rfl) ?_
                                                                            refine And.imp_left (rs_iload_n i_L_law_1423 rfl) ?_
                                                                            refine And.imp_left (rs_iconst i_L_law_1424 (v := 2) (by decide)) ?_
                                                                            refine And.imp_left (rs_iadd i_L_law_1425) ?_
                                                                            obtain ⟨c92, hf⟩ := ite_some hf
                                                                            refine And.imp_left (rs_ialdS i_L_law_1426 (sScrI SH c92)) ?_
                                                                            refine And.imp_left (rs_aload_n i_L_law_1427 rfl) ?_
                                                                            refine And.imp_left (rs_iload_n i_L_law_1428 rfl) ?_
                                                                            refine And.imp_left (rs_iconst i_L_law_1429 (v := 3) (by decide)) ?_
                                                                            refine And.imp_left (rs_iadd i_L_law_1430) ?_
                                                                            obtain ⟨c93, hf⟩ := ite_some hf
                                                                            refine And.imp_left (rs_ialdS i_L_law_1431 (sScrI SH c93)) ?_
                                                                            obtain ⟨o94, e94, hf⟩ := bind_some hf
                                                                            obtain ⟨u94, SH2⟩ := k_X7_record (X := X) (d := d) (by omega) (by omega) SH e94
                                                                            refine And.imp_left (rs_inV i_L_law_1432 m_X7_record rfl (As := [.int (X (ix (v3 + 1))), .int (X (ix (v3 + 2))), .int (X (ix (v3 + 3)))]) (rest := []) rfl rfl (Nat.le_of_ble_eq_true rfl) (sO7 SH (by omega)) u94 (st' := [.int o94.1]) rfl) ?_
                                                                            clear SH; have SH := SH2; clear SH2
                                                                            refine And.imp_left (rs_aload_n i_L_law_1435 rfl) ?_
                                                                            refine And.imp_left (rs_aload_n i_L_law_1436 rfl) ?_
                                                                            refine And.imp_left (rs_iload_n i_L_law_1437 rfl) ?_
                                                                            refine And.imp_left (rs_iconst i_L_law_1438 (v := 1) (by decide)) ?_
                                                                            refine And.imp_left (rs_iadd i_L_law_1439) ?_
                                                                            refine And.imp_left (rs_ialdS i_L_law_1440 (sScrI SH c91)) ?_
                                                                            refine And.imp_left (rs_aload_n i_L_law_1441 rfl) ?_
                                                                            refine And.imp_left (rs_iload_n i_L_law_1442 rfl) ?_
                                                                            refine And.imp_left (rs_iconst i_L_law_1443 (v := 2) (by decide)) ?_
                                                                            refine And.imp_left (rs_iadd i_L_law_1444) ?_
                                                                            refine And.imp_left (rs_ialdS i_L_law_1445 (sScrI SH c92)) ?_
                                                                            refine And.imp_left (rs_aload_n i_L_law_1446 rfl) ?_
                                                                            refine And.imp_left (rs_iload_n i_L_law_1447 rfl) ?_
                                                                            refine And.imp_left (rs_iconst i_L_law_1448 (v := 3) (by decide)) ?_
                                                                            refine And.imp_left (rs_iadd i_L_law_1449) ?_
                                                                            refine And.imp_left (rs_ialdS i_L_law_1450 (sScrI SH c93)) ?_
                                                                            obtain ⟨o95, e95, hf⟩ := bind_some hf
                                                                            obtain ⟨u95, SH2⟩ := k_X8_record (X := X) (d := d) (by omega) (by omega) SH e95
                                                                            refine And.imp_left (rs_inV i_L_law_1451 m_X8_record rfl (As := [.int (X (ix (v3 + 1))), .int (X (ix (v3 + 2))), .int (X (ix (v3 + 3)))]) (rest := [.int o94.1]) rfl rfl (Nat.le_of_ble_eq_true rfl) (sO8 SH hh) u95 (st' := [.int o95.1, .int o94.1]) rfl) ?_
                                                                            clear SH; have SH := SH2; clear SH2
                                                                            by_cases c96 : o94.1 = o95.1
                                                                            · replace hf := (if_pos c96).symm.trans hf
                                                                              refine And.imp_left (rs_icT i_L_law_1454 (ct_eq c96) (tg := 1773) (by decide)) ?_
                                                                              exact q_L_law_1773 hd hh ih SH hf
                                                                            · replace hf := (if_neg c96).symm.trans hf
                                                                              refine And.imp_left (rs_icF i_L_law_1454 (cf_eq c96)) ?_
                                                                              refine And.imp_left (rs_iconst i_L_law_1457 (v := 0) (by decide)) ?_
                                                                              have hf := Option.some.inj hf
                                                                              subst hf
                                                                              exact ⟨rs_iret i_L_law_1458 m_L_law (by decide), SH⟩
                                                                          · replace hf := (if_neg c37).symm.trans hf
                                                                            by_cases c38 : ((X (ix v3)) &&& 63) = 35
                                                                            · replace hf := (if_pos c38).symm.trans hf
                                                                              refine And.imp_left (rs_tsw i_L_law_33 (off := 1426) (by rw [c38]; decide) (tg := 1459) (by decide)) ?_
                                                                              refine And.imp_left (rs_aload_n i_L_law_1459 rfl) ?_
                                                                              refine And.imp_left (rs_aload_n i_L_law_1460 rfl) ?_
                                                                              refine And.imp_left (rs_iload_n i_L_law_1461 rfl) ?_
                                                                              refine And.imp_left (rs_iconst i_L_law_1462 (v := 1) (by decide)) ?_
                                                                              refine And.imp_left (rs_iadd i_L_law_1463) ?_
                                                                              obtain ⟨c84, hf⟩ := ite_some hf
                                                                              refine And.imp_left (rs_ialdS i_L_law_1464 (sScrI SH c84)) ?_
                                                                              refine And.imp_left (rs_aload_n i_L_law_1465 rfl) ?_
                                                                              refine And.imp_left (rs_iload_n i_L_law_1466 rfl) ?_
                                                                              refine And.imp_left (rs_iconst i_L_law_1467 (v := 2) (by decide)) ?_
                                                                              refine And.imp_left (rs_iadd i_L_law_1468) ?_
                                                                              obtain ⟨c85, hf⟩ := ite_some hf
                                                                              refine And.imp_left (rs_ialdS i_L_law_1469 (sScrI SH c85)) ?_
                                                                              refine And.imp_left (rs_aload_n i_L_law_1470 rfl) ?_
                                                                              refine And.imp_left (rs_iload_n i_L_law_1471 rfl) ?_
                                                                              refine And.imp_left (rs_iconst i_L_law_1472 (v := 3) (by decide)) ?_
                                                                              refine And.imp_left (rs_iadd i_L_law_1473) ?_
                                                                              obtain ⟨c86, hf⟩ := ite_some hf
                                                                              refine And.imp_left (rs_ialdS i_L_law_1474 (sScrI SH c86)) ?_
                                                                              refine And.imp_left (rs_aload_n i_L_law_1475 rfl) ?_
                                                                              refine And.imp_left (rs_iload_n i_L_law_1476 rfl) ?_
                                                                              refine And.imp_left (rs_iconst i_L_law_1477 (v := 4) (by decide)) ?_
                                                                              refine And.imp_left (rs_iadd i_L_law_1478) ?_
                                                                              obtain ⟨c87, hf⟩ := ite_some hf
                                                                              refine And.imp_left (rs_ialdS i_L_law_1479 (sScrI SH c87)) ?_
                                                                              obtain ⟨o88, e88, hf⟩ := bind_some hf
                                                                              obtain ⟨u88, SH2⟩ := k_X7_drawn (X := X) (d := d) (by omega) (by omega) SH e88
                                                                              refine And.imp_left (rs_inV i_L_law_1480 m_X7_drawn rfl (As := [.int (X (ix (v3 + 1))), .int (X (ix (v3 + 2))), .int (X (ix (v3 + 3))), .int (X (ix (v3 + 4)))]) (rest := []) rfl rfl (Nat.le_of_ble_eq_true rfl) (sO7 SH (by omega)) u88 (st' := [.int o88.1]) rfl) ?_
                                                                              clear SH; have SH := SH2; clear SH2
                                                                              refine And.imp_left (rs_aload_n i_L_law_1483 rfl) ?_
                                                                              refine And.imp_left (rs_aload_n i_L_law_1484 rfl) ?_
                                                                              refine And.imp_left (rs_iload_n i_L_law_1485 rfl) ?_
                                                                              refine And.imp_left (rs_iconst i_L_law_1486 (v := 1) (by decide)) ?_
                                                                              refine And.imp_left (rs_iadd i_L_law_1487) ?_
                                                                              refine And.imp_left (rs_ialdS i_L_law_1488 (sScrI SH c84)) ?_
                                                                              refine And.imp_left (rs_aload_n i_L_law_1489 rfl) ?_
                                                                              refine And.imp_left (rs_iload_n i_L_law_1490 rfl) ?_
                                                                              refine And.imp_left (rs_iconst i_L_law_1491 (v := 2) (by decide)) ?_
                                                                              refine And.imp_left (rs_iadd i_L_law_1492) ?_
                                                                              refine And.imp_left (rs_ialdS i_L_law_1493 (sScrI SH c85)) ?_
                                                                              refine And.imp_left (rs_aload_n i_L_law_1494 rfl) ?_
                                                                              refine And.imp_left (rs_iload_n i_L_law_1495 rfl) ?_
                                                                              refine And.imp_left (rs_iconst i_L_law_1496 (v := 3) (by decide)) ?_
                                                                              refine And.imp_left (rs_iadd i_L_law_1497) ?_
                                                                              refine And.imp_left (rs_ialdS i_L_law_1498 (sScrI SH c86)) ?_
                                                                              refine And.imp_left (rs_aload_n i_L_law_1499 rfl) ?_
                                                                              refine And.imp_left (rs_iload_n i_L_law_1500 rfl) ?_
                                                                              refine And.imp_left (rs_iconst i_L_law_1501 (v := 4) (by decide)) ?_
                                                                              refine And.imp_left (rs_iadd i_L_law_1502) ?_
                                                                              refine And.imp_left (rs_ialdS i_L_law_1503 (sScrI SH c87)) ?_
                                                                              obtain ⟨o89, e89, hf⟩ := bind_some hf
                                                                              obtain ⟨u89, SH2⟩ := k_X8_drawn (X := X) (d := d) (by omega) (by omega) SH e89
                                                                              refine And.imp_left (rs_inV i_L_law_1504 m_X8_drawn rfl (As := [.int (X (ix (v3 + 1))), .int (X (ix (v3 + 2))), .int (X (ix (v3 + 3))), .int (X (ix (v3 + 4)))]) (rest := [.int o88.1]) rfl rfl (Nat.le_of_ble_eq_true rfl) (sO8 SH hh) u89 (st' := [.int o89.1, .int o88.1]) rfl) ?_
                                                                              clear SH; have SH := SH2; clear SH2
                                                                              by_cases c90 : o88.1 = o89.1
                                                                              · replace hf := (if_pos c90).symm.trans hf
                                                                                refine And.imp_left (rs_icT i_L_law_1507 (ct_eq c90) (tg := 1773) (by decide)) ?_
                                                                                exact q_L_law_1773 hd hh ih SH hf
                                                                              · replace hf := (if_neg c90).symm.trans hf
                                                                                refine And.imp_left (rs_icF i_L_law_1507 (cf_eq c90)) ?_
                                                                                refine And.imp_left (rs_iconst i_L_law_1510 (v := 0) (by decide)) ?_
                                                                                have hf := Option.some.inj hf
                                                                                subst hf
                                                                                exact ⟨rs_iret i_L_law_1511 m_L_law (by decide), SH⟩
                                                                            · replace hf := (if_neg c38).symm.trans hf
                                                                              by_cases c39 : ((X (ix v3)) &&& 63) = 36
                                                                              · replace hf := (if_pos c39).symm.trans hf
                                                                                refine And.imp_left (rs_tsw i_L_law_33 (off := 1479) (by rw [c39]; decide) (tg := 1512) (by decide)) ?_
                                                                                refine And.imp_left (rs_aload_n i_L_law_1512 rfl) ?_
                                                                                obtain ⟨o81, e81, hf⟩ := bind_some hf
                                                                                obtain ⟨u81, SH2⟩ := k_X7_image (X := X) (d := d) (by omega) (by omega) SH e81
                                                                                refine And.imp_left (rs_inV i_L_law_1513 m_X7_image rfl (As := []) (rest := []) rfl rfl (Nat.le_of_ble_eq_true rfl) (sO7 SH (by omega)) u81 (st' := [.int o81.1]) rfl) ?_
                                                                                clear SH; have SH := SH2; clear SH2
                                                                                refine And.imp_left (rs_aload_n i_L_law_1516 rfl) ?_
                                                                                obtain ⟨o82, e82, hf⟩ := bind_some hf
                                                                                obtain ⟨u82, SH2⟩ := k_X8_image (X := X) (d := d) (by omega) (by omega) SH e82
                                                                                refine And.imp_left (rs_inV i_L_law_1517 m_X8_image rfl (As := []) (rest := [.int o81.1]) rfl rfl (Nat.le_of_ble_eq_true rfl) (sO8 SH hh) u82 (st' := [.int o82.1, .int o81.1]) rfl) ?_
                                                                                clear SH; have SH := SH2; clear SH2
                                                                                by_cases c83 : o81.1 = o82.1
                                                                                · replace hf := (if_pos c83).symm.trans hf
                                                                                  refine And.imp_left (rs_icT i_L_law_1520 (ct_eq c83) (tg := 1773) (by decide)) ?_
                                                                                  exact q_L_law_1773 hd hh ih SH hf
                                                                                · replace hf := (if_neg c83).symm.trans hf
                                                                                  refine And.imp_left (rs_icF i_L_law_1520 (cf_eq c83)) ?_
                                                                                  refine And.imp_left (rs_iconst i_L_law_1523 (v := 0) (by decide)) ?_
                                                                                  have hf := Option.some.inj hf
                                                                                  subst hf
                                                                                  exact ⟨rs_iret i_L_law_1524 m_L_law (by decide), SH⟩
                                                                              · replace hf := (if_neg c39).symm.trans hf
                                                                                by_cases c40 : ((X (ix v3)) &&& 63) = 37
                                                                                · replace hf := (if_pos c40).symm.trans hf
                                                                                  refine And.imp_left (rs_tsw i_L_law_33 (off := 1492) (by rw [c40]; decide) (tg := 1525) (by decide)) ?_
                                                                                  refine And.imp_left (rs_aload_n i_L_law_1525 rfl) ?_
                                                                                  obtain ⟨o78, e78, hf⟩ := bind_some hf
                                                                                  obtain ⟨u78, SH2⟩ := k_X7_back (X := X) (d := d) (by omega) (by omega) SH e78
                                                                                  refine And.imp_left (rs_inV i_L_law_1526 m_X7_back rfl (As := []) (rest := []) rfl rfl (Nat.le_of_ble_eq_true rfl) (sO7 SH (by omega)) u78 (st' := [.int o78.1]) rfl) ?_
                                                                                  clear SH; have SH := SH2; clear SH2
                                                                                  refine And.imp_left (rs_aload_n i_L_law_1529 rfl) ?_
                                                                                  obtain ⟨o79, e79, hf⟩ := bind_some hf
                                                                                  obtain ⟨u79, SH2⟩ := k_X8_back (X := X) (d := d) (by omega) (by omega) SH e79
                                                                                  refine And.imp_left (rs_inV i_L_law_1530 m_X8_back rfl (As := []) (rest := [.int o78.1]) rfl rfl (Nat.le_of_ble_eq_true rfl) (sO8 SH hh) u79 (st' := [.int o79.1, .int o78.1]) rfl) ?_
                                                                                  clear SH; have SH := SH2; clear SH2
                                                                                  by_cases c80 : o78.1 = o79.1
                                                                                  · replace hf := (if_pos c80).symm.trans hf
                                                                                    refine And.imp_left (rs_icT i_L_law_1533 (ct_eq c80) (tg := 1773) (by decide)) ?_
                                                                                    exact q_L_law_1773 hd hh ih SH hf
                                                                                  · replace hf := (if_neg c80).symm.trans hf
                                                                                    refine And.imp_left (rs_icF i_L_law_1533 (cf_eq c80)) ?_
                                                                                    refine And.imp_left (rs_iconst i_L_law_1536 (v := 0) (by decide)) ?_
                                                                                    have hf := Option.some.inj hf
                                                                                    subst hf
                                                                                    exact ⟨rs_iret i_L_law_1537 m_L_law (by decide), SH⟩
                                                                                · replace hf := (if_neg c40).symm.trans hf
                                                                                  by_cases c41 : ((X (ix v3)) &&& 63) = 38
                                                                                  · replace hf := (if_pos c41).symm.trans hf
                                                                                    refine And.imp_left (rs_tsw i_L_law_33 (off := 1505) (by rw [c41]; decide) (tg := 1538) (by decide)) ?_
                                                                                    refine And.imp_left (rs_aload_n i_L_law_1538 rfl) ?_
                                                                                    refine And.imp_left (rs_aload_n i_L_law_1539 rfl) ?_
                                                                                    refine And.imp_left (rs_iload_n i_L_law_1540 rfl) ?_
                                                                                    refine And.imp_left (rs_iconst i_L_law_1541 (v := 1) (by decide)) ?_
                                                                                    refine And.imp_left (rs_iadd i_L_law_1542) ?_
                                                                                    obtain ⟨c72, hf⟩ := ite_some hf
                                                                                    refine And.imp_left (rs_ialdS i_L_law_1543 (sScrI SH c72)) ?_
                                                                                    refine And.imp_left (rs_aload_n i_L_law_1544 rfl) ?_
                                                                                    refine And.imp_left (rs_iload_n i_L_law_1545 rfl) ?_
                                                                                    refine And.imp_left (rs_iconst i_L_law_1546 (v := 2) (by decide)) ?_
                                                                                    refine And.imp_left (rs_iadd i_L_law_1547) ?_
                                                                                    obtain ⟨c73, hf⟩ := ite_some hf
                                                                                    refine And.imp_left (rs_ialdS i_L_law_1548 (sScrI SH c73)) ?_
                                                                                    refine And.imp_left (rs_aload_n i_L_law_1549 rfl) ?_
                                                                                    refine And.imp_left (rs_iload_n i_L_law_1550 rfl) ?_
                                                                                    refine And.imp_left (rs_iconst i_L_law_1551 (v := 3) (by decide)) ?_
                                                                                    refine And.imp_left (rs_iadd i_L_law_1552) ?_
                                                                                    obtain ⟨c74, hf⟩ := ite_some hf
                                                                                    refine And.imp_left (rs_ialdS i_L_law_1553 (sScrI SH c74)) ?_
                                                                                    obtain ⟨o75, e75, hf⟩ := bind_some hf
                                                                                    obtain ⟨u75, SH2⟩ := k_X7_sheet (X := X) (d := d) (by omega) (by omega) SH e75
                                                                                    refine And.imp_left (rs_inV i_L_law_1554 m_X7_sheet rfl (As := [.int (X (ix (v3 + 1))), .int (X (ix (v3 + 2))), .int (X (ix (v3 + 3)))]) (rest := []) rfl rfl (Nat.le_of_ble_eq_true rfl) (sO7 SH (by omega)) u75 (st' := [.int o75.1]) rfl) ?_
                                                                                    clear SH; have SH := SH2; clear SH2
                                                                                    refine And.imp_left (rs_aload_n i_L_law_1557 rfl) ?_
                                                                                    refine And.imp_left (rs_aload_n i_L_law_1558 rfl) ?_
                                                                                    refine And.imp_left (rs_iload_n i_L_law_1559 rfl) ?_
                                                                                    refine And.imp_left (rs_iconst i_L_law_1560 (v := 1) (by decide)) ?_
                                                                                    refine And.imp_left (rs_iadd i_L_law_1561) ?_
                                                                                    refine And.imp_left (rs_ialdS i_L_law_1562 (sScrI SH c72)) ?_
                                                                                    refine And.imp_left (rs_aload_n i_L_law_1563 rfl) ?_
                                                                                    refine And.imp_left (rs_iload_n i_L_law_1564 rfl) ?_
                                                                                    refine And.imp_left (rs_iconst i_L_law_1565 (v := 2) (by decide)) ?_
                                                                                    refine And.imp_left (rs_iadd i_L_law_1566) ?_
                                                                                    refine And.imp_left (rs_ialdS i_L_law_1567 (sScrI SH c73)) ?_
                                                                                    refine And.imp_left (rs_aload_n i_L_law_1568 rfl) ?_
                                                                                    refine And.imp_left (rs_iload_n i_L_law_1569 rfl) ?_
                                                                                    refine And.imp_left (rs_iconst i_L_law_1570 (v := 3) (by decide)) ?_
                                                                                    refine And.imp_left (rs_iadd i_L_law_1571) ?_
                                                                                    refine And.imp_left (rs_ialdS i_L_law_1572 (sScrI SH c74)) ?_
                                                                                    obtain ⟨o76, e76, hf⟩ := bind_some hf
                                                                                    obtain ⟨u76, SH2⟩ := k_X8_sheet (X := X) (d := d) (by omega) (by omega) SH e76
                                                                                    refine And.imp_left (rs_inV i_L_law_1573 m_X8_sheet rfl (As := [.int (X (ix (v3 + 1))), .int (X (ix (v3 + 2))), .int (X (ix (v3 + 3)))]) (rest := [.int o75.1]) rfl rfl (Nat.le_of_ble_eq_true rfl) (sO8 SH hh) u76 (st' := [.int o76.1, .int o75.1]) rfl) ?_
                                                                                    clear SH; have SH := SH2; clear SH2
                                                                                    by_cases c77 : o75.1 = o76.1
                                                                                    · replace hf := (if_pos c77).symm.trans hf
                                                                                      refine And.imp_left (rs_icT i_L_law_1576 (ct_eq c77) (tg := 1773) (by decide)) ?_
                                                                                      exact q_L_law_1773 hd hh ih SH hf
                                                                                    · replace hf := (if_neg c77).symm.trans hf
                                                                                      refine And.imp_left (rs_icF i_L_law_1576 (cf_eq c77)) ?_
                                                                                      refine And.imp_left (rs_iconst i_L_law_1579 (v := 0) (by decide)) ?_
                                                                                      have hf := Option.some.inj hf
                                                                                      subst hf
                                                                                      exact ⟨rs_iret i_L_law_1580 m_L_law (by decide), SH⟩
                                                                                  · replace hf := (if_neg c41).symm.trans hf
                                                                                    by_cases c42 : ((X (ix v3)) &&& 63) = 39
                                                                                    · replace hf := (if_pos c42).symm.trans hf
                                                                                      refine And.imp_left (rs_tsw i_L_law_33 (off := 1548) (by rw [c42]; decide) (tg := 1581) (by decide)) ?_
                                                                                      refine And.imp_left (rs_aload_n i_L_law_1581 rfl) ?_
                                                                                      refine And.imp_left (rs_aload_n i_L_law_1582 rfl) ?_
                                                                                      refine And.imp_left (rs_iload_n i_L_law_1583 rfl) ?_
                                                                                      refine And.imp_left (rs_iconst i_L_law_1584 (v := 1) (by decide)) ?_
                                                                                      refine And.imp_left (rs_iadd i_L_law_1585) ?_
                                                                                      obtain ⟨c66, hf⟩ := ite_some hf
                                                                                      refine And.imp_left (rs_ialdS i_L_law_1586 (sScrI SH c66)) ?_
                                                                                      refine And.imp_left (rs_aload_n i_L_law_1587 rfl) ?_
                                                                                      refine And.imp_left (rs_iload_n i_L_law_1588 rfl) ?_
                                                                                      refine And.imp_left (rs_iconst i_L_law_1589 (v := 2) (by decide)) ?_
                                                                                      refine And.imp_left (rs_iadd i_L_law_1590) ?_
                                                                                      obtain ⟨c67, hf⟩ := ite_some hf
                                                                                      refine And.imp_left (rs_ialdS i_L_law_1591 (sScrI SH c67)) ?_
                                                                                      refine And.imp_left (rs_aload_n i_L_law_1592 rfl) ?_
                                                                                      refine And.imp_left (rs_iload_n i_L_law_1593 rfl) ?_
                                                                                      refine And.imp_left (rs_iconst i_L_law_1594 (v := 3) (by decide)) ?_
                                                                                      refine And.imp_left (rs_iadd i_L_law_1595) ?_
                                                                                      obtain ⟨c68, hf⟩ := ite_some hf
                                                                                      refine And.imp_left (rs_ialdS i_L_law_1596 (sScrI SH c68)) ?_
                                                                                      obtain ⟨o69, e69, hf⟩ := bind_some hf
                                                                                      obtain ⟨u69, SH2⟩ := k_X7_cell (X := X) (d := d) (by omega) (by omega) SH e69
                                                                                      refine And.imp_left (rs_inV i_L_law_1597 m_X7_cell rfl (As := [.int (X (ix (v3 + 1))), .int (X (ix (v3 + 2))), .int (X (ix (v3 + 3)))]) (rest := []) rfl rfl (Nat.le_of_ble_eq_true rfl) (sO7 SH (by omega)) u69 (st' := [.int o69.1]) rfl) ?_
                                                                                      clear SH; have SH := SH2; clear SH2
                                                                                      refine And.imp_left (rs_aload_n i_L_law_1600 rfl) ?_
                                                                                      refine And.imp_left (rs_aload_n i_L_law_1601 rfl) ?_
                                                                                      refine And.imp_left (rs_iload_n i_L_law_1602 rfl) ?_
                                                                                      refine And.imp_left (rs_iconst i_L_law_1603 (v := 1) (by decide)) ?_
                                                                                      refine And.imp_left (rs_iadd i_L_law_1604) ?_
                                                                                      refine And.imp_left (rs_ialdS i_L_law_1605 (sScrI SH c66)) ?_
                                                                                      refine And.imp_left (rs_aload_n i_L_law_1606 rfl) ?_
                                                                                      refine And.imp_left (rs_iload_n i_L_law_1607 rfl) ?_
                                                                                      refine And.imp_left (rs_iconst i_L_law_1608 (v := 2) (by decide)) ?_
                                                                                      refine And.imp_left (rs_iadd i_L_law_1609) ?_
                                                                                      refine And.imp_left (rs_ialdS i_L_law_1610 (sScrI SH c67)) ?_
                                                                                      refine And.imp_left (rs_aload_n i_L_law_1611 rfl) ?_
                                                                                      refine And.imp_left (rs_iload_n i_L_law_1612 rfl) ?_
                                                                                      refine And.imp_left (rs_iconst i_L_law_1613 (v := 3) (by decide)) ?_
                                                                                      refine And.imp_left (rs_iadd i_L_law_1614) ?_
                                                                                      refine And.imp_left (rs_ialdS i_L_law_1615 (sScrI SH c68)) ?_
                                                                                      obtain ⟨o70, e70, hf⟩ := bind_some hf
                                                                                      obtain ⟨u70, SH2⟩ := k_X8_cell (X := X) (d := d) (by omega) (by omega) SH e70
                                                                                      refine And.imp_left (rs_inV i_L_law_1616 m_X8_cell rfl (As := [.int (X (ix (v3 + 1))), .int (X (ix (v3 + 2))), .int (X (ix (v3 + 3)))]) (rest := [.int o69.1]) rfl rfl (Nat.le_of_ble_eq_true rfl) (sO8 SH hh) u70 (st' := [.int o70.1, .int o69.1]) rfl) ?_
                                                                                      clear SH; have SH := SH2; clear SH2
                                                                                      by_cases c71 : o69.1 = o70.1
                                                                                      · replace hf := (if_pos c71).symm.trans hf
                                                                                        refine And.imp_left (rs_icT i_L_law_1619 (ct_eq c71) (tg := 1773) (by decide)) ?_
                                                                                        exact q_L_law_1773 hd hh ih SH hf
                                                                                      · replace hf := (if_neg c71).symm.trans hf
                                                                                        refine And.imp_left (rs_icF i_L_law_1619 (cf_eq c71)) ?_
                                                                                        refine And.imp_left (rs_iconst i_L_law_1622 (v := 0) (by decide)) ?_
                                                                                        have hf := Option.some.inj hf
                                                                                        subst hf
                                                                                        exact ⟨rs_iret i_L_law_1623 m_L_law (by decide), SH⟩
                                                                                    · replace hf := (if_neg c42).symm.trans hf
                                                                                      by_cases c43 : ((X (ix v3)) &&& 63) = 40
                                                                                      · replace hf := (if_pos c43).symm.trans hf
                                                                                        refine And.imp_left (rs_tsw i_L_law_33 (off := 1591) (by rw [c43]; decide) (tg := 1624) (by decide)) ?_
                                                                                        refine And.imp_left (rs_aload_n i_L_law_1624 rfl) ?_
                                                                                        refine And.imp_left (rs_aload_n i_L_law_1625 rfl) ?_
                                                                                        refine And.imp_left (rs_iload_n i_L_law_1626 rfl) ?_
                                                                                        refine And.imp_left (rs_iconst i_L_law_1627 (v := 1) (by decide)) ?_
                                                                                        refine And.imp_left (rs_iadd i_L_law_1628) ?_
                                                                                        obtain ⟨c58, hf⟩ := ite_some hf
                                                                                        refine And.imp_left (rs_ialdS i_L_law_1629 (sScrI SH c58)) ?_
                                                                                        refine And.imp_left (rs_aload_n i_L_law_1630 rfl) ?_
                                                                                        refine And.imp_left (rs_iload_n i_L_law_1631 rfl) ?_
                                                                                        refine And.imp_left (rs_iconst i_L_law_1632 (v := 2) (by decide)) ?_
                                                                                        refine And.imp_left (rs_iadd i_L_law_1633) ?_
                                                                                        obtain ⟨c59, hf⟩ := ite_some hf
                                                                                        refine And.imp_left (rs_ialdS i_L_law_1634 (sScrI SH c59)) ?_
                                                                                        refine And.imp_left (rs_aload_n i_L_law_1635 rfl) ?_
                                                                                        refine And.imp_left (rs_iload_n i_L_law_1636 rfl) ?_
                                                                                        refine And.imp_left (rs_iconst i_L_law_1637 (v := 3) (by decide)) ?_
                                                                                        refine And.imp_left (rs_iadd i_L_law_1638) ?_
                                                                                        obtain ⟨c60, hf⟩ := ite_some hf
                                                                                        refine And.imp_left (rs_ialdS i_L_law_1639 (sScrI SH c60)) ?_
                                                                                        refine And.imp_left (rs_aload_n i_L_law_1640 rfl) ?_
                                                                                        refine And.imp_left (rs_iload_n i_L_law_1641 rfl) ?_
                                                                                        refine And.imp_left (rs_iconst i_L_law_1642 (v := 4) (by decide)) ?_
                                                                                        refine And.imp_left (rs_iadd i_L_law_1643) ?_
                                                                                        obtain ⟨c61, hf⟩ := ite_some hf
                                                                                        refine And.imp_left (rs_ialdS i_L_law_1644 (sScrI SH c61)) ?_
                                                                                        refine And.imp_left (rs_aload_n i_L_law_1645 rfl) ?_
                                                                                        refine And.imp_left (rs_iload_n i_L_law_1646 rfl) ?_
                                                                                        refine And.imp_left (rs_iconst i_L_law_1647 (v := 5) (by decide)) ?_
                                                                                        refine And.imp_left (rs_iadd i_L_law_1648) ?_
                                                                                        obtain ⟨c62, hf⟩ := ite_some hf
                                                                                        refine And.imp_left (rs_ialdS i_L_law_1649 (sScrI SH c62)) ?_
                                                                                        obtain ⟨o63, e63, hf⟩ := bind_some hf
                                                                                        obtain ⟨u63, SH2⟩ := k_X7_copy (X := X) (d := d) (by omega) (by omega) SH e63
                                                                                        refine And.imp_left (rs_inV i_L_law_1650 m_X7_copy rfl (As := [.int (X (ix (v3 + 1))), .int (X (ix (v3 + 2))), .int (X (ix (v3 + 3))), .int (X (ix (v3 + 4))), .int (X (ix (v3 + 5)))]) (rest := []) rfl rfl (Nat.le_of_ble_eq_true rfl) (sO7 SH (by omega)) u63 (st' := [.int o63.1]) rfl) ?_
                                                                                        clear SH; have SH := SH2; clear SH2
                                                                                        refine And.imp_left (rs_aload_n i_L_law_1653 rfl) ?_
                                                                                        refine And.imp_left (rs_aload_n i_L_law_1654 rfl) ?_
                                                                                        refine And.imp_left (rs_iload_n i_L_law_1655 rfl) ?_
                                                                                        refine And.imp_left (rs_iconst i_L_law_1656 (v := 1) (by decide)) ?_
                                                                                        refine And.imp_left (rs_iadd i_L_law_1657) ?_
                                                                                        refine And.imp_left (rs_ialdS i_L_law_1658 (sScrI SH c58)) ?_
                                                                                        refine And.imp_left (rs_aload_n i_L_law_1659 rfl) ?_
                                                                                        refine And.imp_left (rs_iload_n i_L_law_1660 rfl) ?_
                                                                                        refine And.imp_left (rs_iconst i_L_law_1661 (v := 2) (by decide)) ?_
                                                                                        refine And.imp_left (rs_iadd i_L_law_1662) ?_
                                                                                        refine And.imp_left (rs_ialdS i_L_law_1663 (sScrI SH c59)) ?_
                                                                                        refine And.imp_left (rs_aload_n i_L_law_1664 rfl) ?_
                                                                                        refine And.imp_left (rs_iload_n i_L_law_1665 rfl) ?_
                                                                                        refine And.imp_left (rs_iconst i_L_law_1666 (v := 3) (by decide)) ?_
                                                                                        refine And.imp_left (rs_iadd i_L_law_1667) ?_
                                                                                        refine And.imp_left (rs_ialdS i_L_law_1668 (sScrI SH c60)) ?_
                                                                                        refine And.imp_left (rs_aload_n i_L_law_1669 rfl) ?_
                                                                                        refine And.imp_left (rs_iload_n i_L_law_1670 rfl) ?_
                                                                                        refine And.imp_left (rs_iconst i_L_law_1671 (v := 4) (by decide)) ?_
                                                                                        refine And.imp_left (rs_iadd i_L_law_1672) ?_
                                                                                        refine And.imp_left (rs_ialdS i_L_law_1673 (sScrI SH c61)) ?_
                                                                                        refine And.imp_left (rs_aload_n i_L_law_1674 rfl) ?_
                                                                                        refine And.imp_left (rs_iload_n i_L_law_1675 rfl) ?_
                                                                                        refine And.imp_left (rs_iconst i_L_law_1676 (v := 5) (by decide)) ?_
                                                                                        refine And.imp_left (rs_iadd i_L_law_1677) ?_
                                                                                        refine And.imp_left (rs_ialdS i_L_law_1678 (sScrI SH c62)) ?_
                                                                                        obtain ⟨o64, e64, hf⟩ := bind_some hf
                                                                                        obtain ⟨u64, SH2⟩ := k_X8_copy (X := X) (d := d) (by omega) (by omega) SH e64
                                                                                        refine And.imp_left (rs_inV i_L_law_1679 m_X8_copy rfl (As := [.int (X (ix (v3 + 1))), .int (X (ix (v3 + 2))), .int (X (ix (v3 + 3))), .int (X (ix (v3 + 4))), .int (X (ix (v3 + 5)))]) (rest := [.int o63.1]) rfl rfl (Nat.le_of_ble_eq_true rfl) (sO8 SH hh) u64 (st' := [.int o64.1, .int o63.1]) rfl) ?_
                                                                                        clear SH; have SH := SH2; clear SH2
                                                                                        by_cases c65 : o63.1 = o64.1
                                                                                        · replace hf := (if_pos c65).symm.trans hf
                                                                                          refine And.imp_left (rs_icT i_L_law_1682 (ct_eq c65) (tg := 1773) (by decide)) ?_
                                                                                          exact q_L_law_1773 hd hh ih SH hf
                                                                                        · replace hf := (if_neg c65).symm.trans hf
                                                                                          refine And.imp_left (rs_icF i_L_law_1682 (cf_eq c65)) ?_
                                                                                          refine And.imp_left (rs_iconst i_L_law_1685 (v := 0) (by decide)) ?_
                                                                                          have hf := Option.some.inj hf
                                                                                          subst hf
                                                                                          exact ⟨rs_iret i_L_law_1686 m_L_law (by decide), SH⟩
                                                                                      · replace hf := (if_neg c43).symm.trans hf
                                                                                        by_cases c44 : ((X (ix v3)) &&& 63) = 41
                                                                                        · replace hf := (if_pos c44).symm.trans hf
                                                                                          refine And.imp_left (rs_tsw i_L_law_33 (off := 1654) (by rw [c44]; decide) (tg := 1687) (by decide)) ?_
                                                                                          refine And.imp_left (rs_aload_n i_L_law_1687 rfl) ?_
                                                                                          refine And.imp_left (rs_aload_n i_L_law_1688 rfl) ?_
                                                                                          refine And.imp_left (rs_iload_n i_L_law_1689 rfl) ?_
                                                                                          refine And.imp_left (rs_iconst i_L_law_1690 (v := 1) (by decide)) ?_
                                                                                          refine And.imp_left (rs_iadd i_L_law_1691) ?_
                                                                                          obtain ⟨c51, hf⟩ := ite_some hf
                                                                                          refine And.imp_left (rs_ialdS i_L_law_1692 (sScrI SH c51)) ?_
                                                                                          refine And.imp_left (rs_aload_n i_L_law_1693 rfl) ?_
                                                                                          refine And.imp_left (rs_iload_n i_L_law_1694 rfl) ?_
                                                                                          refine And.imp_left (rs_iconst i_L_law_1695 (v := 2) (by decide)) ?_
                                                                                          refine And.imp_left (rs_iadd i_L_law_1696) ?_
                                                                                          obtain ⟨c52, hf⟩ := ite_some hf
                                                                                          refine And.imp_left (rs_ialdS i_L_law_1697 (sScrI SH c52)) ?_
                                                                                          refine And.imp_left (rs_aload_n i_L_law_1698 rfl) ?_
                                                                                          refine And.imp_left (rs_iload_n i_L_law_1699 rfl) ?_
                                                                                          refine And.imp_left (rs_iconst i_L_law_1700 (v := 3) (by decide)) ?_
                                                                                          refine And.imp_left (rs_iadd i_L_law_1701) ?_
                                                                                          obtain ⟨c53, hf⟩ := ite_some hf
                                                                                          refine And.imp_left (rs_ialdS i_L_law_1702 (sScrI SH c53)) ?_
                                                                                          refine And.imp_left (rs_aload_n i_L_law_1703 rfl) ?_
                                                                                          refine And.imp_left (rs_iload_n i_L_law_1704 rfl) ?_
                                                                                          refine And.imp_left (rs_iconst i_L_law_1705 (v := 4) (by decide)) ?_
                                                                                          refine And.imp_left (rs_iadd i_L_law_1706) ?_
                                                                                          obtain ⟨c54, hf⟩ := ite_some hf
                                                                                          refine And.imp_left (rs_ialdS i_L_law_1707 (sScrI SH c54)) ?_
                                                                                          obtain ⟨o55, e55, hf⟩ := bind_some hf
                                                                                          obtain ⟨u55, SH2⟩ := k_X7_stepsBy (X := X) (d := d) (by omega) (by omega) SH e55
                                                                                          refine And.imp_left (rs_inV i_L_law_1708 m_X7_stepsBy rfl (As := [.int (X (ix (v3 + 1))), .int (X (ix (v3 + 2))), .int (X (ix (v3 + 3))), .int (X (ix (v3 + 4)))]) (rest := []) rfl rfl (Nat.le_of_ble_eq_true rfl) (sO7 SH (by omega)) u55 (st' := [.int o55.1]) rfl) ?_
                                                                                          clear SH; have SH := SH2; clear SH2
                                                                                          refine And.imp_left (rs_aload_n i_L_law_1711 rfl) ?_
                                                                                          refine And.imp_left (rs_aload_n i_L_law_1712 rfl) ?_
                                                                                          refine And.imp_left (rs_iload_n i_L_law_1713 rfl) ?_
                                                                                          refine And.imp_left (rs_iconst i_L_law_1714 (v := 1) (by decide)) ?_
                                                                                          refine And.imp_left (rs_iadd i_L_law_1715) ?_
                                                                                          refine And.imp_left (rs_ialdS i_L_law_1716 (sScrI SH c51)) ?_
                                                                                          refine And.imp_left (rs_aload_n i_L_law_1717 rfl) ?_
                                                                                          refine And.imp_left (rs_iload_n i_L_law_1718 rfl) ?_
                                                                                          refine And.imp_left (rs_iconst i_L_law_1719 (v := 2) (by decide)) ?_
                                                                                          refine And.imp_left (rs_iadd i_L_law_1720) ?_
                                                                                          refine And.imp_left (rs_ialdS i_L_law_1721 (sScrI SH c52)) ?_
                                                                                          refine And.imp_left (rs_aload_n i_L_law_1722 rfl) ?_
                                                                                          refine And.imp_left (rs_iload_n i_L_law_1723 rfl) ?_
                                                                                          refine And.imp_left (rs_iconst i_L_law_1724 (v := 3) (by decide)) ?_
                                                                                          refine And.imp_left (rs_iadd i_L_law_1725) ?_
                                                                                          refine And.imp_left (rs_ialdS i_L_law_1726 (sScrI SH c53)) ?_
                                                                                          refine And.imp_left (rs_aload_n i_L_law_1727 rfl) ?_
                                                                                          refine And.imp_left (rs_iload_n i_L_law_1728 rfl) ?_
                                                                                          refine And.imp_left (rs_iconst i_L_law_1729 (v := 4) (by decide)) ?_
                                                                                          refine And.imp_left (rs_iadd i_L_law_1730) ?_
                                                                                          refine And.imp_left (rs_ialdS i_L_law_1731 (sScrI SH c54)) ?_
                                                                                          obtain ⟨o56, e56, hf⟩ := bind_some hf
                                                                                          obtain ⟨u56, SH2⟩ := k_X8_stepsBy (X := X) (d := d) (by omega) (by omega) SH e56
                                                                                          refine And.imp_left (rs_inV i_L_law_1732 m_X8_stepsBy rfl (As := [.int (X (ix (v3 + 1))), .int (X (ix (v3 + 2))), .int (X (ix (v3 + 3))), .int (X (ix (v3 + 4)))]) (rest := [.int o55.1]) rfl rfl (Nat.le_of_ble_eq_true rfl) (sO8 SH hh) u56 (st' := [.int o56.1, .int o55.1]) rfl) ?_
                                                                                          clear SH; have SH := SH2; clear SH2
                                                                                          by_cases c57 : o55.1 = o56.1
                                                                                          · replace hf := (if_pos c57).symm.trans hf
                                                                                            refine And.imp_left (rs_icT i_L_law_1735 (ct_eq c57) (tg := 1773) (by decide)) ?_
                                                                                            exact q_L_law_1773 hd hh ih SH hf
                                                                                          · replace hf := (if_neg c57).symm.trans hf
                                                                                            refine And.imp_left (rs_icF i_L_law_1735 (cf_eq c57)) ?_
                                                                                            refine And.imp_left (rs_iconst i_L_law_1738 (v := 0) (by decide)) ?_
                                                                                            have hf := Option.some.inj hf
                                                                                            subst hf
                                                                                            exact ⟨rs_iret i_L_law_1739 m_L_law (by decide), SH⟩
                                                                                        · replace hf := (if_neg c44).symm.trans hf
                                                                                          by_cases c45 : ((X (ix v3)) &&& 63) = 42
                                                                                          · replace hf := (if_pos c45).symm.trans hf
                                                                                            refine And.imp_left (rs_tsw i_L_law_33 (off := 1707) (by rw [c45]; decide) (tg := 1740) (by decide)) ?_
                                                                                            refine And.imp_left (rs_aload_n i_L_law_1740 rfl) ?_
                                                                                            refine And.imp_left (rs_aload_n i_L_law_1741 rfl) ?_
                                                                                            refine And.imp_left (rs_iload_n i_L_law_1742 rfl) ?_
                                                                                            refine And.imp_left (rs_iconst i_L_law_1743 (v := 1) (by decide)) ?_
                                                                                            refine And.imp_left (rs_iadd i_L_law_1744) ?_
                                                                                            obtain ⟨c46, hf⟩ := ite_some hf
                                                                                            refine And.imp_left (rs_ialdS i_L_law_1745 (sScrI SH c46)) ?_
                                                                                            refine And.imp_left (rs_aload_n i_L_law_1746 rfl) ?_
                                                                                            refine And.imp_left (rs_iload_n i_L_law_1747 rfl) ?_
                                                                                            refine And.imp_left (rs_iconst i_L_law_1748 (v := 2) (by decide)) ?_
                                                                                            refine And.imp_left (rs_iadd i_L_law_1749) ?_
                                                                                            obtain ⟨c47, hf⟩ := ite_some hf
                                                                                            refine And.imp_left (rs_ialdS i_L_law_1750 (sScrI SH c47)) ?_
                                                                                            obtain ⟨o48, e48, hf⟩ := bind_some hf
                                                                                            obtain ⟨u48, SH2⟩ := k_X7_taken (X := X) (d := d) (by omega) (by omega) SH e48
                                                                                            refine And.imp_left (rs_inV i_L_law_1751 m_X7_taken rfl (As := [.int (X (ix (v3 + 1))), .int (X (ix (v3 + 2)))]) (rest := []) rfl rfl (Nat.le_of_ble_eq_true rfl) (sO7 SH (by omega)) u48 (st' := [.int o48.1]) rfl) ?_
                                                                                            clear SH; have SH := SH2; clear SH2
                                                                                            refine And.imp_left (rs_aload_n i_L_law_1754 rfl) ?_
                                                                                            refine And.imp_left (rs_aload_n i_L_law_1755 rfl) ?_
                                                                                            refine And.imp_left (rs_iload_n i_L_law_1756 rfl) ?_
                                                                                            refine And.imp_left (rs_iconst i_L_law_1757 (v := 1) (by decide)) ?_
                                                                                            refine And.imp_left (rs_iadd i_L_law_1758) ?_
                                                                                            refine And.imp_left (rs_ialdS i_L_law_1759 (sScrI SH c46)) ?_
                                                                                            refine And.imp_left (rs_aload_n i_L_law_1760 rfl) ?_
                                                                                            refine And.imp_left (rs_iload_n i_L_law_1761 rfl) ?_
                                                                                            refine And.imp_left (rs_iconst i_L_law_1762 (v := 2) (by decide)) ?_
                                                                                            refine And.imp_left (rs_iadd i_L_law_1763) ?_
                                                                                            refine And.imp_left (rs_ialdS i_L_law_1764 (sScrI SH c47)) ?_
                                                                                            obtain ⟨o49, e49, hf⟩ := bind_some hf
                                                                                            obtain ⟨u49, SH2⟩ := k_X8_taken (X := X) (d := d) (by omega) (by omega) SH e49
                                                                                            refine And.imp_left (rs_inV i_L_law_1765 m_X8_taken rfl (As := [.int (X (ix (v3 + 1))), .int (X (ix (v3 + 2)))]) (rest := [.int o48.1]) rfl rfl (Nat.le_of_ble_eq_true rfl) (sO8 SH hh) u49 (st' := [.int o49.1, .int o48.1]) rfl) ?_
                                                                                            clear SH; have SH := SH2; clear SH2
                                                                                            by_cases c50 : o48.1 = o49.1
                                                                                            · replace hf := (if_pos c50).symm.trans hf
                                                                                              refine And.imp_left (rs_icT i_L_law_1768 (ct_eq c50) (tg := 1773) (by decide)) ?_
                                                                                              exact q_L_law_1773 hd hh ih SH hf
                                                                                            · replace hf := (if_neg c50).symm.trans hf
                                                                                              refine And.imp_left (rs_icF i_L_law_1768 (cf_eq c50)) ?_
                                                                                              refine And.imp_left (rs_iconst i_L_law_1771 (v := 0) (by decide)) ?_
                                                                                              have hf := Option.some.inj hf
                                                                                              subst hf
                                                                                              exact ⟨rs_iret i_L_law_1772 m_L_law (by decide), SH⟩
                                                                                          · replace hf := (if_neg c45).symm.trans hf
                                                                                            refine And.imp_left (rs_tsw i_L_law_33 (off := 1740) (swt_df (by have z0 := ne_ti c3; rw [show (0 : Int32).toInt = 0 from by decide] at z0; have z1 := ne_ti c4; rw [show (1 : Int32).toInt = 1 from by decide] at z1; have z2 := ne_ti c5; rw [show (2 : Int32).toInt = 2 from by decide] at z2; have z3 := ne_ti c6; rw [show (3 : Int32).toInt = 3 from by decide] at z3; have z4 := ne_ti c7; rw [show (4 : Int32).toInt = 4 from by decide] at z4; have z5 := ne_ti c8; rw [show (5 : Int32).toInt = 5 from by decide] at z5; have z6 := ne_ti c9; rw [show (6 : Int32).toInt = 6 from by decide] at z6; have z7 := ne_ti c10; rw [show (7 : Int32).toInt = 7 from by decide] at z7; have z8 := ne_ti c11; rw [show (8 : Int32).toInt = 8 from by decide] at z8; have z9 := ne_ti c12; rw [show (9 : Int32).toInt = 9 from by decide] at z9; have z10 := ne_ti c13; rw [show (10 : Int32).toInt = 10 from by decide] at z10; have z11 := ne_ti c14; rw [show (11 : Int32).toInt = 11 from by decide] at z11; have z12 := ne_ti c15; rw [show (12 : Int32).toInt = 12 from by decide] at z12; have z13 := ne_ti c16; rw [show (13 : Int32).toInt = 13 from by decide] at z13; have z14 := ne_ti c17; rw [show (14 : Int32).toInt = 14 from by decide] at z14; have z15 := ne_ti c18; rw [show (15 : Int32).toInt = 15 from by decide] at z15; have z16 := ne_ti c19; rw [show (16 : Int32).toInt = 16 from by decide] at z16; have z17 := ne_ti c20; rw [show (17 : Int32).toInt = 17 from by decide] at z17; have z18 := ne_ti c21; rw [show (18 : Int32).toInt = 18 from by decide] at z18; have z19 := ne_ti c22; rw [show (19 : Int32).toInt = 19 from by decide] at z19; have z20 := ne_ti c23; rw [show (20 : Int32).toInt = 20 from by decide] at z20; have z21 := ne_ti c24; rw [show (21 : Int32).toInt = 21 from by decide] at z21; have z22 := ne_ti c25; rw [show (22 : Int32).toInt = 22 from by decide] at z22; have z23 := ne_ti c26; rw [show (23 : Int32).toInt = 23 from by decide] at z23; have z24 := ne_ti c27; rw [show (24 : Int32).toInt = 24 from by decide] at z24; have z25 := ne_ti c28; rw [show (25 : Int32).toInt = 25 from by decide] at z25; have z26 := ne_ti c29; rw [show (26 : Int32).toInt = 26 from by decide] at z26; have z27 := ne_ti c30; rw [show (27 : Int32).toInt = 27 from by decide] at z27; have z28 := ne_ti c31; rw [show (28 : Int32).toInt = 28 from by decide] at z28; have z29 := ne_ti c32; rw [show (29 : Int32).toInt = 29 from by decide] at z29; have z30 := ne_ti c33; rw [show (30 : Int32).toInt = 30 from by decide] at z30; have z31 := ne_ti c34; rw [show (31 : Int32).toInt = 31 from by decide] at z31; have z32 := ne_ti c35; rw [show (32 : Int32).toInt = 32 from by decide] at z32; have z33 := ne_ti c36; rw [show (33 : Int32).toInt = 33 from by decide] at z33; have z34 := ne_ti c37; rw [show (34 : Int32).toInt = 34 from by decide] at z34; have z35 := ne_ti c38; rw [show (35 : Int32).toInt = 35 from by decide] at z35; have z36 := ne_ti c39; rw [show (36 : Int32).toInt = 36 from by decide] at z36; have z37 := ne_ti c40; rw [show (37 : Int32).toInt = 37 from by decide] at z37; have z38 := ne_ti c41; rw [show (38 : Int32).toInt = 38 from by decide] at z38; have z39 := ne_ti c42; rw [show (39 : Int32).toInt = 39 from by decide] at z39; have z40 := ne_ti c43; rw [show (40 : Int32).toInt = 40 from by decide] at z40; have z41 := ne_ti c44; rw [show (41 : Int32).toInt = 41 from by decide] at z41; have z42 := ne_ti c45; rw [show (42 : Int32).toInt = 42 from by decide] at z42; omega)) (tg := 1773) (by decide)) ?_
                                                                                            exact q_L_law_1773 hd hh ih SH hf
