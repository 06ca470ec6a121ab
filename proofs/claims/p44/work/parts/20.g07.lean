noncomputable def g_X8_lowest_16 (n : Nat) : Nat → Int64 → Int64 → Int32 → Int64 → Int64 → Hp → Option (Int64 × Hp)
  | 0, _, _, _, _, _, _ => none
  | m + 1, v0, v2, v4, v5, v7, h =>
    if v7 = 0 then
      if v4 ≠ 0 then
        if ¬ v5 = 0 then
        some ((v2 / v5), h)
        else none
      else
        if ¬ v5 = 0 then
        some ((v0 / v5), h)
        else none
    else
      if ¬ v7 = 0 then
      (g_X8_lowest_16 n m) v0 v2 v4 v7 (v5 - v5 / v7 * v7) h
      else none
set_option maxRecDepth 100000 in
set_option maxHeartbeats 4000000 in
theorem q_X8_lowest_16 {X : Nat → Int32} {d : Nat} (hd : 0 ≤ d) {L hi : Nat} (hh : 125 ≤ hi) {n : Nat} : ∀ (m : Nat) (v0 : Int64) (v2 : Int64) (v4 : Int32) (v5 : Int64) (v7 : Int64) (w9 : Option Value) (w10 : Option Value) (h : Hp) (o : (Int64 × Hp)), SHP L hi h → g_X8_lowest_16 n m v0 v2 v4 v5 v7 h = some o → Run X d 204 16 [some (.long v0), none, some (.long v2), none, some (.int v4), some (.long v5), none, some (.long v7), none, w9, w10] [] h (some (.long o.1), o.2) ∧ SHP L hi o.2 := by
  intro m
  induction m with
  | zero => intro v0 v2 v4 v5 v7 w9 w10 h o SH hf; cases hf
  | succ m ih =>
    intro v0 v2 v4 v5 v7 w9 w10 h o SH hf
    rw [g_X8_lowest_16] at hf
    refine And.imp_left (rs_lload i_X8_lowest_16 rfl) ?_
    refine And.imp_left (rs_lconst i_X8_lowest_18 (v := 0) (by decide)) ?_
    refine And.imp_left (rs_lcmp i_X8_lowest_19) ?_
    by_cases c1 : v7 = 0
    · replace hf := (if_pos c1).symm.trans hf
      refine And.imp_left (rs_ifT i_X8_lowest_20 (by rw [lc_eq]; exact decide_eq_true c1) (tg := 41) (by decide)) ?_
      refine And.imp_left (rs_iload i_X8_lowest_41 rfl) ?_
      by_cases c2 : v4 ≠ 0
      · replace hf := (if_pos c2).symm.trans hf
        refine And.imp_left (rs_ifT i_X8_lowest_43 (ct_ne c2) (tg := 50) (by decide)) ?_
        refine And.imp_left (rs_lload_n i_X8_lowest_50 rfl) ?_
        refine And.imp_left (rs_lload i_X8_lowest_51 rfl) ?_
        obtain ⟨c3, hf⟩ := ite_some hf
        refine And.imp_left (rs_ldiv i_X8_lowest_53 c3) ?_
        have hf := Option.some.inj hf
        subst hf
        exact ⟨rs_lret i_X8_lowest_54 m_X8_lowest rfl, SH⟩
      · replace hf := (if_neg c2).symm.trans hf
        refine And.imp_left (rs_ifF i_X8_lowest_43 (cf_ne c2)) ?_
        refine And.imp_left (rs_lload_n i_X8_lowest_46 rfl) ?_
        refine And.imp_left (rs_goto i_X8_lowest_47 (tg := 51) (by decide)) ?_
        refine And.imp_left (rs_lload i_X8_lowest_51 rfl) ?_
        obtain ⟨c4, hf⟩ := ite_some hf
        refine And.imp_left (rs_ldiv i_X8_lowest_53 c4) ?_
        have hf := Option.some.inj hf
        subst hf
        exact ⟨rs_lret i_X8_lowest_54 m_X8_lowest rfl, SH⟩
    · replace hf := (if_neg c1).symm.trans hf
      refine And.imp_left (rs_ifF i_X8_lowest_20 (by rw [lc_eq]; exact decide_eq_false c1)) ?_
      refine And.imp_left (rs_lload i_X8_lowest_23 rfl) ?_
      refine And.imp_left (rs_lload i_X8_lowest_25 rfl) ?_
      obtain ⟨c5, hf⟩ := ite_some hf
      refine And.imp_left (rs_lrem i_X8_lowest_27 c5) ?_
      refine And.imp_left (rs_lstore i_X8_lowest_28 (Nat.le_of_ble_eq_true rfl) (lv' := [some (.long v0), none, some (.long v2), none, some (.int v4), some (.long v5), none, some (.long v7), none, some (.long (v5 - v5 / v7 * v7)), none]) rfl) ?_
      refine And.imp_left (rs_lload i_X8_lowest_30 rfl) ?_
      refine And.imp_left (rs_lstore i_X8_lowest_32 (Nat.le_of_ble_eq_true rfl) (lv' := [some (.long v0), none, some (.long v2), none, some (.int v4), some (.long v7), none, some (.long v7), none, some (.long (v5 - v5 / v7 * v7)), none]) rfl) ?_
      refine And.imp_left (rs_lload i_X8_lowest_34 rfl) ?_
      refine And.imp_left (rs_lstore i_X8_lowest_36 (Nat.le_of_ble_eq_true rfl) (lv' := [some (.long v0), none, some (.long v2), none, some (.int v4), some (.long v7), none, some (.long (v5 - v5 / v7 * v7)), none, some (.long (v5 - v5 / v7 * v7)), none]) rfl) ?_
      refine And.imp_left (rs_goto i_X8_lowest_38 (tg := 16) (by decide)) ?_
      exact ih _ _ _ _ _ _ _ _ _ SH hf
noncomputable def g_X8_lowest_0 (n : Nat) (v0 : Int64) (v2 : Int64) (v4 : Int32) (h : Hp) : Option (Int64 × Hp) :=
  if v0 ≠ 0 then
    g_X8_lowest_16 n n v0 v2 v4 v0 v2 h
  else
    some ((Int32.toInt64 v4), h)
set_option maxRecDepth 100000 in
set_option maxHeartbeats 4000000 in
theorem q_X8_lowest_0 {X : Nat → Int32} {d : Nat} (hd : 0 ≤ d) {L hi : Nat} (hh : 125 ≤ hi) {n : Nat} {v0 : Int64} {v2 : Int64} {v4 : Int32} {h : Hp} {o : (Int64 × Hp)}  (SH : SHP L hi h) (hf : g_X8_lowest_0 n v0 v2 v4 h = some o) : Run X d 204 0 [some (.long v0), none, some (.long v2), none, some (.int v4), none, none, none, none, none, none] [] h (some (.long o.1), o.2) ∧ SHP L hi o.2 := by
  unfold g_X8_lowest_0 at hf
  refine And.imp_left (rs_lload_n i_X8_lowest_0 rfl) ?_
  refine And.imp_left (rs_lconst i_X8_lowest_1 (v := 0) (by decide)) ?_
  refine And.imp_left (rs_lcmp i_X8_lowest_2) ?_
  by_cases c1 : v0 ≠ 0
  · replace hf := (if_pos c1).symm.trans hf
    refine And.imp_left (rs_ifT i_X8_lowest_3 (by rw [lc_ne]; exact decide_eq_true c1) (tg := 10) (by decide)) ?_
    refine And.imp_left (rs_lload_n i_X8_lowest_10 rfl) ?_
    refine And.imp_left (rs_lstore i_X8_lowest_11 (Nat.le_of_ble_eq_true rfl) (lv' := [some (.long v0), none, some (.long v2), none, some (.int v4), some (.long v0), none, none, none, none, none]) rfl) ?_
    refine And.imp_left (rs_lload_n i_X8_lowest_13 rfl) ?_
    refine And.imp_left (rs_lstore i_X8_lowest_14 (Nat.le_of_ble_eq_true rfl) (lv' := [some (.long v0), none, some (.long v2), none, some (.int v4), some (.long v0), none, some (.long v2), none, none, none]) rfl) ?_
    exact q_X8_lowest_16 hd hh _ _ _ _ _ _ _ _ _ _ SH hf
  · replace hf := (if_neg c1).symm.trans hf
    refine And.imp_left (rs_ifF i_X8_lowest_3 (by rw [lc_ne]; exact decide_eq_false c1)) ?_
    refine And.imp_left (rs_iload i_X8_lowest_6 rfl) ?_
    refine And.imp_left (rs_i2l i_X8_lowest_8) ?_
    have hf := Option.some.inj hf
    subst hf
    exact ⟨rs_lret i_X8_lowest_9 m_X8_lowest rfl, SH⟩
noncomputable def g_X8_lowest (n : Nat) (v0 : Int64) (v2 : Int64) (v4 : Int32) (h : Hp) : Option (Int64 × Hp) := g_X8_lowest_0 n v0 v2 v4 h
theorem k_X8_lowest {X : Nat → Int32} {d : Nat} (hd : 0 ≤ d) {L hi : Nat} (hh : 125 ≤ hi) {n : Nat} {v0 : Int64} {v2 : Int64} {v4 : Int32} {h : Hp} {o : (Int64 × Hp)}  (SH : SHP L hi h) (hf : g_X8_lowest n v0 v2 v4 h = some o) : Calls X d 204 [.long v0, .long v2, .int v4] h (some (.long o.1), o.2) ∧ SHP L hi o.2 := by
  obtain ⟨r, S2⟩ := q_X8_lowest_0 hd hh SH hf
  exact ⟨⟨_, rfl, r⟩, S2⟩
noncomputable def g_X8_power_5 (n : Nat) : Nat → Int64 → Int32 → Int64 → Int32 → Hp → Option (Int64 × Hp)
  | 0, _, _, _, _, _ => none
  | m + 1, v0, v2, v3, v5, h =>
    if v2 ≤ v5 then
      some (v3, h)
    else
      (g_X8_power_5 n m) v0 v2 (v3 * v0) (v5 + 1) h
set_option maxRecDepth 100000 in
set_option maxHeartbeats 4000000 in
theorem q_X8_power_5 {X : Nat → Int32} {d : Nat} (hd : 0 ≤ d) {L hi : Nat} (hh : 125 ≤ hi) {n : Nat} : ∀ (m : Nat) (v0 : Int64) (v2 : Int32) (v3 : Int64) (v5 : Int32) (h : Hp) (o : (Int64 × Hp)), SHP L hi h → g_X8_power_5 n m v0 v2 v3 v5 h = some o → Run X d 205 5 [some (.long v0), none, some (.int v2), some (.long v3), none, some (.int v5)] [] h (some (.long o.1), o.2) ∧ SHP L hi o.2 := by
  intro m
  induction m with
  | zero => intro v0 v2 v3 v5 h o SH hf; cases hf
  | succ m ih =>
    intro v0 v2 v3 v5 h o SH hf
    rw [g_X8_power_5] at hf
    refine And.imp_left (rs_iload i_X8_power_5 rfl) ?_
    refine And.imp_left (rs_iload_n i_X8_power_7 rfl) ?_
    by_cases c1 : v2 ≤ v5
    · replace hf := (if_pos c1).symm.trans hf
      refine And.imp_left (rs_icT i_X8_power_8 (ct_ge c1) (tg := 21) (by decide)) ?_
      refine And.imp_left (rs_lload_n i_X8_power_21 rfl) ?_
      have hf := Option.some.inj hf
      subst hf
      exact ⟨rs_lret i_X8_power_22 m_X8_power rfl, SH⟩
    · replace hf := (if_neg c1).symm.trans hf
      refine And.imp_left (rs_icF i_X8_power_8 (cf_ge c1)) ?_
      refine And.imp_left (rs_lload_n i_X8_power_11 rfl) ?_
      refine And.imp_left (rs_lload_n i_X8_power_12 rfl) ?_
      refine And.imp_left (rs_lmul i_X8_power_13) ?_
      refine And.imp_left (rs_lstore_n i_X8_power_14 (Nat.le_of_ble_eq_true rfl) (lv' := [some (.long v0), none, some (.int v2), some (.long (v3 * v0)), none, some (.int v5)]) rfl) ?_
      refine And.imp_left (rs_iinc i_X8_power_15 rfl (v := v5 + 1) rfl (Nat.le_of_ble_eq_true rfl) (lv' := [some (.long v0), none, some (.int v2), some (.long (v3 * v0)), none, some (.int (v5 + 1))]) rfl) ?_
      refine And.imp_left (rs_goto i_X8_power_18 (tg := 5) (by decide)) ?_
      exact ih _ _ _ _ _ _ SH hf
noncomputable def g_X8_power_0 (n : Nat) (v0 : Int64) (v2 : Int32) (h : Hp) : Option (Int64 × Hp) :=
  g_X8_power_5 n n v0 v2 1 0 h
set_option maxRecDepth 100000 in
set_option maxHeartbeats 4000000 in
theorem q_X8_power_0 {X : Nat → Int32} {d : Nat} (hd : 0 ≤ d) {L hi : Nat} (hh : 125 ≤ hi) {n : Nat} {v0 : Int64} {v2 : Int32} {h : Hp} {o : (Int64 × Hp)}  (SH : SHP L hi h) (hf : g_X8_power_0 n v0 v2 h = some o) : Run X d 205 0 [some (.long v0), none, some (.int v2), none, none, none] [] h (some (.long o.1), o.2) ∧ SHP L hi o.2 := by
  unfold g_X8_power_0 at hf
  refine And.imp_left (rs_lconst i_X8_power_0 (v := 1) (by decide)) ?_
  refine And.imp_left (rs_lstore_n i_X8_power_1 (Nat.le_of_ble_eq_true rfl) (lv' := [some (.long v0), none, some (.int v2), some (.long 1), none, none]) rfl) ?_
  refine And.imp_left (rs_iconst i_X8_power_2 (v := 0) (by decide)) ?_
  refine And.imp_left (rs_istore i_X8_power_3 (Nat.le_of_ble_eq_true rfl) (lv' := [some (.long v0), none, some (.int v2), some (.long 1), none, some (.int 0)]) rfl) ?_
  exact q_X8_power_5 hd hh _ _ _ _ _ _ _ SH hf
noncomputable def g_X8_power (n : Nat) (v0 : Int64) (v2 : Int32) (h : Hp) : Option (Int64 × Hp) := g_X8_power_0 n v0 v2 h
theorem k_X8_power {X : Nat → Int32} {d : Nat} (hd : 0 ≤ d) {L hi : Nat} (hh : 125 ≤ hi) {n : Nat} {v0 : Int64} {v2 : Int32} {h : Hp} {o : (Int64 × Hp)}  (SH : SHP L hi h) (hf : g_X8_power n v0 v2 h = some o) : Calls X d 205 [.long v0, .int v2] h (some (.long o.1), o.2) ∧ SHP L hi o.2 := by
  obtain ⟨r, S2⟩ := q_X8_power_0 hd hh SH hf
  exact ⟨⟨_, rfl, r⟩, S2⟩
noncomputable def g_X8_thin_0 (n : Nat) (v1 : Int32) (v2 : Int32) (v3 : Int32) (h : Hp) : Option (Int64 × Hp) :=
  (g_X8_in v1 1 999999 h).bind fun o1 =>
  if o1.1 = 0 then
    some ((-4611686018427387904), o1.2)
  else
    (g_X8_in v2 0 30 o1.2).bind fun o3 =>
    if o3.1 = 0 then
      some ((-4611686018427387904), o3.2)
    else
      (g_X8_in v3 0 1 o3.2).bind fun o5 =>
      if o5.1 = 0 then
        some ((-4611686018427387904), o5.2)
      else
        (g_X8_power n 2 v2 o5.2).bind fun o7 =>
        (g_X8_lowest n (Int32.toInt64 v1) o7.1 v3 o7.2).bind fun o8 =>
        some (o8.1, o8.2)
set_option maxRecDepth 100000 in
set_option maxHeartbeats 4000000 in
theorem q_X8_thin_0 {X : Nat → Int32} {d : Nat} (hd : 1 ≤ (d + 1)) {L hi : Nat} (hh : 125 ≤ hi) {n : Nat} {v1 : Int32} {v2 : Int32} {v3 : Int32} {h : Hp} {o : (Int64 × Hp)}  (SH : SHP L hi h) (hf : g_X8_thin_0 n v1 v2 v3 h = some o) : Run X (d + 1) 206 0 [some (.ref 96), some (.int v1), some (.int v2), some (.int v3)] [] h (some (.long o.1), o.2) ∧ SHP L hi o.2 := by
  unfold g_X8_thin_0 at hf
  refine And.imp_left (rs_iload_n i_X8_thin_0 rfl) ?_
  refine And.imp_left (rs_iconst i_X8_thin_1 (v := 1) (by decide)) ?_
  refine And.imp_left (rs_ldcw i_X8_thin_2 (v := 999999) (by decide)) ?_
  obtain ⟨o1, e1, hf⟩ := bind_some hf
  obtain ⟨u1, SH2⟩ := k_X8_in (X := X) (d := d) (by omega) (by omega) SH e1
  refine And.imp_left (rs_inS i_X8_thin_5 (by decide) m_X8_in rfl (As := [.int v1, .int 1, .int 999999]) (rest := []) rfl rfl (Nat.le_of_ble_eq_true rfl) u1 (st' := [.int o1.1]) rfl) ?_
  clear SH; have SH := SH2; clear SH2
  by_cases c2 : o1.1 = 0
  · replace hf := (if_pos c2).symm.trans hf
    refine And.imp_left (rs_ifT i_X8_thin_8 (ct_eq c2) (tg := 46) (by decide)) ?_
    refine And.imp_left (rs_ldc2 i_X8_thin_46 (v := (-4611686018427387904)) (by decide)) ?_
    have hf := Option.some.inj hf
    subst hf
    exact ⟨rs_lret i_X8_thin_49 m_X8_thin rfl, SH⟩
  · replace hf := (if_neg c2).symm.trans hf
    refine And.imp_left (rs_ifF i_X8_thin_8 (cf_eq c2)) ?_
    refine And.imp_left (rs_iload_n i_X8_thin_11 rfl) ?_
    refine And.imp_left (rs_iconst i_X8_thin_12 (v := 0) (by decide)) ?_
    refine And.imp_left (rs_bipush i_X8_thin_13 (v := 30) (by decide)) ?_
    obtain ⟨o3, e3, hf⟩ := bind_some hf
    obtain ⟨u3, SH2⟩ := k_X8_in (X := X) (d := d) (by omega) (by omega) SH e3
    refine And.imp_left (rs_inS i_X8_thin_15 (by decide) m_X8_in rfl (As := [.int v2, .int 0, .int 30]) (rest := []) rfl rfl (Nat.le_of_ble_eq_true rfl) u3 (st' := [.int o3.1]) rfl) ?_
    clear SH; have SH := SH2; clear SH2
    by_cases c4 : o3.1 = 0
    · replace hf := (if_pos c4).symm.trans hf
      refine And.imp_left (rs_ifT i_X8_thin_18 (ct_eq c4) (tg := 46) (by decide)) ?_
      refine And.imp_left (rs_ldc2 i_X8_thin_46 (v := (-4611686018427387904)) (by decide)) ?_
      have hf := Option.some.inj hf
      subst hf
      exact ⟨rs_lret i_X8_thin_49 m_X8_thin rfl, SH⟩
    · replace hf := (if_neg c4).symm.trans hf
      refine And.imp_left (rs_ifF i_X8_thin_18 (cf_eq c4)) ?_
      refine And.imp_left (rs_iload_n i_X8_thin_21 rfl) ?_
      refine And.imp_left (rs_iconst i_X8_thin_22 (v := 0) (by decide)) ?_
      refine And.imp_left (rs_iconst i_X8_thin_23 (v := 1) (by decide)) ?_
      obtain ⟨o5, e5, hf⟩ := bind_some hf
      obtain ⟨u5, SH2⟩ := k_X8_in (X := X) (d := d) (by omega) (by omega) SH e5
      refine And.imp_left (rs_inS i_X8_thin_24 (by decide) m_X8_in rfl (As := [.int v3, .int 0, .int 1]) (rest := []) rfl rfl (Nat.le_of_ble_eq_true rfl) u5 (st' := [.int o5.1]) rfl) ?_
      clear SH; have SH := SH2; clear SH2
      by_cases c6 : o5.1 = 0
      · replace hf := (if_pos c6).symm.trans hf
        refine And.imp_left (rs_ifT i_X8_thin_27 (ct_eq c6) (tg := 46) (by decide)) ?_
        refine And.imp_left (rs_ldc2 i_X8_thin_46 (v := (-4611686018427387904)) (by decide)) ?_
        have hf := Option.some.inj hf
        subst hf
        exact ⟨rs_lret i_X8_thin_49 m_X8_thin rfl, SH⟩
      · replace hf := (if_neg c6).symm.trans hf
        refine And.imp_left (rs_ifF i_X8_thin_27 (cf_eq c6)) ?_
        refine And.imp_left (rs_iload_n i_X8_thin_30 rfl) ?_
        refine And.imp_left (rs_i2l i_X8_thin_31) ?_
        refine And.imp_left (rs_ldc2 i_X8_thin_32 (v := 2) (by decide)) ?_
        refine And.imp_left (rs_iload_n i_X8_thin_35 rfl) ?_
        obtain ⟨o7, e7, hf⟩ := bind_some hf
        obtain ⟨u7, SH2⟩ := k_X8_power (X := X) (d := d) (by omega) (by omega) SH e7
        refine And.imp_left (rs_inS i_X8_thin_36 (by decide) m_X8_power rfl (As := [.long 2, .int v2]) (rest := [.long (Int32.toInt64 v1)]) rfl rfl (Nat.le_of_ble_eq_true rfl) u7 (st' := [.long o7.1, .long (Int32.toInt64 v1)]) rfl) ?_
        clear SH; have SH := SH2; clear SH2
        refine And.imp_left (rs_iload_n i_X8_thin_39 rfl) ?_
        obtain ⟨o8, e8, hf⟩ := bind_some hf
        obtain ⟨u8, SH2⟩ := k_X8_lowest (X := X) (d := d) (by omega) (by omega) SH e8
        refine And.imp_left (rs_inS i_X8_thin_40 (by decide) m_X8_lowest rfl (As := [.long (Int32.toInt64 v1), .long o7.1, .int v3]) (rest := []) rfl rfl (Nat.le_of_ble_eq_true rfl) u8 (st' := [.long o8.1]) rfl) ?_
        clear SH; have SH := SH2; clear SH2
        refine And.imp_left (rs_goto i_X8_thin_43 (tg := 49) (by decide)) ?_
        have hf := Option.some.inj hf
        subst hf
        exact ⟨rs_lret i_X8_thin_49 m_X8_thin rfl, SH⟩
noncomputable def g_X8_thin (n : Nat) (v1 : Int32) (v2 : Int32) (v3 : Int32) (h : Hp) : Option (Int64 × Hp) := g_X8_thin_0 n v1 v2 v3 h
theorem k_X8_thin {X : Nat → Int32} {d : Nat} (hd : 1 ≤ d) {L hi : Nat} (hh : 125 ≤ hi) {n : Nat} {v1 : Int32} {v2 : Int32} {v3 : Int32} {h : Hp} {o : (Int64 × Hp)}  (SH : SHP L hi h) (hf : g_X8_thin n v1 v2 v3 h = some o) : Calls X d 206 [.ref 96, .int v1, .int v2, .int v3] h (some (.long o.1), o.2) ∧ SHP L hi o.2 := by
  obtain ⟨d, rfl⟩ : ∃ z, d = z + 1 := ⟨d - 1, by omega⟩
  obtain ⟨r, S2⟩ := q_X8_thin_0 hd hh SH hf
  exact ⟨⟨_, rfl, r⟩, S2⟩
noncomputable def g_X8_areOdds_0 (v0 : Int32) (v1 : Int32) (h : Hp) : Option (Int32 × Hp) :=
  (g_X8_in v1 1 30 h).bind fun o1 =>
  if o1.1 = 0 then
    some (0, o1.2)
  else
    (g_X8_in v0 0 v1 o1.2).bind fun o3 =>
    if o3.1 = 0 then
      some (0, o3.2)
    else
      some (1, o3.2)
set_option maxRecDepth 100000 in
set_option maxHeartbeats 4000000 in
theorem q_X8_areOdds_0 {X : Nat → Int32} {d : Nat} (hd : 1 ≤ (d + 1)) {L hi : Nat} (hh : 125 ≤ hi) {v0 : Int32} {v1 : Int32} {h : Hp} {o : (Int32 × Hp)}  (SH : SHP L hi h) (hf : g_X8_areOdds_0 v0 v1 h = some o) : Run X (d + 1) 207 0 [some (.int v0), some (.int v1)] [] h (some (.int o.1), o.2) ∧ SHP L hi o.2 := by
  unfold g_X8_areOdds_0 at hf
  refine And.imp_left (rs_iload_n i_X8_areOdds_0 rfl) ?_
  refine And.imp_left (rs_iconst i_X8_areOdds_1 (v := 1) (by decide)) ?_
  refine And.imp_left (rs_bipush i_X8_areOdds_2 (v := 30) (by decide)) ?_
  obtain ⟨o1, e1, hf⟩ := bind_some hf
  obtain ⟨u1, SH2⟩ := k_X8_in (X := X) (d := d) (by omega) (by omega) SH e1
  refine And.imp_left (rs_inS i_X8_areOdds_4 (by decide) m_X8_in rfl (As := [.int v1, .int 1, .int 30]) (rest := []) rfl rfl (Nat.le_of_ble_eq_true rfl) u1 (st' := [.int o1.1]) rfl) ?_
  clear SH; have SH := SH2; clear SH2
  by_cases c2 : o1.1 = 0
  · replace hf := (if_pos c2).symm.trans hf
    refine And.imp_left (rs_ifT i_X8_areOdds_7 (ct_eq c2) (tg := 23) (by decide)) ?_
    refine And.imp_left (rs_iconst i_X8_areOdds_23 (v := 0) (by decide)) ?_
    have hf := Option.some.inj hf
    subst hf
    exact ⟨rs_iret i_X8_areOdds_24 m_X8_areOdds (by decide), SH⟩
  · replace hf := (if_neg c2).symm.trans hf
    refine And.imp_left (rs_ifF i_X8_areOdds_7 (cf_eq c2)) ?_
    refine And.imp_left (rs_iload_n i_X8_areOdds_10 rfl) ?_
    refine And.imp_left (rs_iconst i_X8_areOdds_11 (v := 0) (by decide)) ?_
    refine And.imp_left (rs_iload_n i_X8_areOdds_12 rfl) ?_
    obtain ⟨o3, e3, hf⟩ := bind_some hf
    obtain ⟨u3, SH2⟩ := k_X8_in (X := X) (d := d) (by omega) (by omega) SH e3
    refine And.imp_left (rs_inS i_X8_areOdds_13 (by decide) m_X8_in rfl (As := [.int v0, .int 0, .int v1]) (rest := []) rfl rfl (Nat.le_of_ble_eq_true rfl) u3 (st' := [.int o3.1]) rfl) ?_
    clear SH; have SH := SH2; clear SH2
    by_cases c4 : o3.1 = 0
    · replace hf := (if_pos c4).symm.trans hf
      refine And.imp_left (rs_ifT i_X8_areOdds_16 (ct_eq c4) (tg := 23) (by decide)) ?_
      refine And.imp_left (rs_iconst i_X8_areOdds_23 (v := 0) (by decide)) ?_
      have hf := Option.some.inj hf
      subst hf
      exact ⟨rs_iret i_X8_areOdds_24 m_X8_areOdds (by decide), SH⟩
    · replace hf := (if_neg c4).symm.trans hf
      refine And.imp_left (rs_ifF i_X8_areOdds_16 (cf_eq c4)) ?_
      refine And.imp_left (rs_iconst i_X8_areOdds_19 (v := 1) (by decide)) ?_
      refine And.imp_left (rs_goto i_X8_areOdds_20 (tg := 24) (by decide)) ?_
      have hf := Option.some.inj hf
      subst hf
      exact ⟨rs_iret i_X8_areOdds_24 m_X8_areOdds (by decide), SH⟩
noncomputable def g_X8_areOdds (v0 : Int32) (v1 : Int32) (h : Hp) : Option (Int32 × Hp) := g_X8_areOdds_0 v0 v1 h
theorem k_X8_areOdds {X : Nat → Int32} {d : Nat} (hd : 1 ≤ d) {L hi : Nat} (hh : 125 ≤ hi) {v0 : Int32} {v1 : Int32} {h : Hp} {o : (Int32 × Hp)}  (SH : SHP L hi h) (hf : g_X8_areOdds v0 v1 h = some o) : Calls X d 207 [.int v0, .int v1] h (some (.int o.1), o.2) ∧ SHP L hi o.2 := by
  obtain ⟨d, rfl⟩ : ∃ z, d = z + 1 := ⟨d - 1, by omega⟩
  obtain ⟨r, S2⟩ := q_X8_areOdds_0 hd hh SH hf
  exact ⟨⟨_, rfl, r⟩, S2⟩
noncomputable def g_X8_odds_0 (n : Nat) (v1 : Int32) (v2 : Int32) (v3 : Int32) (v4 : Int32) (h : Hp) : Option (Int64 × Hp) :=
  (g_X8_areOdds v1 v2 h).bind fun o1 =>
  if o1.1 = 0 then
    some ((-4611686018427387904), o1.2)
  else
    (g_X8_in v3 0 10 o1.2).bind fun o3 =>
    if o3.1 = 0 then
      some ((-4611686018427387904), o3.2)
    else
      (g_X8_in v4 0 1 o3.2).bind fun o5 =>
      if o5.1 = 0 then
        some ((-4611686018427387904), o5.2)
      else
        (g_X8_power n (Int32.toInt64 (v2 - v1)) v3 o5.2).bind fun o7 =>
        (g_X8_power n (Int32.toInt64 v2) v3 o7.2).bind fun o8 =>
        (g_X8_lowest n o7.1 o8.1 v4 o8.2).bind fun o9 =>
        some (o9.1, o9.2)
set_option maxRecDepth 100000 in
set_option maxHeartbeats 4000000 in
theorem q_X8_odds_0 {X : Nat → Int32} {d : Nat} (hd : 2 ≤ (d + 1)) {L hi : Nat} (hh : 125 ≤ hi) {n : Nat} {v1 : Int32} {v2 : Int32} {v3 : Int32} {v4 : Int32} {h : Hp} {o : (Int64 × Hp)}  (SH : SHP L hi h) (hf : g_X8_odds_0 n v1 v2 v3 v4 h = some o) : Run X (d + 1) 208 0 [some (.ref 96), some (.int v1), some (.int v2), some (.int v3), some (.int v4)] [] h (some (.long o.1), o.2) ∧ SHP L hi o.2 := by
  unfold g_X8_odds_0 at hf
  refine And.imp_left (rs_iload_n i_X8_odds_0 rfl) ?_
  refine And.imp_left (rs_iload_n i_X8_odds_1 rfl) ?_
  obtain ⟨o1, e1, hf⟩ := bind_some hf
  obtain ⟨u1, SH2⟩ := k_X8_areOdds (X := X) (d := d) (by omega) (by omega) SH e1
  refine And.imp_left (rs_inS i_X8_odds_2 (by decide) m_X8_areOdds rfl (As := [.int v1, .int v2]) (rest := []) rfl rfl (Nat.le_of_ble_eq_true rfl) u1 (st' := [.int o1.1]) rfl) ?_
  clear SH; have SH := SH2; clear SH2
  by_cases c2 : o1.1 = 0
  · replace hf := (if_pos c2).symm.trans hf
    refine And.imp_left (rs_ifT i_X8_odds_5 (ct_eq c2) (tg := 50) (by decide)) ?_
    refine And.imp_left (rs_ldc2 i_X8_odds_50 (v := (-4611686018427387904)) (by decide)) ?_
    have hf := Option.some.inj hf
    subst hf
    exact ⟨rs_lret i_X8_odds_53 m_X8_odds rfl, SH⟩
  · replace hf := (if_neg c2).symm.trans hf
    refine And.imp_left (rs_ifF i_X8_odds_5 (cf_eq c2)) ?_
    refine And.imp_left (rs_iload_n i_X8_odds_8 rfl) ?_
    refine And.imp_left (rs_iconst i_X8_odds_9 (v := 0) (by decide)) ?_
    refine And.imp_left (rs_bipush i_X8_odds_10 (v := 10) (by decide)) ?_
    obtain ⟨o3, e3, hf⟩ := bind_some hf
    obtain ⟨u3, SH2⟩ := k_X8_in (X := X) (d := d) (by omega) (by omega) SH e3
    refine And.imp_left (rs_inS i_X8_odds_12 (by decide) m_X8_in rfl (As := [.int v3, .int 0, .int 10]) (rest := []) rfl rfl (Nat.le_of_ble_eq_true rfl) u3 (st' := [.int o3.1]) rfl) ?_
    clear SH; have SH := SH2; clear SH2
    by_cases c4 : o3.1 = 0
    · replace hf := (if_pos c4).symm.trans hf
      refine And.imp_left (rs_ifT i_X8_odds_15 (ct_eq c4) (tg := 50) (by decide)) ?_
      refine And.imp_left (rs_ldc2 i_X8_odds_50 (v := (-4611686018427387904)) (by decide)) ?_
      have hf := Option.some.inj hf
      subst hf
      exact ⟨rs_lret i_X8_odds_53 m_X8_odds rfl, SH⟩
    · replace hf := (if_neg c4).symm.trans hf
      refine And.imp_left (rs_ifF i_X8_odds_15 (cf_eq c4)) ?_
      refine And.imp_left (rs_iload i_X8_odds_18 rfl) ?_
      refine And.imp_left (rs_iconst i_X8_odds_20 (v := 0) (by decide)) ?_
      refine And.imp_left (rs_iconst i_X8_odds_21 (v := 1) (by decide)) ?_
      obtain ⟨o5, e5, hf⟩ := bind_some hf
      obtain ⟨u5, SH2⟩ := k_X8_in (X := X) (d := d) (by omega) (by omega) SH e5
      refine And.imp_left (rs_inS i_X8_odds_22 (by decide) m_X8_in rfl (As := [.int v4, .int 0, .int 1]) (rest := []) rfl rfl (Nat.le_of_ble_eq_true rfl) u5 (st' := [.int o5.1]) rfl) ?_
      clear SH; have SH := SH2; clear SH2
      by_cases c6 : o5.1 = 0
      · replace hf := (if_pos c6).symm.trans hf
        refine And.imp_left (rs_ifT i_X8_odds_25 (ct_eq c6) (tg := 50) (by decide)) ?_
        refine And.imp_left (rs_ldc2 i_X8_odds_50 (v := (-4611686018427387904)) (by decide)) ?_
        have hf := Option.some.inj hf
        subst hf
        exact ⟨rs_lret i_X8_odds_53 m_X8_odds rfl, SH⟩
      · replace hf := (if_neg c6).symm.trans hf
        refine And.imp_left (rs_ifF i_X8_odds_25 (cf_eq c6)) ?_
        refine And.imp_left (rs_iload_n i_X8_odds_28 rfl) ?_
        refine And.imp_left (rs_iload_n i_X8_odds_29 rfl) ?_
        refine And.imp_left (rs_isub i_X8_odds_30) ?_
        refine And.imp_left (rs_i2l i_X8_odds_31) ?_
        refine And.imp_left (rs_iload_n i_X8_odds_32 rfl) ?_
        obtain ⟨o7, e7, hf⟩ := bind_some hf
        obtain ⟨u7, SH2⟩ := k_X8_power (X := X) (d := d) (by omega) (by omega) SH e7
        refine And.imp_left (rs_inS i_X8_odds_33 (by decide) m_X8_power rfl (As := [.long (Int32.toInt64 (v2 - v1)), .int v3]) (rest := []) rfl rfl (Nat.le_of_ble_eq_true rfl) u7 (st' := [.long o7.1]) rfl) ?_
        clear SH; have SH := SH2; clear SH2
        refine And.imp_left (rs_iload_n i_X8_odds_36 rfl) ?_
        refine And.imp_left (rs_i2l i_X8_odds_37) ?_
        refine And.imp_left (rs_iload_n i_X8_odds_38 rfl) ?_
        obtain ⟨o8, e8, hf⟩ := bind_some hf
        obtain ⟨u8, SH2⟩ := k_X8_power (X := X) (d := d) (by omega) (by omega) SH e8
        refine And.imp_left (rs_inS i_X8_odds_39 (by decide) m_X8_power rfl (As := [.long (Int32.toInt64 v2), .int v3]) (rest := [.long o7.1]) rfl rfl (Nat.le_of_ble_eq_true rfl) u8 (st' := [.long o8.1, .long o7.1]) rfl) ?_
        clear SH; have SH := SH2; clear SH2
        refine And.imp_left (rs_iload i_X8_odds_42 rfl) ?_
        obtain ⟨o9, e9, hf⟩ := bind_some hf
        obtain ⟨u9, SH2⟩ := k_X8_lowest (X := X) (d := d) (by omega) (by omega) SH e9
        refine And.imp_left (rs_inS i_X8_odds_44 (by decide) m_X8_lowest rfl (As := [.long o7.1, .long o8.1, .int v4]) (rest := []) rfl rfl (Nat.le_of_ble_eq_true rfl) u9 (st' := [.long o9.1]) rfl) ?_
        clear SH; have SH := SH2; clear SH2
        refine And.imp_left (rs_goto i_X8_odds_47 (tg := 53) (by decide)) ?_
        have hf := Option.some.inj hf
        subst hf
        exact ⟨rs_lret i_X8_odds_53 m_X8_odds rfl, SH⟩
noncomputable def g_X8_odds (n : Nat) (v1 : Int32) (v2 : Int32) (v3 : Int32) (v4 : Int32) (h : Hp) : Option (Int64 × Hp) := g_X8_odds_0 n v1 v2 v3 v4 h
theorem k_X8_odds {X : Nat → Int32} {d : Nat} (hd : 2 ≤ d) {L hi : Nat} (hh : 125 ≤ hi) {n : Nat} {v1 : Int32} {v2 : Int32} {v3 : Int32} {v4 : Int32} {h : Hp} {o : (Int64 × Hp)}  (SH : SHP L hi h) (hf : g_X8_odds n v1 v2 v3 v4 h = some o) : Calls X d 208 [.ref 96, .int v1, .int v2, .int v3, .int v4] h (some (.long o.1), o.2) ∧ SHP L hi o.2 := by
  obtain ⟨d, rfl⟩ : ∃ z, d = z + 1 := ⟨d - 1, by omega⟩
  obtain ⟨r, S2⟩ := q_X8_odds_0 hd hh SH hf
  exact ⟨⟨_, rfl, r⟩, S2⟩
noncomputable def g_X8_record_68 (n : Nat) (K27 : Int32 → Int32 → Int32 → Int32 → Int32 → Hp → Option (Int32 × Hp)) (v1 : Int32) (v2 : Int32) (v3 : Int32) (v5 : Int32) (s0 : Int32) (h : Hp) : Option (Int32 × Hp) :=
  K27 v1 v2 v3 s0 (v5 + 1) h
set_option maxRecDepth 100000 in
set_option maxHeartbeats 4000000 in
theorem q_X8_record_68 {X : Nat → Int32} {d : Nat} (hd : 2 ≤ (d + 1)) {L hi : Nat} (hh : 125 ≤ hi) {n : Nat} {K27 : Int32 → Int32 → Int32 → Int32 → Int32 → Hp → Option (Int32 × Hp)} (HK27 : ∀ (v1 : Int32) (v2 : Int32) (v3 : Int32) (v4 : Int32) (v5 : Int32) (h : Hp) (o : (Int32 × Hp)), SHP L hi h → K27 v1 v2 v3 v4 v5 h = some o → Run X (d + 1) 209 27 [some (.ref 96), some (.int v1), some (.int v2), some (.int v3), some (.int v4), some (.int v5)] [] h (some (.int o.1), o.2) ∧ SHP L hi o.2) {v1 : Int32} {v2 : Int32} {v3 : Int32} {v5 : Int32} {s0 : Int32} {d4 : Int32} {h : Hp} {o : (Int32 × Hp)}  (SH : SHP L hi h) (hf : g_X8_record_68 n K27 v1 v2 v3 v5 s0 h = some o) : Run X (d + 1) 209 68 [some (.ref 96), some (.int v1), some (.int v2), some (.int v3), some (.int d4), some (.int v5)] [.int s0] h (some (.int o.1), o.2) ∧ SHP L hi o.2 := by
  unfold g_X8_record_68 at hf
  refine And.imp_left (rs_istore i_X8_record_68 (Nat.le_of_ble_eq_true rfl) (lv' := [some (.ref 96), some (.int v1), some (.int v2), some (.int v3), some (.int s0), some (.int v5)]) rfl) ?_
  refine And.imp_left (rs_iinc i_X8_record_70 rfl (v := v5 + 1) rfl (Nat.le_of_ble_eq_true rfl) (lv' := [some (.ref 96), some (.int v1), some (.int v2), some (.int v3), some (.int s0), some (.int (v5 + 1))]) rfl) ?_
  refine And.imp_left (rs_goto i_X8_record_73 (tg := 27) (by decide)) ?_
  exact HK27 _ _ _ _ _ _ _ SH hf
noncomputable def g_X8_record_27 (n : Nat) : Nat → Int32 → Int32 → Int32 → Int32 → Int32 → Hp → Option (Int32 × Hp)
  | 0, _, _, _, _, _, _ => none
  | m + 1, v1, v2, v3, v4, v5, h =>
    if 10 < v5 then
      some (v4, h)
    else
      (g_X8_power n (Int32.toInt64 (v2 - v1)) v5 h).bind fun o2 =>
      (g_X8_power n (Int32.toInt64 v2) v5 o2.2).bind fun o3 =>
      if (o2.1 * 100) < ((Int32.toInt64 v3) * o3.1) then
        g_X8_record_68 n (g_X8_record_27 n m) v1 v2 v3 v5 v4 o3.2
      else
        g_X8_record_68 n (g_X8_record_27 n m) v1 v2 v3 v5 v5 o3.2
set_option maxRecDepth 100000 in
set_option maxHeartbeats 4000000 in
theorem q_X8_record_27 {X : Nat → Int32} {d : Nat} (hd : 2 ≤ (d + 1)) {L hi : Nat} (hh : 125 ≤ hi) {n : Nat} : ∀ (m : Nat) (v1 : Int32) (v2 : Int32) (v3 : Int32) (v4 : Int32) (v5 : Int32) (h : Hp) (o : (Int32 × Hp)), SHP L hi h → g_X8_record_27 n m v1 v2 v3 v4 v5 h = some o → Run X (d + 1) 209 27 [some (.ref 96), some (.int v1), some (.int v2), some (.int v3), some (.int v4), some (.int v5)] [] h (some (.int o.1), o.2) ∧ SHP L hi o.2 := by
  intro m
  induction m with
  | zero => intro v1 v2 v3 v4 v5 h o SH hf; cases hf
  | succ m ih =>
    intro v1 v2 v3 v4 v5 h o SH hf
    rw [g_X8_record_27] at hf
    refine And.imp_left (rs_iload i_X8_record_27 rfl) ?_
    refine And.imp_left (rs_bipush i_X8_record_29 (v := 10) (by decide)) ?_
    by_cases c1 : 10 < v5
    · replace hf := (if_pos c1).symm.trans hf
      refine And.imp_left (rs_icT i_X8_record_31 (ct_gt c1) (tg := 76) (by decide)) ?_
      refine And.imp_left (rs_iload i_X8_record_76 rfl) ?_
      have hf := Option.some.inj hf
      subst hf
      exact ⟨rs_iret i_X8_record_78 m_X8_record rfl, SH⟩
    · replace hf := (if_neg c1).symm.trans hf
      refine And.imp_left (rs_icF i_X8_record_31 (cf_gt c1)) ?_
      refine And.imp_left (rs_iload_n i_X8_record_34 rfl) ?_
      refine And.imp_left (rs_iload_n i_X8_record_35 rfl) ?_
      refine And.imp_left (rs_isub i_X8_record_36) ?_
      refine And.imp_left (rs_i2l i_X8_record_37) ?_
      refine And.imp_left (rs_iload i_X8_record_38 rfl) ?_
      obtain ⟨o2, e2, hf⟩ := bind_some hf
      obtain ⟨u2, SH2⟩ := k_X8_power (X := X) (d := d) (by omega) (by omega) SH e2
      refine And.imp_left (rs_inS i_X8_record_40 (by decide) m_X8_power rfl (As := [.long (Int32.toInt64 (v2 - v1)), .int v5]) (rest := []) rfl rfl (Nat.le_of_ble_eq_true rfl) u2 (st' := [.long o2.1]) rfl) ?_
      clear SH; have SH := SH2; clear SH2
      refine And.imp_left (rs_ldc2 i_X8_record_43 (v := 100) (by decide)) ?_
      refine And.imp_left (rs_lmul i_X8_record_46) ?_
      refine And.imp_left (rs_iload_n i_X8_record_47 rfl) ?_
      refine And.imp_left (rs_i2l i_X8_record_48) ?_
      refine And.imp_left (rs_iload_n i_X8_record_49 rfl) ?_
      refine And.imp_left (rs_i2l i_X8_record_50) ?_
      refine And.imp_left (rs_iload i_X8_record_51 rfl) ?_
      obtain ⟨o3, e3, hf⟩ := bind_some hf
      obtain ⟨u3, SH2⟩ := k_X8_power (X := X) (d := d) (by omega) (by omega) SH e3
      refine And.imp_left (rs_inS i_X8_record_53 (by decide) m_X8_power rfl (As := [.long (Int32.toInt64 v2), .int v5]) (rest := [.long (Int32.toInt64 v3), .long (o2.1 * 100)]) rfl rfl (Nat.le_of_ble_eq_true rfl) u3 (st' := [.long o3.1, .long (Int32.toInt64 v3), .long (o2.1 * 100)]) rfl) ?_
      clear SH; have SH := SH2; clear SH2
      refine And.imp_left (rs_lmul i_X8_record_56) ?_
      refine And.imp_left (rs_lcmp i_X8_record_57) ?_
      by_cases c4 : (o2.1 * 100) < ((Int32.toInt64 v3) * o3.1)
      · replace hf := (if_pos c4).symm.trans hf
        refine And.imp_left (rs_ifT i_X8_record_58 (by rw [lc_lt]; exact decide_eq_true c4) (tg := 66) (by decide)) ?_
        refine And.imp_left (rs_iload i_X8_record_66 rfl) ?_
        exact q_X8_record_68 hd hh ih SH hf
      · replace hf := (if_neg c4).symm.trans hf
        refine And.imp_left (rs_ifF i_X8_record_58 (by rw [lc_lt]; exact decide_eq_false c4)) ?_
        refine And.imp_left (rs_iload i_X8_record_61 rfl) ?_
        refine And.imp_left (rs_goto i_X8_record_63 (tg := 68) (by decide)) ?_
        exact q_X8_record_68 hd hh ih SH hf
noncomputable def g_X8_record_0 (n : Nat) (v1 : Int32) (v2 : Int32) (v3 : Int32) (h : Hp) : Option (Int32 × Hp) :=
  (g_X8_areOdds v1 v2 h).bind fun o1 =>
  if o1.1 = 0 then
    some ((-2), o1.2)
  else
    (g_X8_in v3 0 100 o1.2).bind fun o3 =>
    if o3.1 ≠ 0 then
      g_X8_record_27 n n v1 v2 v3 0 1 o3.2
    else
      some ((-2), o3.2)
set_option maxRecDepth 100000 in
set_option maxHeartbeats 4000000 in
theorem q_X8_record_0 {X : Nat → Int32} {d : Nat} (hd : 2 ≤ (d + 1)) {L hi : Nat} (hh : 125 ≤ hi) {n : Nat} {v1 : Int32} {v2 : Int32} {v3 : Int32} {h : Hp} {o : (Int32 × Hp)}  (SH : SHP L hi h) (hf : g_X8_record_0 n v1 v2 v3 h = some o) : Run X (d + 1) 209 0 [some (.ref 96), some (.int v1), some (.int v2), some (.int v3), none, none] [] h (some (.int o.1), o.2) ∧ SHP L hi o.2 := by
  unfold g_X8_record_0 at hf
  refine And.imp_left (rs_iload_n i_X8_record_0 rfl) ?_
  refine And.imp_left (rs_iload_n i_X8_record_1 rfl) ?_
  obtain ⟨o1, e1, hf⟩ := bind_some hf
  obtain ⟨u1, SH2⟩ := k_X8_areOdds (X := X) (d := d) (by omega) (by omega) SH e1
  refine And.imp_left (rs_inS i_X8_record_2 (by decide) m_X8_areOdds rfl (As := [.int v1, .int v2]) (rest := []) rfl rfl (Nat.le_of_ble_eq_true rfl) u1 (st' := [.int o1.1]) rfl) ?_
  clear SH; have SH := SH2; clear SH2
  by_cases c2 : o1.1 = 0
  · replace hf := (if_pos c2).symm.trans hf
    refine And.imp_left (rs_ifT i_X8_record_5 (ct_eq c2) (tg := 18) (by decide)) ?_
    refine And.imp_left (rs_bipush i_X8_record_18 (v := (-2)) (by decide)) ?_
    have hf := Option.some.inj hf
    subst hf
    exact ⟨rs_iret i_X8_record_20 m_X8_record rfl, SH⟩
  · replace hf := (if_neg c2).symm.trans hf
    refine And.imp_left (rs_ifF i_X8_record_5 (cf_eq c2)) ?_
    refine And.imp_left (rs_iload_n i_X8_record_8 rfl) ?_
    refine And.imp_left (rs_iconst i_X8_record_9 (v := 0) (by decide)) ?_
    refine And.imp_left (rs_bipush i_X8_record_10 (v := 100) (by decide)) ?_
    obtain ⟨o3, e3, hf⟩ := bind_some hf
    obtain ⟨u3, SH2⟩ := k_X8_in (X := X) (d := d) (by omega) (by omega) SH e3
    refine And.imp_left (rs_inS i_X8_record_12 (by decide) m_X8_in rfl (As := [.int v3, .int 0, .int 100]) (rest := []) rfl rfl (Nat.le_of_ble_eq_true rfl) u3 (st' := [.int o3.1]) rfl) ?_
    clear SH; have SH := SH2; clear SH2
    by_cases c4 : o3.1 ≠ 0
    · replace hf := (if_pos c4).symm.trans hf
      refine And.imp_left (rs_ifT i_X8_record_15 (ct_ne c4) (tg := 21) (by decide)) ?_
      refine And.imp_left (rs_iconst i_X8_record_21 (v := 0) (by decide)) ?_
      refine And.imp_left (rs_istore i_X8_record_22 (Nat.le_of_ble_eq_true rfl) (lv' := [some (.ref 96), some (.int v1), some (.int v2), some (.int v3), some (.int 0), none]) rfl) ?_
      refine And.imp_left (rs_iconst i_X8_record_24 (v := 1) (by decide)) ?_
      refine And.imp_left (rs_istore i_X8_record_25 (Nat.le_of_ble_eq_true rfl) (lv' := [some (.ref 96), some (.int v1), some (.int v2), some (.int v3), some (.int 0), some (.int 1)]) rfl) ?_
      exact q_X8_record_27 hd hh _ _ _ _ _ _ _ _ SH hf
    · replace hf := (if_neg c4).symm.trans hf
      refine And.imp_left (rs_ifF i_X8_record_15 (cf_ne c4)) ?_
      refine And.imp_left (rs_bipush i_X8_record_18 (v := (-2)) (by decide)) ?_
      have hf := Option.some.inj hf
      subst hf
      exact ⟨rs_iret i_X8_record_20 m_X8_record rfl, SH⟩
noncomputable def g_X8_record (n : Nat) (v1 : Int32) (v2 : Int32) (v3 : Int32) (h : Hp) : Option (Int32 × Hp) := g_X8_record_0 n v1 v2 v3 h
theorem k_X8_record {X : Nat → Int32} {d : Nat} (hd : 2 ≤ d) {L hi : Nat} (hh : 125 ≤ hi) {n : Nat} {v1 : Int32} {v2 : Int32} {v3 : Int32} {h : Hp} {o : (Int32 × Hp)}  (SH : SHP L hi h) (hf : g_X8_record n v1 v2 v3 h = some o) : Calls X d 209 [.ref 96, .int v1, .int v2, .int v3] h (some (.int o.1), o.2) ∧ SHP L hi o.2 := by
  obtain ⟨d, rfl⟩ : ∃ z, d = z + 1 := ⟨d - 1, by omega⟩
  obtain ⟨r, S2⟩ := q_X8_record_0 hd hh SH hf
  exact ⟨⟨_, rfl, r⟩, S2⟩
noncomputable def g_X8_drawn_64 (n : Nat) (v2 : Int32) (v4 : Int32) (h : Hp) : Option (Int32 × Hp) :=
  if v4 ≠ 0 then
    (g_X8_spread n h).bind fun o2 =>
    some (o2.1, o2.2)
  else
    (g_X8_thickOf v2 h).bind fun o3 =>
    some (o3.1, o3.2)
set_option maxRecDepth 100000 in
set_option maxHeartbeats 4000000 in
theorem q_X8_drawn_64 {X : Nat → Int32} {d : Nat} (hd : 7 ≤ (d + 1)) {L hi : Nat} (hh : 125 ≤ hi) {n : Nat} {v2 : Int32} {v4 : Int32} {d1 : Int32} {d3 : Int32} {h : Hp} {o : (Int32 × Hp)}  (SH : SHP L hi h) (hf : g_X8_drawn_64 n v2 v4 h = some o) : Run X (d + 1) 210 64 [some (.ref 96), some (.int d1), some (.int v2), some (.int d3), some (.int v4)] [] h (some (.int o.1), o.2) ∧ SHP L hi o.2 := by
  unfold g_X8_drawn_64 at hf
  refine And.imp_left (rs_iload i_X8_drawn_64 rfl) ?_
  by_cases c1 : v4 ≠ 0
  · replace hf := (if_pos c1).symm.trans hf
    refine And.imp_left (rs_ifT i_X8_drawn_66 (ct_ne c1) (tg := 77) (by decide)) ?_
    refine And.imp_left (rs_aload_n i_X8_drawn_77 rfl) ?_
    obtain ⟨o2, e2, hf⟩ := bind_some hf
    obtain ⟨u2, SH2⟩ := k_X8_spread (X := X) (d := d) (by omega) (by omega) SH e2
    refine And.imp_left (rs_inV i_X8_drawn_78 m_X8_spread rfl (As := []) (rest := []) rfl rfl (Nat.le_of_ble_eq_true rfl) (sO8 SH hh) u2 (st' := [.int o2.1]) rfl) ?_
    clear SH; have SH := SH2; clear SH2
    have hf := Option.some.inj hf
    subst hf
    exact ⟨rs_iret i_X8_drawn_81 m_X8_drawn rfl, SH⟩
  · replace hf := (if_neg c1).symm.trans hf
    refine And.imp_left (rs_ifF i_X8_drawn_66 (cf_ne c1)) ?_
    refine And.imp_left (rs_aload_n i_X8_drawn_69 rfl) ?_
    refine And.imp_left (rs_iload_n i_X8_drawn_70 rfl) ?_
    obtain ⟨o3, e3, hf⟩ := bind_some hf
    obtain ⟨u3, SH2⟩ := k_X8_thickOf (X := X) (d := d) (by omega) (by omega) SH e3
    refine And.imp_left (rs_inV i_X8_drawn_71 m_X8_thickOf rfl (As := [.int v2]) (rest := []) rfl rfl (Nat.le_of_ble_eq_true rfl) (sO8 SH hh) u3 (st' := [.int o3.1]) rfl) ?_
    clear SH; have SH := SH2; clear SH2
    refine And.imp_left (rs_goto i_X8_drawn_74 (tg := 81) (by decide)) ?_
    have hf := Option.some.inj hf
    subst hf
    exact ⟨rs_iret i_X8_drawn_81 m_X8_drawn rfl, SH⟩
noncomputable def g_X8_drawn_54 (n : Nat) (v1 : Int32) (v2 : Int32) (v4 : Int32) (h : Hp) : Option (Int32 × Hp) :=
  (g_X8_goes n v1 h).bind fun o1 =>
  g_X8_drawn_64 n v2 v4 (hsi o1 96 45 0)
set_option maxRecDepth 100000 in
set_option maxHeartbeats 4000000 in
theorem q_X8_drawn_54 {X : Nat → Int32} {d : Nat} (hd : 7 ≤ (d + 1)) {L hi : Nat} (hh : 125 ≤ hi) {n : Nat} {v1 : Int32} {v2 : Int32} {v4 : Int32} {d3 : Int32} {h : Hp} {o : (Int32 × Hp)}  (SH : SHP L hi h) (hf : g_X8_drawn_54 n v1 v2 v4 h = some o) : Run X (d + 1) 210 54 [some (.ref 96), some (.int v1), some (.int v2), some (.int d3), some (.int v4)] [] h (some (.int o.1), o.2) ∧ SHP L hi o.2 := by
  unfold g_X8_drawn_54 at hf
  refine And.imp_left (rs_aload_n i_X8_drawn_54 rfl) ?_
  refine And.imp_left (rs_iload_n i_X8_drawn_55 rfl) ?_
  obtain ⟨o1, e1, hf⟩ := bind_some hf
  obtain ⟨u1, SH2⟩ := k_X8_goes (X := X) (d := d) (by omega) (by omega) SH e1
  refine And.imp_left (rs_inV i_X8_drawn_56 m_X8_goes rfl (As := [.int v1]) (rest := []) rfl rfl (Nat.le_of_ble_eq_true rfl) (sO8 SH hh) u1 (st' := []) rfl) ?_
  clear SH; have SH := SH2; clear SH2
  refine And.imp_left (rs_aload_n i_X8_drawn_59 rfl) ?_
  refine And.imp_left (rs_iconst i_X8_drawn_60 (v := 0) (by decide)) ?_
  refine And.imp_left (rs_putZ i_X8_drawn_61 (by decide) (by decide) (sO8 SH hh)) ?_
  have SH := shi SH 96 45 0
  exact q_X8_drawn_64 hd hh SH hf
noncomputable def g_X8_drawn_49 (n : Nat) (v1 : Int32) (v2 : Int32) (v4 : Int32) (h : Hp) : Option (Int32 × Hp) :=
  g_X8_drawn_54 n v1 v2 v4 (hsi h 96 45 1)
set_option maxRecDepth 100000 in
set_option maxHeartbeats 4000000 in
theorem q_X8_drawn_49 {X : Nat → Int32} {d : Nat} (hd : 7 ≤ (d + 1)) {L hi : Nat} (hh : 125 ≤ hi) {n : Nat} {v1 : Int32} {v2 : Int32} {v4 : Int32} {d3 : Int32} {h : Hp} {o : (Int32 × Hp)}  (SH : SHP L hi h) (hf : g_X8_drawn_49 n v1 v2 v4 h = some o) : Run X (d + 1) 210 49 [some (.ref 96), some (.int v1), some (.int v2), some (.int d3), some (.int v4)] [] h (some (.int o.1), o.2) ∧ SHP L hi o.2 := by
  unfold g_X8_drawn_49 at hf
  refine And.imp_left (rs_aload_n i_X8_drawn_49 rfl) ?_
  refine And.imp_left (rs_iconst i_X8_drawn_50 (v := 1) (by decide)) ?_
  refine And.imp_left (rs_putZ i_X8_drawn_51 (by decide) (by decide) (sO8 SH hh)) ?_
  have SH := shi SH 96 45 1
  exact q_X8_drawn_54 hd hh SH hf
noncomputable def g_X8_drawn_0 (n : Nat) (v1 : Int32) (v2 : Int32) (v3 : Int32) (v4 : Int32) (h : Hp) : Option (Int32 × Hp) :=
  (g_X8_areSteps v1 h).bind fun o1 =>
  if o1.1 ≠ 0 then
    (g_X8_isCell v2 o1.2).bind fun o3 =>
    if o3.1 = 0 then
      some ((-7), o3.2)
    else
      (g_X8_in v3 0 99999 o3.2).bind fun o5 =>
      if o5.1 = 0 then
        some ((-7), o5.2)
      else
        (g_X8_in v4 0 1 o5.2).bind fun o7 =>
        if o7.1 ≠ 0 then
          g_X8_drawn_49 n v1 v2 v4 (hsl o7.2 96 46 ((Int32.toInt64 v3) + 1))
        else
          some ((-7), o7.2)
  else
    some ((-5), o1.2)
set_option maxRecDepth 100000 in
set_option maxHeartbeats 4000000 in
theorem q_X8_drawn_0 {X : Nat → Int32} {d : Nat} (hd : 7 ≤ (d + 1)) {L hi : Nat} (hh : 125 ≤ hi) {n : Nat} {v1 : Int32} {v2 : Int32} {v3 : Int32} {v4 : Int32} {h : Hp} {o : (Int32 × Hp)}  (SH : SHP L hi h) (hf : g_X8_drawn_0 n v1 v2 v3 v4 h = some o) : Run X (d + 1) 210 0 [some (.ref 96), some (.int v1), some (.int v2), some (.int v3), some (.int v4)] [] h (some (.int o.1), o.2) ∧ SHP L hi o.2 := by
  unfold g_X8_drawn_0 at hf
  refine And.imp_left (rs_aload_n i_X8_drawn_0 rfl) ?_
  refine And.imp_left (rs_iload_n i_X8_drawn_1 rfl) ?_
  obtain ⟨o1, e1, hf⟩ := bind_some hf
  obtain ⟨u1, SH2⟩ := k_X8_areSteps (X := X) (d := d) (by omega) (by omega) SH e1
  refine And.imp_left (rs_inV i_X8_drawn_2 m_X8_areSteps rfl (As := [.int v1]) (rest := []) rfl rfl (Nat.le_of_ble_eq_true rfl) (sO8 SH hh) u1 (st' := [.int o1.1]) rfl) ?_
  clear SH; have SH := SH2; clear SH2
  by_cases c2 : o1.1 ≠ 0
  · replace hf := (if_pos c2).symm.trans hf
    refine And.imp_left (rs_ifT i_X8_drawn_5 (ct_ne c2) (tg := 11) (by decide)) ?_
    refine And.imp_left (rs_iload_n i_X8_drawn_11 rfl) ?_
    obtain ⟨o3, e3, hf⟩ := bind_some hf
    obtain ⟨u3, SH2⟩ := k_X8_isCell (X := X) (d := d) (by omega) (by omega) SH e3
    refine And.imp_left (rs_inS i_X8_drawn_12 (by decide) m_X8_isCell rfl (As := [.int v2]) (rest := []) rfl rfl (Nat.le_of_ble_eq_true rfl) u3 (st' := [.int o3.1]) rfl) ?_
    clear SH; have SH := SH2; clear SH2
    by_cases c4 : o3.1 = 0
    · replace hf := (if_pos c4).symm.trans hf
      refine And.imp_left (rs_ifT i_X8_drawn_15 (ct_eq c4) (tg := 38) (by decide)) ?_
      refine And.imp_left (rs_bipush i_X8_drawn_38 (v := (-7)) (by decide)) ?_
      have hf := Option.some.inj hf
      subst hf
      exact ⟨rs_iret i_X8_drawn_40 m_X8_drawn rfl, SH⟩
    · replace hf := (if_neg c4).symm.trans hf
      refine And.imp_left (rs_ifF i_X8_drawn_15 (cf_eq c4)) ?_
      refine And.imp_left (rs_iload_n i_X8_drawn_18 rfl) ?_
      refine And.imp_left (rs_iconst i_X8_drawn_19 (v := 0) (by decide)) ?_
      refine And.imp_left (rs_ldc i_X8_drawn_20 (v := 99999) (by decide)) ?_
      obtain ⟨o5, e5, hf⟩ := bind_some hf
      obtain ⟨u5, SH2⟩ := k_X8_in (X := X) (d := d) (by omega) (by omega) SH e5
      refine And.imp_left (rs_inS i_X8_drawn_22 (by decide) m_X8_in rfl (As := [.int v3, .int 0, .int 99999]) (rest := []) rfl rfl (Nat.le_of_ble_eq_true rfl) u5 (st' := [.int o5.1]) rfl) ?_
      clear SH; have SH := SH2; clear SH2
      by_cases c6 : o5.1 = 0
      · replace hf := (if_pos c6).symm.trans hf
        refine And.imp_left (rs_ifT i_X8_drawn_25 (ct_eq c6) (tg := 38) (by decide)) ?_
        refine And.imp_left (rs_bipush i_X8_drawn_38 (v := (-7)) (by decide)) ?_
        have hf := Option.some.inj hf
        subst hf
        exact ⟨rs_iret i_X8_drawn_40 m_X8_drawn rfl, SH⟩
      · replace hf := (if_neg c6).symm.trans hf
        refine And.imp_left (rs_ifF i_X8_drawn_25 (cf_eq c6)) ?_
        refine And.imp_left (rs_iload i_X8_drawn_28 rfl) ?_
        refine And.imp_left (rs_iconst i_X8_drawn_30 (v := 0) (by decide)) ?_
        refine And.imp_left (rs_iconst i_X8_drawn_31 (v := 1) (by decide)) ?_
        obtain ⟨o7, e7, hf⟩ := bind_some hf
        obtain ⟨u7, SH2⟩ := k_X8_in (X := X) (d := d) (by omega) (by omega) SH e7
        refine And.imp_left (rs_inS i_X8_drawn_32 (by decide) m_X8_in rfl (As := [.int v4, .int 0, .int 1]) (rest := []) rfl rfl (Nat.le_of_ble_eq_true rfl) u7 (st' := [.int o7.1]) rfl) ?_
        clear SH; have SH := SH2; clear SH2
        by_cases c8 : o7.1 ≠ 0
        · replace hf := (if_pos c8).symm.trans hf
          refine And.imp_left (rs_ifT i_X8_drawn_35 (ct_ne c8) (tg := 41) (by decide)) ?_
          refine And.imp_left (rs_aload_n i_X8_drawn_41 rfl) ?_
          refine And.imp_left (rs_iload_n i_X8_drawn_42 rfl) ?_
          refine And.imp_left (rs_i2l i_X8_drawn_43) ?_
          refine And.imp_left (rs_lconst i_X8_drawn_44 (v := 1) (by decide)) ?_
          refine And.imp_left (rs_ladd i_X8_drawn_45) ?_
          refine And.imp_left (rs_putL i_X8_drawn_46 (by decide) (sO8 SH hh)) ?_
          have SH := shl SH 96 46 ((Int32.toInt64 v3) + 1)
          exact q_X8_drawn_49 hd hh SH hf
        · replace hf := (if_neg c8).symm.trans hf
          refine And.imp_left (rs_ifF i_X8_drawn_35 (cf_ne c8)) ?_
          refine And.imp_left (rs_bipush i_X8_drawn_38 (v := (-7)) (by decide)) ?_
          have hf := Option.some.inj hf
          subst hf
          exact ⟨rs_iret i_X8_drawn_40 m_X8_drawn rfl, SH⟩
  · replace hf := (if_neg c2).symm.trans hf
    refine And.imp_left (rs_ifF i_X8_drawn_5 (cf_ne c2)) ?_
    refine And.imp_left (rs_bipush i_X8_drawn_8 (v := (-5)) (by decide)) ?_
    have hf := Option.some.inj hf
    subst hf
    exact ⟨rs_iret i_X8_drawn_10 m_X8_drawn rfl, SH⟩
noncomputable def g_X8_drawn (n : Nat) (v1 : Int32) (v2 : Int32) (v3 : Int32) (v4 : Int32) (h : Hp) : Option (Int32 × Hp) := g_X8_drawn_0 n v1 v2 v3 v4 h
theorem k_X8_drawn {X : Nat → Int32} {d : Nat} (hd : 7 ≤ d) {L hi : Nat} (hh : 125 ≤ hi) {n : Nat} {v1 : Int32} {v2 : Int32} {v3 : Int32} {v4 : Int32} {h : Hp} {o : (Int32 × Hp)}  (SH : SHP L hi h) (hf : g_X8_drawn n v1 v2 v3 v4 h = some o) : Calls X d 210 [.ref 96, .int v1, .int v2, .int v3, .int v4] h (some (.int o.1), o.2) ∧ SHP L hi o.2 := by
  obtain ⟨d, rfl⟩ : ∃ z, d = z + 1 := ⟨d - 1, by omega⟩
  obtain ⟨r, S2⟩ := q_X8_drawn_0 hd hh SH hf
  exact ⟨⟨_, rfl, r⟩, S2⟩
noncomputable def g_X8_image_57 (n : Nat) (K39 : Int32 → Hp → Option (Int32 × Hp)) (v1 : Int32) (h : Hp) : Option (Int32 × Hp) :=
  if inb v1 12 = true then
  K39 (v1 + 1) (hsi h 106 (ix v1) (gI h 98 (ix v1)))
  else none
set_option maxRecDepth 100000 in
set_option maxHeartbeats 4000000 in
theorem q_X8_image_57 {X : Nat → Int32} {d : Nat} (hd : 0 ≤ d) {L hi : Nat} (hh : 125 ≤ hi) {n : Nat} {K39 : Int32 → Hp → Option (Int32 × Hp)} (HK39 : ∀ (v1 : Int32) (h : Hp) (o : (Int32 × Hp)), SHP L hi h → K39 v1 h = some o → Run X d 211 39 [some (.ref 96), some (.int v1)] [] h (some (.int o.1), o.2) ∧ SHP L hi o.2) {v1 : Int32} {h : Hp} {o : (Int32 × Hp)}  (SH : SHP L hi h) (hf : g_X8_image_57 n K39 v1 h = some o) : Run X d 211 57 [some (.ref 96), some (.int v1)] [] h (some (.int o.1), o.2) ∧ SHP L hi o.2 := by
  unfold g_X8_image_57 at hf
  refine And.imp_left (rs_aload_n i_X8_image_57 rfl) ?_
  refine And.imp_left (rs_getR i_X8_image_58 (by decide) (by decide) (sO8 SH hh) (sR8_21 SH hh)) ?_
  refine And.imp_left (rs_iload_n i_X8_image_61 rfl) ?_
  refine And.imp_left (rs_aload_n i_X8_image_62 rfl) ?_
  refine And.imp_left (rs_getR i_X8_image_63 (by decide) (by decide) (sO8 SH hh) (sR8_1 SH hh)) ?_
  refine And.imp_left (rs_iload_n i_X8_image_66 rfl) ?_
  obtain ⟨c1, hf⟩ := ite_some hf
  refine And.imp_left (rs_iald i_X8_image_67 (mkI (sA SH hh (k := 9) (n := 12) (by decide)) c1)) ?_
  refine And.imp_left (rs_iast i_X8_image_68 (mkI (sA SH hh (k := 9) (n := 12) (by decide)) c1)) ?_
  have SH := shi SH 106 (ix v1) (gI h 98 (ix v1))
  refine And.imp_left (rs_iinc i_X8_image_69 rfl (v := v1 + 1) rfl (Nat.le_of_ble_eq_true rfl) (lv' := [some (.ref 96), some (.int (v1 + 1))]) rfl) ?_
  refine And.imp_left (rs_goto i_X8_image_72 (tg := 39) (by decide)) ?_
  exact HK39 _ _ _ SH hf
noncomputable def g_X8_image_39 (n : Nat) : Nat → Int32 → Hp → Option (Int32 × Hp)
  | 0, _, _ => none
  | m + 1, v1, h =>
    if 12 ≤ v1 then
      some ((gI h 96 5), h)
    else
      if inb v1 12 = true then
      g_X8_image_57 n (g_X8_image_39 n m) v1 (hsi h 105 (ix v1) (gI h 97 (ix v1)))
      else none
set_option maxRecDepth 100000 in
set_option maxHeartbeats 4000000 in
theorem q_X8_image_39 {X : Nat → Int32} {d : Nat} (hd : 0 ≤ d) {L hi : Nat} (hh : 125 ≤ hi) {n : Nat} : ∀ (m : Nat) (v1 : Int32) (h : Hp) (o : (Int32 × Hp)), SHP L hi h → g_X8_image_39 n m v1 h = some o → Run X d 211 39 [some (.ref 96), some (.int v1)] [] h (some (.int o.1), o.2) ∧ SHP L hi o.2 := by
  intro m
  induction m with
  | zero => intro v1 h o SH hf; cases hf
  | succ m ih =>
    intro v1 h o SH hf
    rw [g_X8_image_39] at hf
    refine And.imp_left (rs_iload_n i_X8_image_39 rfl) ?_
    refine And.imp_left (rs_bipush i_X8_image_40 (v := 12) (by decide)) ?_
    by_cases c1 : 12 ≤ v1
    · replace hf := (if_pos c1).symm.trans hf
      refine And.imp_left (rs_icT i_X8_image_42 (ct_ge c1) (tg := 75) (by decide)) ?_
      refine And.imp_left (rs_aload_n i_X8_image_75 rfl) ?_
      refine And.imp_left (rs_getI i_X8_image_76 (by decide) (by decide) (sO8 SH hh)) ?_
      have hf := Option.some.inj hf
      subst hf
      exact ⟨rs_iret i_X8_image_79 m_X8_image rfl, SH⟩
    · replace hf := (if_neg c1).symm.trans hf
      refine And.imp_left (rs_icF i_X8_image_42 (cf_ge c1)) ?_
      refine And.imp_left (rs_aload_n i_X8_image_45 rfl) ?_
      refine And.imp_left (rs_getR i_X8_image_46 (by decide) (by decide) (sO8 SH hh) (sR8_20 SH hh)) ?_
      refine And.imp_left (rs_iload_n i_X8_image_49 rfl) ?_
      refine And.imp_left (rs_aload_n i_X8_image_50 rfl) ?_
      refine And.imp_left (rs_getR i_X8_image_51 (by decide) (by decide) (sO8 SH hh) (sR8_0 SH hh)) ?_
      refine And.imp_left (rs_iload_n i_X8_image_54 rfl) ?_
      obtain ⟨c2, hf⟩ := ite_some hf
      refine And.imp_left (rs_iald i_X8_image_55 (mkI (sA SH hh (k := 9) (n := 12) (by decide)) c2)) ?_
      refine And.imp_left (rs_iast i_X8_image_56 (mkI (sA SH hh (k := 9) (n := 12) (by decide)) c2)) ?_
      have SH := shi SH 105 (ix v1) (gI h 97 (ix v1))
      exact q_X8_image_57 hd hh ih SH hf
noncomputable def g_X8_image_29 (n : Nat)  (h : Hp) : Option (Int32 × Hp) :=
  g_X8_image_39 n n 0 (hsi h 96 19 (gI h 96 14))
set_option maxRecDepth 100000 in
set_option maxHeartbeats 4000000 in
theorem q_X8_image_29 {X : Nat → Int32} {d : Nat} (hd : 0 ≤ d) {L hi : Nat} (hh : 125 ≤ hi) {n : Nat}  {h : Hp} {o : (Int32 × Hp)}  (SH : SHP L hi h) (hf : g_X8_image_29 n h = some o) : Run X d 211 29 [some (.ref 96), none] [] h (some (.int o.1), o.2) ∧ SHP L hi o.2 := by
  unfold g_X8_image_29 at hf
  refine And.imp_left (rs_aload_n i_X8_image_29 rfl) ?_
  refine And.imp_left (rs_aload_n i_X8_image_30 rfl) ?_
  refine And.imp_left (rs_getI i_X8_image_31 (by decide) (by decide) (sO8 SH hh)) ?_
  refine And.imp_left (rs_putI i_X8_image_34 (by decide) (sO8 SH hh)) ?_
  have SH := shi SH 96 19 (gI h 96 14)
  refine And.imp_left (rs_iconst i_X8_image_37 (v := 0) (by decide)) ?_
  refine And.imp_left (rs_istore_n i_X8_image_38 (Nat.le_of_ble_eq_true rfl) (lv' := [some (.ref 96), some (.int 0)]) rfl) ?_
  exact q_X8_image_39 hd hh _ _ _ _ SH hf
noncomputable def g_X8_image_21 (n : Nat)  (h : Hp) : Option (Int32 × Hp) :=
  g_X8_image_29 n (hsi h 96 18 (gI h 96 4))
set_option maxRecDepth 100000 in
set_option maxHeartbeats 4000000 in
theorem q_X8_image_21 {X : Nat → Int32} {d : Nat} (hd : 0 ≤ d) {L hi : Nat} (hh : 125 ≤ hi) {n : Nat}  {h : Hp} {o : (Int32 × Hp)}  (SH : SHP L hi h) (hf : g_X8_image_21 n h = some o) : Run X d 211 21 [some (.ref 96), none] [] h (some (.int o.1), o.2) ∧ SHP L hi o.2 := by
  unfold g_X8_image_21 at hf
  refine And.imp_left (rs_aload_n i_X8_image_21 rfl) ?_
  refine And.imp_left (rs_aload_n i_X8_image_22 rfl) ?_
  refine And.imp_left (rs_getI i_X8_image_23 (by decide) (by decide) (sO8 SH hh)) ?_
  refine And.imp_left (rs_putI i_X8_image_26 (by decide) (sO8 SH hh)) ?_
  have SH := shi SH 96 18 (gI h 96 4)
  exact q_X8_image_29 hd hh SH hf
noncomputable def g_X8_image_13 (n : Nat)  (h : Hp) : Option (Int32 × Hp) :=
  g_X8_image_21 n (hsi h 96 17 (gI h 96 3))
set_option maxRecDepth 100000 in
set_option maxHeartbeats 4000000 in
theorem q_X8_image_13 {X : Nat → Int32} {d : Nat} (hd : 0 ≤ d) {L hi : Nat} (hh : 125 ≤ hi) {n : Nat}  {h : Hp} {o : (Int32 × Hp)}  (SH : SHP L hi h) (hf : g_X8_image_13 n h = some o) : Run X d 211 13 [some (.ref 96), none] [] h (some (.int o.1), o.2) ∧ SHP L hi o.2 := by
  unfold g_X8_image_13 at hf
  refine And.imp_left (rs_aload_n i_X8_image_13 rfl) ?_
  refine And.imp_left (rs_aload_n i_X8_image_14 rfl) ?_
  refine And.imp_left (rs_getI i_X8_image_15 (by decide) (by decide) (sO8 SH hh)) ?_
  refine And.imp_left (rs_putI i_X8_image_18 (by decide) (sO8 SH hh)) ?_
  have SH := shi SH 96 17 (gI h 96 3)
  exact q_X8_image_21 hd hh SH hf
noncomputable def g_X8_image_5 (n : Nat)  (h : Hp) : Option (Int32 × Hp) :=
  g_X8_image_13 n (hsi h 96 16 (gI h 96 2))
set_option maxRecDepth 100000 in
set_option maxHeartbeats 4000000 in
theorem q_X8_image_5 {X : Nat → Int32} {d : Nat} (hd : 0 ≤ d) {L hi : Nat} (hh : 125 ≤ hi) {n : Nat}  {h : Hp} {o : (Int32 × Hp)}  (SH : SHP L hi h) (hf : g_X8_image_5 n h = some o) : Run X d 211 5 [some (.ref 96), none] [] h (some (.int o.1), o.2) ∧ SHP L hi o.2 := by
  unfold g_X8_image_5 at hf
  refine And.imp_left (rs_aload_n i_X8_image_5 rfl) ?_
  refine And.imp_left (rs_aload_n i_X8_image_6 rfl) ?_
  refine And.imp_left (rs_getI i_X8_image_7 (by decide) (by decide) (sO8 SH hh)) ?_
  refine And.imp_left (rs_putI i_X8_image_10 (by decide) (sO8 SH hh)) ?_
  have SH := shi SH 96 16 (gI h 96 2)
  exact q_X8_image_13 hd hh SH hf
noncomputable def g_X8_image_0 (n : Nat)  (h : Hp) : Option (Int32 × Hp) :=
  g_X8_image_5 n (hsi h 96 15 1)
set_option maxRecDepth 100000 in
set_option maxHeartbeats 4000000 in
theorem q_X8_image_0 {X : Nat → Int32} {d : Nat} (hd : 0 ≤ d) {L hi : Nat} (hh : 125 ≤ hi) {n : Nat}  {h : Hp} {o : (Int32 × Hp)}  (SH : SHP L hi h) (hf : g_X8_image_0 n h = some o) : Run X d 211 0 [some (.ref 96), none] [] h (some (.int o.1), o.2) ∧ SHP L hi o.2 := by
  unfold g_X8_image_0 at hf
  refine And.imp_left (rs_aload_n i_X8_image_0 rfl) ?_
  refine And.imp_left (rs_iconst i_X8_image_1 (v := 1) (by decide)) ?_
  refine And.imp_left (rs_putZ i_X8_image_2 (by decide) (by decide) (sO8 SH hh)) ?_
  have SH := shi SH 96 15 1
  exact q_X8_image_5 hd hh SH hf
noncomputable def g_X8_image (n : Nat)  (h : Hp) : Option (Int32 × Hp) := g_X8_image_0 n h
theorem k_X8_image {X : Nat → Int32} {d : Nat} (hd : 0 ≤ d) {L hi : Nat} (hh : 125 ≤ hi) {n : Nat}  {h : Hp} {o : (Int32 × Hp)}  (SH : SHP L hi h) (hf : g_X8_image n h = some o) : Calls X d 211 [.ref 96] h (some (.int o.1), o.2) ∧ SHP L hi o.2 := by
  obtain ⟨r, S2⟩ := q_X8_image_0 hd hh SH hf
  exact ⟨⟨_, rfl, r⟩, S2⟩
noncomputable def g_X8_back_62 (n : Nat) (K44 : Int32 → Hp → Option (Int32 × Hp)) (v1 : Int32) (h : Hp) : Option (Int32 × Hp) :=
  if inb v1 12 = true then
  K44 (v1 + 1) (hsi h 98 (ix v1) (gI h 106 (ix v1)))
  else none
set_option maxRecDepth 100000 in
set_option maxHeartbeats 4000000 in
theorem q_X8_back_62 {X : Nat → Int32} {d : Nat} (hd : 0 ≤ d) {L hi : Nat} (hh : 125 ≤ hi) {n : Nat} {K44 : Int32 → Hp → Option (Int32 × Hp)} (HK44 : ∀ (v1 : Int32) (h : Hp) (o : (Int32 × Hp)), SHP L hi h → K44 v1 h = some o → Run X d 212 44 [some (.ref 96), some (.int v1)] [] h (some (.int o.1), o.2) ∧ SHP L hi o.2) {v1 : Int32} {h : Hp} {o : (Int32 × Hp)}  (SH : SHP L hi h) (hf : g_X8_back_62 n K44 v1 h = some o) : Run X d 212 62 [some (.ref 96), some (.int v1)] [] h (some (.int o.1), o.2) ∧ SHP L hi o.2 := by
  unfold g_X8_back_62 at hf
  refine And.imp_left (rs_aload_n i_X8_back_62 rfl) ?_
  refine And.imp_left (rs_getR i_X8_back_63 (by decide) (by decide) (sO8 SH hh) (sR8_1 SH hh)) ?_
  refine And.imp_left (rs_iload_n i_X8_back_66 rfl) ?_
  refine And.imp_left (rs_aload_n i_X8_back_67 rfl) ?_
  refine And.imp_left (rs_getR i_X8_back_68 (by decide) (by decide) (sO8 SH hh) (sR8_21 SH hh)) ?_
  refine And.imp_left (rs_iload_n i_X8_back_71 rfl) ?_
  obtain ⟨c1, hf⟩ := ite_some hf
  refine And.imp_left (rs_iald i_X8_back_72 (mkI (sA SH hh (k := 9) (n := 12) (by decide)) c1)) ?_
  refine And.imp_left (rs_iast i_X8_back_73 (mkI (sA SH hh (k := 9) (n := 12) (by decide)) c1)) ?_
  have SH := shi SH 98 (ix v1) (gI h 106 (ix v1))
  refine And.imp_left (rs_iinc i_X8_back_74 rfl (v := v1 + 1) rfl (Nat.le_of_ble_eq_true rfl) (lv' := [some (.ref 96), some (.int (v1 + 1))]) rfl) ?_
  refine And.imp_left (rs_goto i_X8_back_77 (tg := 44) (by decide)) ?_
  exact HK44 _ _ _ SH hf
noncomputable def g_X8_back_44 (n : Nat) : Nat → Int32 → Hp → Option (Int32 × Hp)
  | 0, _, _ => none
  | m + 1, v1, h =>
    if 12 ≤ v1 then
      some ((gI h 96 5), h)
    else
      if inb v1 12 = true then
      g_X8_back_62 n (g_X8_back_44 n m) v1 (hsi h 97 (ix v1) (gI h 105 (ix v1)))
      else none
set_option maxRecDepth 100000 in
set_option maxHeartbeats 4000000 in
theorem q_X8_back_44 {X : Nat → Int32} {d : Nat} (hd : 0 ≤ d) {L hi : Nat} (hh : 125 ≤ hi) {n : Nat} : ∀ (m : Nat) (v1 : Int32) (h : Hp) (o : (Int32 × Hp)), SHP L hi h → g_X8_back_44 n m v1 h = some o → Run X d 212 44 [some (.ref 96), some (.int v1)] [] h (some (.int o.1), o.2) ∧ SHP L hi o.2 := by
  intro m
  induction m with
  | zero => intro v1 h o SH hf; cases hf
  | succ m ih =>
    intro v1 h o SH hf
    rw [g_X8_back_44] at hf
    refine And.imp_left (rs_iload_n i_X8_back_44 rfl) ?_
    refine And.imp_left (rs_bipush i_X8_back_45 (v := 12) (by decide)) ?_
    by_cases c1 : 12 ≤ v1
    · replace hf := (if_pos c1).symm.trans hf
      refine And.imp_left (rs_icT i_X8_back_47 (ct_ge c1) (tg := 80) (by decide)) ?_
      refine And.imp_left (rs_aload_n i_X8_back_80 rfl) ?_
      refine And.imp_left (rs_getI i_X8_back_81 (by decide) (by decide) (sO8 SH hh)) ?_
      have hf := Option.some.inj hf
      subst hf
      exact ⟨rs_iret i_X8_back_84 m_X8_back rfl, SH⟩
    · replace hf := (if_neg c1).symm.trans hf
      refine And.imp_left (rs_icF i_X8_back_47 (cf_ge c1)) ?_
      refine And.imp_left (rs_aload_n i_X8_back_50 rfl) ?_
      refine And.imp_left (rs_getR i_X8_back_51 (by decide) (by decide) (sO8 SH hh) (sR8_0 SH hh)) ?_
      refine And.imp_left (rs_iload_n i_X8_back_54 rfl) ?_
      refine And.imp_left (rs_aload_n i_X8_back_55 rfl) ?_
      refine And.imp_left (rs_getR i_X8_back_56 (by decide) (by decide) (sO8 SH hh) (sR8_20 SH hh)) ?_
      refine And.imp_left (rs_iload_n i_X8_back_59 rfl) ?_
      obtain ⟨c2, hf⟩ := ite_some hf
      refine And.imp_left (rs_iald i_X8_back_60 (mkI (sA SH hh (k := 9) (n := 12) (by decide)) c2)) ?_
      refine And.imp_left (rs_iast i_X8_back_61 (mkI (sA SH hh (k := 9) (n := 12) (by decide)) c2)) ?_
      have SH := shi SH 97 (ix v1) (gI h 105 (ix v1))
      exact q_X8_back_62 hd hh ih SH hf
noncomputable def g_X8_back_34 (n : Nat)  (h : Hp) : Option (Int32 × Hp) :=
  g_X8_back_44 n n 0 (hsi h 96 14 (gI h 96 19))
set_option maxRecDepth 100000 in
set_option maxHeartbeats 4000000 in
theorem q_X8_back_34 {X : Nat → Int32} {d : Nat} (hd : 0 ≤ d) {L hi : Nat} (hh : 125 ≤ hi) {n : Nat}  {h : Hp} {o : (Int32 × Hp)}  (SH : SHP L hi h) (hf : g_X8_back_34 n h = some o) : Run X d 212 34 [some (.ref 96), none] [] h (some (.int o.1), o.2) ∧ SHP L hi o.2 := by
  unfold g_X8_back_34 at hf
  refine And.imp_left (rs_aload_n i_X8_back_34 rfl) ?_
  refine And.imp_left (rs_aload_n i_X8_back_35 rfl) ?_
  refine And.imp_left (rs_getI i_X8_back_36 (by decide) (by decide) (sO8 SH hh)) ?_
  refine And.imp_left (rs_putI i_X8_back_39 (by decide) (sO8 SH hh)) ?_
  have SH := shi SH 96 14 (gI h 96 19)
  refine And.imp_left (rs_iconst i_X8_back_42 (v := 0) (by decide)) ?_
  refine And.imp_left (rs_istore_n i_X8_back_43 (Nat.le_of_ble_eq_true rfl) (lv' := [some (.ref 96), some (.int 0)]) rfl) ?_
  exact q_X8_back_44 hd hh _ _ _ _ SH hf
noncomputable def g_X8_back_26 (n : Nat)  (h : Hp) : Option (Int32 × Hp) :=
  g_X8_back_34 n (hsi h 96 4 (gI h 96 18))
set_option maxRecDepth 100000 in
set_option maxHeartbeats 4000000 in
theorem q_X8_back_26 {X : Nat → Int32} {d : Nat} (hd : 0 ≤ d) {L hi : Nat} (hh : 125 ≤ hi) {n : Nat}  {h : Hp} {o : (Int32 × Hp)}  (SH : SHP L hi h) (hf : g_X8_back_26 n h = some o) : Run X d 212 26 [some (.ref 96), none] [] h (some (.int o.1), o.2) ∧ SHP L hi o.2 := by
  unfold g_X8_back_26 at hf
  refine And.imp_left (rs_aload_n i_X8_back_26 rfl) ?_
  refine And.imp_left (rs_aload_n i_X8_back_27 rfl) ?_
  refine And.imp_left (rs_getI i_X8_back_28 (by decide) (by decide) (sO8 SH hh)) ?_
  refine And.imp_left (rs_putI i_X8_back_31 (by decide) (sO8 SH hh)) ?_
  have SH := shi SH 96 4 (gI h 96 18)
  exact q_X8_back_34 hd hh SH hf
noncomputable def g_X8_back_18 (n : Nat)  (h : Hp) : Option (Int32 × Hp) :=
  g_X8_back_26 n (hsi h 96 3 (gI h 96 17))
set_option maxRecDepth 100000 in
set_option maxHeartbeats 4000000 in
theorem q_X8_back_18 {X : Nat → Int32} {d : Nat} (hd : 0 ≤ d) {L hi : Nat} (hh : 125 ≤ hi) {n : Nat}  {h : Hp} {o : (Int32 × Hp)}  (SH : SHP L hi h) (hf : g_X8_back_18 n h = some o) : Run X d 212 18 [some (.ref 96), none] [] h (some (.int o.1), o.2) ∧ SHP L hi o.2 := by
  unfold g_X8_back_18 at hf
  refine And.imp_left (rs_aload_n i_X8_back_18 rfl) ?_
  refine And.imp_left (rs_aload_n i_X8_back_19 rfl) ?_
  refine And.imp_left (rs_getI i_X8_back_20 (by decide) (by decide) (sO8 SH hh)) ?_
  refine And.imp_left (rs_putI i_X8_back_23 (by decide) (sO8 SH hh)) ?_
  have SH := shi SH 96 3 (gI h 96 17)
  exact q_X8_back_26 hd hh SH hf
noncomputable def g_X8_back_0 (n : Nat)  (h : Hp) : Option (Int32 × Hp) :=
  if (gI h 96 15) ≠ 0 then
    g_X8_back_18 n (hsi h 96 2 (gI h 96 16))
  else
    some ((-3), h)
set_option maxRecDepth 100000 in
set_option maxHeartbeats 4000000 in
theorem q_X8_back_0 {X : Nat → Int32} {d : Nat} (hd : 0 ≤ d) {L hi : Nat} (hh : 125 ≤ hi) {n : Nat}  {h : Hp} {o : (Int32 × Hp)}  (SH : SHP L hi h) (hf : g_X8_back_0 n h = some o) : Run X d 212 0 [some (.ref 96), none] [] h (some (.int o.1), o.2) ∧ SHP L hi o.2 := by
  unfold g_X8_back_0 at hf
  refine And.imp_left (rs_aload_n i_X8_back_0 rfl) ?_
  refine And.imp_left (rs_getI i_X8_back_1 (by decide) (by decide) (sO8 SH hh)) ?_
  by_cases c1 : (gI h 96 15) ≠ 0
  · replace hf := (if_pos c1).symm.trans hf
    refine And.imp_left (rs_ifT i_X8_back_4 (ct_ne c1) (tg := 10) (by decide)) ?_
    refine And.imp_left (rs_aload_n i_X8_back_10 rfl) ?_
    refine And.imp_left (rs_aload_n i_X8_back_11 rfl) ?_
    refine And.imp_left (rs_getI i_X8_back_12 (by decide) (by decide) (sO8 SH hh)) ?_
    refine And.imp_left (rs_putI i_X8_back_15 (by decide) (sO8 SH hh)) ?_
    have SH := shi SH 96 2 (gI h 96 16)
    exact q_X8_back_18 hd hh SH hf
  · replace hf := (if_neg c1).symm.trans hf
    refine And.imp_left (rs_ifF i_X8_back_4 (cf_ne c1)) ?_
    refine And.imp_left (rs_bipush i_X8_back_7 (v := (-3)) (by decide)) ?_
    have hf := Option.some.inj hf
    subst hf
    exact ⟨rs_iret i_X8_back_9 m_X8_back rfl, SH⟩
noncomputable def g_X8_back (n : Nat)  (h : Hp) : Option (Int32 × Hp) := g_X8_back_0 n h
theorem k_X8_back {X : Nat → Int32} {d : Nat} (hd : 0 ≤ d) {L hi : Nat} (hh : 125 ≤ hi) {n : Nat}  {h : Hp} {o : (Int32 × Hp)}  (SH : SHP L hi h) (hf : g_X8_back n h = some o) : Calls X d 212 [.ref 96] h (some (.int o.1), o.2) ∧ SHP L hi o.2 := by
  obtain ⟨r, S2⟩ := q_X8_back_0 hd hh SH hf
  exact ⟨⟨_, rfl, r⟩, S2⟩
noncomputable def g_X8_sheet_70 (n : Nat) : Nat → Int32 → Int32 → Hp → Option (Int32 × Hp)
  | 0, _, _, _ => none
  | m + 1, v1, v4, h =>
    if 40 ≤ v4 then
      some (1, h)
    else
      if inb ((40 * v1) + v4) 160 = true then
      (g_X8_sheet_70 n m) v1 (v4 + 1) (hsi h 109 (ix ((40 * v1) + v4)) 0)
      else none
set_option maxRecDepth 100000 in
set_option maxHeartbeats 4000000 in
theorem q_X8_sheet_70 {X : Nat → Int32} {d : Nat} (hd : 1 ≤ (d + 1)) {L hi : Nat} (hh : 125 ≤ hi) {n : Nat} : ∀ (m : Nat) (v1 : Int32) (v4 : Int32) (d2 : Int32) (d3 : Int32) (h : Hp) (o : (Int32 × Hp)), SHP L hi h → g_X8_sheet_70 n m v1 v4 h = some o → Run X (d + 1) 213 70 [some (.ref 96), some (.int v1), some (.int d2), some (.int d3), some (.int v4)] [] h (some (.int o.1), o.2) ∧ SHP L hi o.2 := by
  intro m
  induction m with
  | zero => intro v1 v4 d2 d3 h o SH hf; cases hf
  | succ m ih =>
    intro v1 v4 d2 d3 h o SH hf
    rw [g_X8_sheet_70] at hf
    refine And.imp_left (rs_iload i_X8_sheet_70 rfl) ?_
    refine And.imp_left (rs_bipush i_X8_sheet_72 (v := 40) (by decide)) ?_
    by_cases c1 : 40 ≤ v4
    · replace hf := (if_pos c1).symm.trans hf
      refine And.imp_left (rs_icT i_X8_sheet_74 (ct_ge c1) (tg := 96) (by decide)) ?_
      refine And.imp_left (rs_iconst i_X8_sheet_96 (v := 1) (by decide)) ?_
      have hf := Option.some.inj hf
      subst hf
      exact ⟨rs_iret i_X8_sheet_97 m_X8_sheet rfl, SH⟩
    · replace hf := (if_neg c1).symm.trans hf
      refine And.imp_left (rs_icF i_X8_sheet_74 (cf_ge c1)) ?_
      refine And.imp_left (rs_aload_n i_X8_sheet_77 rfl) ?_
      refine And.imp_left (rs_getR i_X8_sheet_78 (by decide) (by decide) (sO8 SH hh) (sR8_24 SH hh)) ?_
      refine And.imp_left (rs_bipush i_X8_sheet_81 (v := 40) (by decide)) ?_
      refine And.imp_left (rs_iload_n i_X8_sheet_83 rfl) ?_
      refine And.imp_left (rs_imul i_X8_sheet_84) ?_
      refine And.imp_left (rs_iload i_X8_sheet_85 rfl) ?_
      refine And.imp_left (rs_iadd i_X8_sheet_87) ?_
      refine And.imp_left (rs_iconst i_X8_sheet_88 (v := 0) (by decide)) ?_
      obtain ⟨c2, hf⟩ := ite_some hf
      refine And.imp_left (rs_iast i_X8_sheet_89 (mkI (sA SH hh (k := 9) (n := 160) (by decide)) c2)) ?_
      have SH := shi SH 109 (ix ((40 * v1) + v4)) 0
      refine And.imp_left (rs_iinc i_X8_sheet_90 rfl (v := v4 + 1) rfl (Nat.le_of_ble_eq_true rfl) (lv' := [some (.ref 96), some (.int v1), some (.int d2), some (.int d3), some (.int (v4 + 1))]) rfl) ?_
      refine And.imp_left (rs_goto i_X8_sheet_93 (tg := 70) (by decide)) ?_
      exact ih _ _ _ _ _ _ SH hf
noncomputable def g_X8_sheet_66 (n : Nat) (v1 : Int32) (s0 : Nat) (s1 : Int32) (s2 : Int32) (h : Hp) : Option (Int32 × Hp) :=
  if inb s1 4 = true then
  g_X8_sheet_70 n n v1 0 (hsi h s0 (ix s1) s2)
  else none
set_option maxRecDepth 100000 in
set_option maxHeartbeats 4000000 in
theorem q_X8_sheet_66 {X : Nat → Int32} {d : Nat} (hd : 1 ≤ (d + 1)) {L hi : Nat} (hh : 125 ≤ hi) {n : Nat} {v1 : Int32} {s0 : Nat} {s1 : Int32} {s2 : Int32} {d2 : Int32} {d3 : Int32} {h : Hp} {o : (Int32 × Hp)} (hs0 : ARY 125 s0 9 4) (SH : SHP L hi h) (hf : g_X8_sheet_66 n v1 s0 s1 s2 h = some o) : Run X (d + 1) 213 66 [some (.ref 96), some (.int v1), some (.int d2), some (.int d3), none] [.int s2, .int s1, .ref s0] h (some (.int o.1), o.2) ∧ SHP L hi o.2 := by
  unfold g_X8_sheet_66 at hf
  obtain ⟨c1, hf⟩ := ite_some hf
  refine And.imp_left (rs_iast i_X8_sheet_66 (mkI (sA SH hh (k := 9) (n := 4) hs0) c1)) ?_
  have SH := shi SH s0 (ix s1) s2
  refine And.imp_left (rs_iconst i_X8_sheet_67 (v := 0) (by decide)) ?_
  refine And.imp_left (rs_istore i_X8_sheet_68 (Nat.le_of_ble_eq_true rfl) (lv' := [some (.ref 96), some (.int v1), some (.int d2), some (.int d3), some (.int 0)]) rfl) ?_
  exact q_X8_sheet_70 hd hh _ _ _ _ _ _ _ SH hf
noncomputable def g_X8_sheet_51 (n : Nat) (v1 : Int32) (v2 : Int32) (v3 : Int32) (h : Hp) : Option (Int32 × Hp) :=
  if v2 ≠ (-1) then
    g_X8_sheet_66 n v1 108 v1 v3 h
  else
    g_X8_sheet_66 n v1 108 v1 0 h
set_option maxRecDepth 100000 in
set_option maxHeartbeats 4000000 in
theorem q_X8_sheet_51 {X : Nat → Int32} {d : Nat} (hd : 1 ≤ (d + 1)) {L hi : Nat} (hh : 125 ≤ hi) {n : Nat} {v1 : Int32} {v2 : Int32} {v3 : Int32} {h : Hp} {o : (Int32 × Hp)}  (SH : SHP L hi h) (hf : g_X8_sheet_51 n v1 v2 v3 h = some o) : Run X (d + 1) 213 51 [some (.ref 96), some (.int v1), some (.int v2), some (.int v3), none] [] h (some (.int o.1), o.2) ∧ SHP L hi o.2 := by
  unfold g_X8_sheet_51 at hf
  refine And.imp_left (rs_aload_n i_X8_sheet_51 rfl) ?_
  refine And.imp_left (rs_getR i_X8_sheet_52 (by decide) (by decide) (sO8 SH hh) (sR8_23 SH hh)) ?_
  refine And.imp_left (rs_iload_n i_X8_sheet_55 rfl) ?_
  refine And.imp_left (rs_iload_n i_X8_sheet_56 rfl) ?_
  refine And.imp_left (rs_iconst i_X8_sheet_57 (v := (-1)) (by decide)) ?_
  by_cases c1 : v2 ≠ (-1)
  · replace hf := (if_pos c1).symm.trans hf
    refine And.imp_left (rs_icT i_X8_sheet_58 (ct_ne c1) (tg := 65) (by decide)) ?_
    refine And.imp_left (rs_iload_n i_X8_sheet_65 rfl) ?_
    exact q_X8_sheet_66 hd hh (by decide) SH hf
  · replace hf := (if_neg c1).symm.trans hf
    refine And.imp_left (rs_icF i_X8_sheet_58 (cf_ne c1)) ?_
    refine And.imp_left (rs_iconst i_X8_sheet_61 (v := 0) (by decide)) ?_
    refine And.imp_left (rs_goto i_X8_sheet_62 (tg := 66) (by decide)) ?_
    exact q_X8_sheet_66 hd hh (by decide) SH hf
noncomputable def g_X8_sheet_44 (n : Nat) (v1 : Int32) (v2 : Int32) (v3 : Int32) (h : Hp) : Option (Int32 × Hp) :=
  if inb v1 4 = true then
  g_X8_sheet_51 n v1 v2 v3 (hsi h 107 (ix v1) v2)
  else none
set_option maxRecDepth 100000 in
set_option maxHeartbeats 4000000 in
theorem q_X8_sheet_44 {X : Nat → Int32} {d : Nat} (hd : 1 ≤ (d + 1)) {L hi : Nat} (hh : 125 ≤ hi) {n : Nat} {v1 : Int32} {v2 : Int32} {v3 : Int32} {h : Hp} {o : (Int32 × Hp)}  (SH : SHP L hi h) (hf : g_X8_sheet_44 n v1 v2 v3 h = some o) : Run X (d + 1) 213 44 [some (.ref 96), some (.int v1), some (.int v2), some (.int v3), none] [] h (some (.int o.1), o.2) ∧ SHP L hi o.2 := by
  unfold g_X8_sheet_44 at hf
  refine And.imp_left (rs_aload_n i_X8_sheet_44 rfl) ?_
  refine And.imp_left (rs_getR i_X8_sheet_45 (by decide) (by decide) (sO8 SH hh) (sR8_22 SH hh)) ?_
  refine And.imp_left (rs_iload_n i_X8_sheet_48 rfl) ?_
  refine And.imp_left (rs_iload_n i_X8_sheet_49 rfl) ?_
  obtain ⟨c1, hf⟩ := ite_some hf
  refine And.imp_left (rs_iast i_X8_sheet_50 (mkI (sA SH hh (k := 9) (n := 4) (by decide)) c1)) ?_
  have SH := shi SH 107 (ix v1) v2
  exact q_X8_sheet_51 hd hh SH hf
noncomputable def g_X8_sheet_32 (n : Nat) (v1 : Int32) (v2 : Int32) (v3 : Int32) (h : Hp) : Option (Int32 × Hp) :=
  if v2 = (-1) then
    g_X8_sheet_44 n v1 v2 v3 h
  else
    if 0 ≤ v3 then
      g_X8_sheet_44 n v1 v2 v3 h
    else
      some ((-14), h)
set_option maxRecDepth 100000 in
set_option maxHeartbeats 4000000 in
theorem q_X8_sheet_32 {X : Nat → Int32} {d : Nat} (hd : 1 ≤ (d + 1)) {L hi : Nat} (hh : 125 ≤ hi) {n : Nat} {v1 : Int32} {v2 : Int32} {v3 : Int32} {h : Hp} {o : (Int32 × Hp)}  (SH : SHP L hi h) (hf : g_X8_sheet_32 n v1 v2 v3 h = some o) : Run X (d + 1) 213 32 [some (.ref 96), some (.int v1), some (.int v2), some (.int v3), none] [] h (some (.int o.1), o.2) ∧ SHP L hi o.2 := by
  unfold g_X8_sheet_32 at hf
  refine And.imp_left (rs_iload_n i_X8_sheet_32 rfl) ?_
  refine And.imp_left (rs_iconst i_X8_sheet_33 (v := (-1)) (by decide)) ?_
  by_cases c1 : v2 = (-1)
  · replace hf := (if_pos c1).symm.trans hf
    refine And.imp_left (rs_icT i_X8_sheet_34 (ct_eq c1) (tg := 44) (by decide)) ?_
    exact q_X8_sheet_44 hd hh SH hf
  · replace hf := (if_neg c1).symm.trans hf
    refine And.imp_left (rs_icF i_X8_sheet_34 (cf_eq c1)) ?_
    refine And.imp_left (rs_iload_n i_X8_sheet_37 rfl) ?_
    by_cases c2 : 0 ≤ v3
    · replace hf := (if_pos c2).symm.trans hf
      refine And.imp_left (rs_ifT i_X8_sheet_38 (ct_ge c2) (tg := 44) (by decide)) ?_
      exact q_X8_sheet_44 hd hh SH hf
    · replace hf := (if_neg c2).symm.trans hf
      refine And.imp_left (rs_ifF i_X8_sheet_38 (cf_ge c2)) ?_
      refine And.imp_left (rs_bipush i_X8_sheet_41 (v := (-14)) (by decide)) ?_
      have hf := Option.some.inj hf
      subst hf
      exact ⟨rs_iret i_X8_sheet_43 m_X8_sheet rfl, SH⟩
noncomputable def g_X8_sheet_0 (n : Nat) (v1 : Int32) (v2 : Int32) (v3 : Int32) (h : Hp) : Option (Int32 × Hp) :=
  (g_X8_in v1 0 3 h).bind fun o1 =>
  if o1.1 = 0 then
    some ((-2), o1.2)
  else
    (g_X8_in v2 (-1) 2 o1.2).bind fun o3 =>
    if o3.1 = 0 then
      some ((-2), o3.2)
    else
      if v2 = (-1) then
        g_X8_sheet_32 n v1 v2 v3 o3.2
      else
        if v3 ≤ 40 then
          g_X8_sheet_32 n v1 v2 v3 o3.2
        else
          some ((-2), o3.2)
set_option maxRecDepth 100000 in
set_option maxHeartbeats 4000000 in
theorem q_X8_sheet_0 {X : Nat → Int32} {d : Nat} (hd : 1 ≤ (d + 1)) {L hi : Nat} (hh : 125 ≤ hi) {n : Nat} {v1 : Int32} {v2 : Int32} {v3 : Int32} {h : Hp} {o : (Int32 × Hp)}  (SH : SHP L hi h) (hf : g_X8_sheet_0 n v1 v2 v3 h = some o) : Run X (d + 1) 213 0 [some (.ref 96), some (.int v1), some (.int v2), some (.int v3), none] [] h (some (.int o.1), o.2) ∧ SHP L hi o.2 := by
  unfold g_X8_sheet_0 at hf
  refine And.imp_left (rs_iload_n i_X8_sheet_0 rfl) ?_
  refine And.imp_left (rs_iconst i_X8_sheet_1 (v := 0) (by decide)) ?_
  refine And.imp_left (rs_iconst i_X8_sheet_2 (v := 3) (by decide)) ?_
  obtain ⟨o1, e1, hf⟩ := bind_some hf
  obtain ⟨u1, SH2⟩ := k_X8_in (X := X) (d := d) (by omega) (by omega) SH e1
  refine And.imp_left (rs_inS i_X8_sheet_3 (by decide) m_X8_in rfl (As := [.int v1, .int 0, .int 3]) (rest := []) rfl rfl (Nat.le_of_ble_eq_true rfl) u1 (st' := [.int o1.1]) rfl) ?_
  clear SH; have SH := SH2; clear SH2
  by_cases c2 : o1.1 = 0
  · replace hf := (if_pos c2).symm.trans hf
    refine And.imp_left (rs_ifT i_X8_sheet_6 (ct_eq c2) (tg := 29) (by decide)) ?_
    refine And.imp_left (rs_bipush i_X8_sheet_29 (v := (-2)) (by decide)) ?_
    have hf := Option.some.inj hf
    subst hf
    exact ⟨rs_iret i_X8_sheet_31 m_X8_sheet rfl, SH⟩
  · replace hf := (if_neg c2).symm.trans hf
    refine And.imp_left (rs_ifF i_X8_sheet_6 (cf_eq c2)) ?_
    refine And.imp_left (rs_iload_n i_X8_sheet_9 rfl) ?_
    refine And.imp_left (rs_iconst i_X8_sheet_10 (v := (-1)) (by decide)) ?_
    refine And.imp_left (rs_iconst i_X8_sheet_11 (v := 2) (by decide)) ?_
    obtain ⟨o3, e3, hf⟩ := bind_some hf
    obtain ⟨u3, SH2⟩ := k_X8_in (X := X) (d := d) (by omega) (by omega) SH e3
    refine And.imp_left (rs_inS i_X8_sheet_12 (by decide) m_X8_in rfl (As := [.int v2, .int (-1), .int 2]) (rest := []) rfl rfl (Nat.le_of_ble_eq_true rfl) u3 (st' := [.int o3.1]) rfl) ?_
    clear SH; have SH := SH2; clear SH2
    by_cases c4 : o3.1 = 0
    · replace hf := (if_pos c4).symm.trans hf
      refine And.imp_left (rs_ifT i_X8_sheet_15 (ct_eq c4) (tg := 29) (by decide)) ?_
      refine And.imp_left (rs_bipush i_X8_sheet_29 (v := (-2)) (by decide)) ?_
      have hf := Option.some.inj hf
      subst hf
      exact ⟨rs_iret i_X8_sheet_31 m_X8_sheet rfl, SH⟩
    · replace hf := (if_neg c4).symm.trans hf
      refine And.imp_left (rs_ifF i_X8_sheet_15 (cf_eq c4)) ?_
      refine And.imp_left (rs_iload_n i_X8_sheet_18 rfl) ?_
      refine And.imp_left (rs_iconst i_X8_sheet_19 (v := (-1)) (by decide)) ?_
      by_cases c5 : v2 = (-1)
      · replace hf := (if_pos c5).symm.trans hf
        refine And.imp_left (rs_icT i_X8_sheet_20 (ct_eq c5) (tg := 32) (by decide)) ?_
        exact q_X8_sheet_32 hd hh SH hf
      · replace hf := (if_neg c5).symm.trans hf
        refine And.imp_left (rs_icF i_X8_sheet_20 (cf_eq c5)) ?_
        refine And.imp_left (rs_iload_n i_X8_sheet_23 rfl) ?_
        refine And.imp_left (rs_bipush i_X8_sheet_24 (v := 40) (by decide)) ?_
        by_cases c6 : v3 ≤ 40
        · replace hf := (if_pos c6).symm.trans hf
          refine And.imp_left (rs_icT i_X8_sheet_26 (ct_le c6) (tg := 32) (by decide)) ?_
          exact q_X8_sheet_32 hd hh SH hf
        · replace hf := (if_neg c6).symm.trans hf
          refine And.imp_left (rs_icF i_X8_sheet_26 (cf_le c6)) ?_
          refine And.imp_left (rs_bipush i_X8_sheet_29 (v := (-2)) (by decide)) ?_
          have hf := Option.some.inj hf
          subst hf
          exact ⟨rs_iret i_X8_sheet_31 m_X8_sheet rfl, SH⟩
noncomputable def g_X8_sheet (n : Nat) (v1 : Int32) (v2 : Int32) (v3 : Int32) (h : Hp) : Option (Int32 × Hp) := g_X8_sheet_0 n v1 v2 v3 h
theorem k_X8_sheet {X : Nat → Int32} {d : Nat} (hd : 1 ≤ d) {L hi : Nat} (hh : 125 ≤ hi) {n : Nat} {v1 : Int32} {v2 : Int32} {v3 : Int32} {h : Hp} {o : (Int32 × Hp)}  (SH : SHP L hi h) (hf : g_X8_sheet n v1 v2 v3 h = some o) : Calls X d 213 [.ref 96, .int v1, .int v2, .int v3] h (some (.int o.1), o.2) ∧ SHP L hi o.2 := by
  obtain ⟨d, rfl⟩ : ∃ z, d = z + 1 := ⟨d - 1, by omega⟩
  obtain ⟨r, S2⟩ := q_X8_sheet_0 hd hh SH hf
  exact ⟨⟨_, rfl, r⟩, S2⟩
noncomputable def g_X8_cell_84 (s0 : Nat) (s1 : Int32) (s2 : Int32) (h : Hp) : Option (Int32 × Hp) :=
  if inb s1 160 = true then
  some (1, (hsi h s0 (ix s1) s2))
  else none
set_option maxRecDepth 100000 in
set_option maxHeartbeats 4000000 in
theorem q_X8_cell_84 {X : Nat → Int32} {d : Nat} (hd : 1 ≤ (d + 1)) {L hi : Nat} (hh : 125 ≤ hi) {s0 : Nat} {s1 : Int32} {s2 : Int32} {d1 : Int32} {d2 : Int32} {d3 : Int32} {h : Hp} {o : (Int32 × Hp)} (hs0 : ARY 125 s0 9 160) (SH : SHP L hi h) (hf : g_X8_cell_84 s0 s1 s2 h = some o) : Run X (d + 1) 214 84 [some (.ref 96), some (.int d1), some (.int d2), some (.int d3)] [.int s2, .int s1, .ref s0] h (some (.int o.1), o.2) ∧ SHP L hi o.2 := by
  unfold g_X8_cell_84 at hf
  obtain ⟨c1, hf⟩ := ite_some hf
  refine And.imp_left (rs_iast i_X8_cell_84 (mkI (sA SH hh (k := 9) (n := 160) hs0) c1)) ?_
  have SH := shi SH s0 (ix s1) s2
  refine And.imp_left (rs_iconst i_X8_cell_85 (v := 1) (by decide)) ?_
  have hf := Option.some.inj hf
  subst hf
  exact ⟨rs_iret i_X8_cell_86 m_X8_cell rfl, SH⟩
noncomputable def g_X8_cell_0 (v1 : Int32) (v2 : Int32) (v3 : Int32) (h : Hp) : Option (Int32 × Hp) :=
  (g_X8_in v1 0 3 h).bind fun o1 =>
  if o1.1 ≠ 0 then
    if inb v1 4 = true then
    if (gI o1.2 107 (ix v1)) ≠ (-1) then
      (g_X8_in v2 0 ((gI o1.2 108 (ix v1)) - 1) o1.2).bind fun o5 =>
      if o5.1 ≠ 0 then
        if (gI o5.2 107 (ix v1)) ≠ 0 then
          if (gI o5.2 107 (ix v1)) ≠ 1 then
            g_X8_cell_84 109 ((40 * v1) + v2) v3 o5.2
          else
            g_X8_cell_84 109 ((40 * v1) + v2) ((Int32.toInt16 v3).toInt32) o5.2
        else
          g_X8_cell_84 109 ((40 * v1) + v2) ((Int32.toInt8 v3).toInt32) o5.2
      else
        some ((-12), o5.2)
    else
      some ((-11), o1.2)
    else none
  else
    some ((-2), o1.2)
set_option maxRecDepth 100000 in
set_option maxHeartbeats 4000000 in
theorem q_X8_cell_0 {X : Nat → Int32} {d : Nat} (hd : 1 ≤ (d + 1)) {L hi : Nat} (hh : 125 ≤ hi) {v1 : Int32} {v2 : Int32} {v3 : Int32} {h : Hp} {o : (Int32 × Hp)}  (SH : SHP L hi h) (hf : g_X8_cell_0 v1 v2 v3 h = some o) : Run X (d + 1) 214 0 [some (.ref 96), some (.int v1), some (.int v2), some (.int v3)] [] h (some (.int o.1), o.2) ∧ SHP L hi o.2 := by
  unfold g_X8_cell_0 at hf
  refine And.imp_left (rs_iload_n i_X8_cell_0 rfl) ?_
  refine And.imp_left (rs_iconst i_X8_cell_1 (v := 0) (by decide)) ?_
  refine And.imp_left (rs_iconst i_X8_cell_2 (v := 3) (by decide)) ?_
  obtain ⟨o1, e1, hf⟩ := bind_some hf
  obtain ⟨u1, SH2⟩ := k_X8_in (X := X) (d := d) (by omega) (by omega) SH e1
  refine And.imp_left (rs_inS i_X8_cell_3 (by decide) m_X8_in rfl (As := [.int v1, .int 0, .int 3]) (rest := []) rfl rfl (Nat.le_of_ble_eq_true rfl) u1 (st' := [.int o1.1]) rfl) ?_
  clear SH; have SH := SH2; clear SH2
  by_cases c2 : o1.1 ≠ 0
  · replace hf := (if_pos c2).symm.trans hf
    refine And.imp_left (rs_ifT i_X8_cell_6 (ct_ne c2) (tg := 12) (by decide)) ?_
    refine And.imp_left (rs_aload_n i_X8_cell_12 rfl) ?_
    refine And.imp_left (rs_getR i_X8_cell_13 (by decide) (by decide) (sO8 SH hh) (sR8_22 SH hh)) ?_
    refine And.imp_left (rs_iload_n i_X8_cell_16 rfl) ?_
    obtain ⟨c3, hf⟩ := ite_some hf
    refine And.imp_left (rs_iald i_X8_cell_17 (mkI (sA SH hh (k := 9) (n := 4) (by decide)) c3)) ?_
    refine And.imp_left (rs_iconst i_X8_cell_18 (v := (-1)) (by decide)) ?_
    by_cases c4 : (gI o1.2 107 (ix v1)) ≠ (-1)
    · replace hf := (if_pos c4).symm.trans hf
      refine And.imp_left (rs_icT i_X8_cell_19 (ct_ne c4) (tg := 25) (by decide)) ?_
      refine And.imp_left (rs_iload_n i_X8_cell_25 rfl) ?_
      refine And.imp_left (rs_iconst i_X8_cell_26 (v := 0) (by decide)) ?_
      refine And.imp_left (rs_aload_n i_X8_cell_27 rfl) ?_
      refine And.imp_left (rs_getR i_X8_cell_28 (by decide) (by decide) (sO8 SH hh) (sR8_23 SH hh)) ?_
      refine And.imp_left (rs_iload_n i_X8_cell_31 rfl) ?_
      refine And.imp_left (rs_iald i_X8_cell_32 (mkI (sA SH hh (k := 9) (n := 4) (by decide)) c3)) ?_
      refine And.imp_left (rs_iconst i_X8_cell_33 (v := 1) (by decide)) ?_
      refine And.imp_left (rs_isub i_X8_cell_34) ?_
      obtain ⟨o5, e5, hf⟩ := bind_some hf
      obtain ⟨u5, SH2⟩ := k_X8_in (X := X) (d := d) (by omega) (by omega) SH e5
      refine And.imp_left (rs_inS i_X8_cell_35 (by decide) m_X8_in rfl (As := [.int v2, .int 0, .int ((gI o1.2 108 (ix v1)) - 1)]) (rest := []) rfl rfl (Nat.le_of_ble_eq_true rfl) u5 (st' := [.int o5.1]) rfl) ?_
      clear SH; have SH := SH2; clear SH2
      by_cases c6 : o5.1 ≠ 0
      · replace hf := (if_pos c6).symm.trans hf
        refine And.imp_left (rs_ifT i_X8_cell_38 (ct_ne c6) (tg := 44) (by decide)) ?_
        refine And.imp_left (rs_aload_n i_X8_cell_44 rfl) ?_
        refine And.imp_left (rs_getR i_X8_cell_45 (by decide) (by decide) (sO8 SH hh) (sR8_24 SH hh)) ?_
        refine And.imp_left (rs_bipush i_X8_cell_48 (v := 40) (by decide)) ?_
        refine And.imp_left (rs_iload_n i_X8_cell_50 rfl) ?_
        refine And.imp_left (rs_imul i_X8_cell_51) ?_
        refine And.imp_left (rs_iload_n i_X8_cell_52 rfl) ?_
        refine And.imp_left (rs_iadd i_X8_cell_53) ?_
        refine And.imp_left (rs_aload_n i_X8_cell_54 rfl) ?_
        refine And.imp_left (rs_getR i_X8_cell_55 (by decide) (by decide) (sO8 SH hh) (sR8_22 SH hh)) ?_
        refine And.imp_left (rs_iload_n i_X8_cell_58 rfl) ?_
        refine And.imp_left (rs_iald i_X8_cell_59 (mkI (sA SH hh (k := 9) (n := 4) (by decide)) c3)) ?_
        by_cases c7 : (gI o5.2 107 (ix v1)) ≠ 0
        · replace hf := (if_pos c7).symm.trans hf
          refine And.imp_left (rs_ifT i_X8_cell_60 (ct_ne c7) (tg := 68) (by decide)) ?_
          refine And.imp_left (rs_aload_n i_X8_cell_68 rfl) ?_
          refine And.imp_left (rs_getR i_X8_cell_69 (by decide) (by decide) (sO8 SH hh) (sR8_22 SH hh)) ?_
          refine And.imp_left (rs_iload_n i_X8_cell_72 rfl) ?_
          refine And.imp_left (rs_iald i_X8_cell_73 (mkI (sA SH hh (k := 9) (n := 4) (by decide)) c3)) ?_
          refine And.imp_left (rs_iconst i_X8_cell_74 (v := 1) (by decide)) ?_
          by_cases c8 : (gI o5.2 107 (ix v1)) ≠ 1
          · replace hf := (if_pos c8).symm.trans hf
            refine And.imp_left (rs_icT i_X8_cell_75 (ct_ne c8) (tg := 83) (by decide)) ?_
            refine And.imp_left (rs_iload_n i_X8_cell_83 rfl) ?_
            exact q_X8_cell_84 hd hh (by decide) SH hf
          · replace hf := (if_neg c8).symm.trans hf
            refine And.imp_left (rs_icF i_X8_cell_75 (cf_ne c8)) ?_
            refine And.imp_left (rs_iload_n i_X8_cell_78 rfl) ?_
            refine And.imp_left (rs_i2s i_X8_cell_79) ?_
            refine And.imp_left (rs_goto i_X8_cell_80 (tg := 84) (by decide)) ?_
            exact q_X8_cell_84 hd hh (by decide) SH hf
        · replace hf := (if_neg c7).symm.trans hf
          refine And.imp_left (rs_ifF i_X8_cell_60 (cf_ne c7)) ?_
          refine And.imp_left (rs_iload_n i_X8_cell_63 rfl) ?_
          refine And.imp_left (rs_i2b i_X8_cell_64) ?_
          refine And.imp_left (rs_goto i_X8_cell_65 (tg := 84) (by decide)) ?_
          exact q_X8_cell_84 hd hh (by decide) SH hf
      · replace hf := (if_neg c6).symm.trans hf
        refine And.imp_left (rs_ifF i_X8_cell_38 (cf_ne c6)) ?_
        refine And.imp_left (rs_bipush i_X8_cell_41 (v := (-12)) (by decide)) ?_
        have hf := Option.some.inj hf
        subst hf
        exact ⟨rs_iret i_X8_cell_43 m_X8_cell rfl, SH⟩
    · replace hf := (if_neg c4).symm.trans hf
      refine And.imp_left (rs_icF i_X8_cell_19 (cf_ne c4)) ?_
      refine And.imp_left (rs_bipush i_X8_cell_22 (v := (-11)) (by decide)) ?_
      have hf := Option.some.inj hf
      subst hf
      exact ⟨rs_iret i_X8_cell_24 m_X8_cell rfl, SH⟩
  · replace hf := (if_neg c2).symm.trans hf
    refine And.imp_left (rs_ifF i_X8_cell_6 (cf_ne c2)) ?_
    refine And.imp_left (rs_bipush i_X8_cell_9 (v := (-2)) (by decide)) ?_
    have hf := Option.some.inj hf
    subst hf
    exact ⟨rs_iret i_X8_cell_11 m_X8_cell rfl, SH⟩
noncomputable def g_X8_cell (v1 : Int32) (v2 : Int32) (v3 : Int32) (h : Hp) : Option (Int32 × Hp) := g_X8_cell_0 v1 v2 v3 h
theorem k_X8_cell {X : Nat → Int32} {d : Nat} (hd : 1 ≤ d) {L hi : Nat} (hh : 125 ≤ hi) {v1 : Int32} {v2 : Int32} {v3 : Int32} {h : Hp} {o : (Int32 × Hp)}  (SH : SHP L hi h) (hf : g_X8_cell v1 v2 v3 h = some o) : Calls X d 214 [.ref 96, .int v1, .int v2, .int v3] h (some (.int o.1), o.2) ∧ SHP L hi o.2 := by
  obtain ⟨d, rfl⟩ : ∃ z, d = z + 1 := ⟨d - 1, by omega⟩
  obtain ⟨r, S2⟩ := q_X8_cell_0 hd hh SH hf
  exact ⟨⟨_, rfl, r⟩, S2⟩
noncomputable def g_X8_copy_173 (n : Nat) (K147 : Int32 → Int32 → Int32 → Int32 → Hp → Option (Int32 × Hp)) (v5 : Int32) (v6 : Int32) (v7 : Int32) (v8 : Int32) (s0 : Int32) (h : Hp) : Option (Int32 × Hp) :=
  if inb (v6 + s0) 160 = true then
  if inb (v7 + s0) 160 = true then
  K147 v5 v6 v7 (v8 + 1) (hsi h 109 (ix (v7 + s0)) (gI h 109 (ix (v6 + s0))))
  else none
  else none
set_option maxRecDepth 100000 in
set_option maxHeartbeats 4000000 in
theorem q_X8_copy_173 {X : Nat → Int32} {d : Nat} (hd : 1 ≤ (d + 1)) {L hi : Nat} (hh : 125 ≤ hi) {n : Nat} {K147 : Int32 → Int32 → Int32 → Int32 → Hp → Option (Int32 × Hp)} (HK147 : ∀ (v5 : Int32) (v6 : Int32) (v7 : Int32) (v8 : Int32) (d1 : Int32) (d2 : Int32) (d3 : Int32) (d4 : Int32) (w9 : Option Value) (h : Hp) (o : (Int32 × Hp)), SHP L hi h → K147 v5 v6 v7 v8 h = some o → Run X (d + 1) 215 147 [some (.ref 96), some (.int d1), some (.int d2), some (.int d3), some (.int d4), some (.int v5), some (.int v6), some (.int v7), some (.int v8), w9] [] h (some (.int o.1), o.2) ∧ SHP L hi o.2) {v5 : Int32} {v6 : Int32} {v7 : Int32} {v8 : Int32} {s0 : Int32} {d1 : Int32} {d2 : Int32} {d3 : Int32} {d4 : Int32} {w9 : Option Value} {h : Hp} {o : (Int32 × Hp)}  (SH : SHP L hi h) (hf : g_X8_copy_173 n K147 v5 v6 v7 v8 s0 h = some o) : Run X (d + 1) 215 173 [some (.ref 96), some (.int d1), some (.int d2), some (.int d3), some (.int d4), some (.int v5), some (.int v6), some (.int v7), some (.int v8), w9] [.int s0] h (some (.int o.1), o.2) ∧ SHP L hi o.2 := by
  unfold g_X8_copy_173 at hf
  refine And.imp_left (rs_istore i_X8_copy_173 (Nat.le_of_ble_eq_true rfl) (lv' := [some (.ref 96), some (.int d1), some (.int d2), some (.int d3), some (.int d4), some (.int v5), some (.int v6), some (.int v7), some (.int v8), some (.int s0)]) rfl) ?_
  refine And.imp_left (rs_aload_n i_X8_copy_175 rfl) ?_
  refine And.imp_left (rs_getR i_X8_copy_176 (by decide) (by decide) (sO8 SH hh) (sR8_24 SH hh)) ?_
  refine And.imp_left (rs_iload i_X8_copy_179 rfl) ?_
  refine And.imp_left (rs_iload i_X8_copy_181 rfl) ?_
  refine And.imp_left (rs_iadd i_X8_copy_183) ?_
  refine And.imp_left (rs_aload_n i_X8_copy_184 rfl) ?_
  refine And.imp_left (rs_getR i_X8_copy_185 (by decide) (by decide) (sO8 SH hh) (sR8_24 SH hh)) ?_
  refine And.imp_left (rs_iload i_X8_copy_188 rfl) ?_
  refine And.imp_left (rs_iload i_X8_copy_190 rfl) ?_
  refine And.imp_left (rs_iadd i_X8_copy_192) ?_
  obtain ⟨c1, hf⟩ := ite_some hf
  refine And.imp_left (rs_iald i_X8_copy_193 (mkI (sA SH hh (k := 9) (n := 160) (by decide)) c1)) ?_
  obtain ⟨c2, hf⟩ := ite_some hf
  refine And.imp_left (rs_iast i_X8_copy_194 (mkI (sA SH hh (k := 9) (n := 160) (by decide)) c2)) ?_
  have SH := shi SH 109 (ix (v7 + s0)) (gI h 109 (ix (v6 + s0)))
  refine And.imp_left (rs_iinc i_X8_copy_195 rfl (v := v8 + 1) rfl (Nat.le_of_ble_eq_true rfl) (lv' := [some (.ref 96), some (.int d1), some (.int d2), some (.int d3), some (.int d4), some (.int v5), some (.int v6), some (.int v7), some (.int (v8 + 1)), some (.int s0)]) rfl) ?_
  refine And.imp_left (rs_goto i_X8_copy_198 (tg := 147) (by decide)) ?_
  exact HK147 _ _ _ _ _ _ _ _ _ _ _ SH hf
noncomputable def g_X8_copy_147 (n : Nat) : Nat → Int32 → Int32 → Int32 → Int32 → Hp → Option (Int32 × Hp)
  | 0, _, _, _, _, _ => none
  | m + 1, v5, v6, v7, v8, h =>
    if v5 ≤ v8 then
      some (v5, h)
    else
      if v7 ≤ v6 then
        g_X8_copy_173 n (g_X8_copy_147 n m) v5 v6 v7 v8 v8 h
      else
        g_X8_copy_173 n (g_X8_copy_147 n m) v5 v6 v7 v8 ((v5 - 1) - v8) h
set_option maxRecDepth 100000 in
set_option maxHeartbeats 4000000 in
theorem q_X8_copy_147 {X : Nat → Int32} {d : Nat} (hd : 1 ≤ (d + 1)) {L hi : Nat} (hh : 125 ≤ hi) {n : Nat} : ∀ (m : Nat) (v5 : Int32) (v6 : Int32) (v7 : Int32) (v8 : Int32) (d1 : Int32) (d2 : Int32) (d3 : Int32) (d4 : Int32) (w9 : Option Value) (h : Hp) (o : (Int32 × Hp)), SHP L hi h → g_X8_copy_147 n m v5 v6 v7 v8 h = some o → Run X (d + 1) 215 147 [some (.ref 96), some (.int d1), some (.int d2), some (.int d3), some (.int d4), some (.int v5), some (.int v6), some (.int v7), some (.int v8), w9] [] h (some (.int o.1), o.2) ∧ SHP L hi o.2 := by
  intro m
  induction m with
  | zero => intro v5 v6 v7 v8 d1 d2 d3 d4 w9 h o SH hf; cases hf
  | succ m ih =>
    intro v5 v6 v7 v8 d1 d2 d3 d4 w9 h o SH hf
    rw [g_X8_copy_147] at hf
    refine And.imp_left (rs_iload i_X8_copy_147 rfl) ?_
    refine And.imp_left (rs_iload i_X8_copy_149 rfl) ?_
    by_cases c1 : v5 ≤ v8
    · replace hf := (if_pos c1).symm.trans hf
      refine And.imp_left (rs_icT i_X8_copy_151 (ct_ge c1) (tg := 201) (by decide)) ?_
      refine And.imp_left (rs_iload i_X8_copy_201 rfl) ?_
      have hf := Option.some.inj hf
      subst hf
      exact ⟨rs_iret i_X8_copy_203 m_X8_copy rfl, SH⟩
    · replace hf := (if_neg c1).symm.trans hf
      refine And.imp_left (rs_icF i_X8_copy_151 (cf_ge c1)) ?_
      refine And.imp_left (rs_iload i_X8_copy_154 rfl) ?_
      refine And.imp_left (rs_iload i_X8_copy_156 rfl) ?_
      by_cases c2 : v7 ≤ v6
      · replace hf := (if_pos c2).symm.trans hf
        refine And.imp_left (rs_icT i_X8_copy_158 (ct_ge c2) (tg := 171) (by decide)) ?_
        refine And.imp_left (rs_iload i_X8_copy_171 rfl) ?_
        exact q_X8_copy_173 hd hh ih SH hf
      · replace hf := (if_neg c2).symm.trans hf
        refine And.imp_left (rs_icF i_X8_copy_158 (cf_ge c2)) ?_
        refine And.imp_left (rs_iload i_X8_copy_161 rfl) ?_
        refine And.imp_left (rs_iconst i_X8_copy_163 (v := 1) (by decide)) ?_
        refine And.imp_left (rs_isub i_X8_copy_164) ?_
        refine And.imp_left (rs_iload i_X8_copy_165 rfl) ?_
        refine And.imp_left (rs_isub i_X8_copy_167) ?_
        refine And.imp_left (rs_goto i_X8_copy_168 (tg := 173) (by decide)) ?_
        exact q_X8_copy_173 hd hh ih SH hf
noncomputable def g_X8_copy_0 (n : Nat) (v1 : Int32) (v2 : Int32) (v3 : Int32) (v4 : Int32) (v5 : Int32) (h : Hp) : Option (Int32 × Hp) :=
  (g_X8_in v1 0 3 h).bind fun o1 =>
  if o1.1 = 0 then
    some ((-2), o1.2)
  else
    (g_X8_in v3 0 3 o1.2).bind fun o3 =>
    if o3.1 ≠ 0 then
      if inb v1 4 = true then
      if (gI o3.2 107 (ix v1)) = (-1) then
        some ((-11), o3.2)
      else
        if inb v3 4 = true then
        if (gI o3.2 107 (ix v3)) ≠ (-1) then
          if (gI o3.2 107 (ix v1)) = (gI o3.2 107 (ix v3)) then
            if v5 < 0 then
              some ((-12), o3.2)
            else
              if v2 < 0 then
                some ((-12), o3.2)
              else
                if v4 < 0 then
                  some ((-12), o3.2)
                else
                  if (gI o3.2 108 (ix v1)) < v2 then
                    some ((-12), o3.2)
                  else
                    if (gI o3.2 108 (ix v3)) < v4 then
                      some ((-12), o3.2)
                    else
                      if ((gI o3.2 108 (ix v1)) - v2) < v5 then
                        some ((-12), o3.2)
                      else
                        if v5 ≤ ((gI o3.2 108 (ix v3)) - v4) then
                          g_X8_copy_147 n n v5 ((40 * v1) + v2) ((40 * v3) + v4) 0 o3.2
                        else
                          some ((-12), o3.2)
          else
            some ((-13), o3.2)
        else
          some ((-11), o3.2)
        else none
      else none
    else
      some ((-2), o3.2)
set_option maxRecDepth 100000 in
set_option maxHeartbeats 4000000 in
theorem q_X8_copy_0 {X : Nat → Int32} {d : Nat} (hd : 1 ≤ (d + 1)) {L hi : Nat} (hh : 125 ≤ hi) {n : Nat} {v1 : Int32} {v2 : Int32} {v3 : Int32} {v4 : Int32} {v5 : Int32} {h : Hp} {o : (Int32 × Hp)}  (SH : SHP L hi h) (hf : g_X8_copy_0 n v1 v2 v3 v4 v5 h = some o) : Run X (d + 1) 215 0 [some (.ref 96), some (.int v1), some (.int v2), some (.int v3), some (.int v4), some (.int v5), none, none, none, none] [] h (some (.int o.1), o.2) ∧ SHP L hi o.2 := by
  unfold g_X8_copy_0 at hf
  refine And.imp_left (rs_iload_n i_X8_copy_0 rfl) ?_
  refine And.imp_left (rs_iconst i_X8_copy_1 (v := 0) (by decide)) ?_
  refine And.imp_left (rs_iconst i_X8_copy_2 (v := 3) (by decide)) ?_
  obtain ⟨o1, e1, hf⟩ := bind_some hf
  obtain ⟨u1, SH2⟩ := k_X8_in (X := X) (d := d) (by omega) (by omega) SH e1
  refine And.imp_left (rs_inS i_X8_copy_3 (by decide) m_X8_in rfl (As := [.int v1, .int 0, .int 3]) (rest := []) rfl rfl (Nat.le_of_ble_eq_true rfl) u1 (st' := [.int o1.1]) rfl) ?_
  clear SH; have SH := SH2; clear SH2
  by_cases c2 : o1.1 = 0
  · replace hf := (if_pos c2).symm.trans hf
    refine And.imp_left (rs_ifT i_X8_copy_6 (ct_eq c2) (tg := 18) (by decide)) ?_
    refine And.imp_left (rs_bipush i_X8_copy_18 (v := (-2)) (by decide)) ?_
    have hf := Option.some.inj hf
    subst hf
    exact ⟨rs_iret i_X8_copy_20 m_X8_copy rfl, SH⟩
  · replace hf := (if_neg c2).symm.trans hf
    refine And.imp_left (rs_ifF i_X8_copy_6 (cf_eq c2)) ?_
    refine And.imp_left (rs_iload_n i_X8_copy_9 rfl) ?_
    refine And.imp_left (rs_iconst i_X8_copy_10 (v := 0) (by decide)) ?_
    refine And.imp_left (rs_iconst i_X8_copy_11 (v := 3) (by decide)) ?_
    obtain ⟨o3, e3, hf⟩ := bind_some hf
    obtain ⟨u3, SH2⟩ := k_X8_in (X := X) (d := d) (by omega) (by omega) SH e3
    refine And.imp_left (rs_inS i_X8_copy_12 (by decide) m_X8_in rfl (As := [.int v3, .int 0, .int 3]) (rest := []) rfl rfl (Nat.le_of_ble_eq_true rfl) u3 (st' := [.int o3.1]) rfl) ?_
    clear SH; have SH := SH2; clear SH2
    by_cases c4 : o3.1 ≠ 0
    · replace hf := (if_pos c4).symm.trans hf
      refine And.imp_left (rs_ifT i_X8_copy_15 (ct_ne c4) (tg := 21) (by decide)) ?_
      refine And.imp_left (rs_aload_n i_X8_copy_21 rfl) ?_
      refine And.imp_left (rs_getR i_X8_copy_22 (by decide) (by decide) (sO8 SH hh) (sR8_22 SH hh)) ?_
      refine And.imp_left (rs_iload_n i_X8_copy_25 rfl) ?_
      obtain ⟨c5, hf⟩ := ite_some hf
      refine And.imp_left (rs_iald i_X8_copy_26 (mkI (sA SH hh (k := 9) (n := 4) (by decide)) c5)) ?_
      refine And.imp_left (rs_iconst i_X8_copy_27 (v := (-1)) (by decide)) ?_
      by_cases c6 : (gI o3.2 107 (ix v1)) = (-1)
      · replace hf := (if_pos c6).symm.trans hf
        refine And.imp_left (rs_icT i_X8_copy_28 (ct_eq c6) (tg := 41) (by decide)) ?_
        refine And.imp_left (rs_bipush i_X8_copy_41 (v := (-11)) (by decide)) ?_
        have hf := Option.some.inj hf
        subst hf
        exact ⟨rs_iret i_X8_copy_43 m_X8_copy rfl, SH⟩
      · replace hf := (if_neg c6).symm.trans hf
        refine And.imp_left (rs_icF i_X8_copy_28 (cf_eq c6)) ?_
        refine And.imp_left (rs_aload_n i_X8_copy_31 rfl) ?_
        refine And.imp_left (rs_getR i_X8_copy_32 (by decide) (by decide) (sO8 SH hh) (sR8_22 SH hh)) ?_
        refine And.imp_left (rs_iload_n i_X8_copy_35 rfl) ?_
        obtain ⟨c7, hf⟩ := ite_some hf
        refine And.imp_left (rs_iald i_X8_copy_36 (mkI (sA SH hh (k := 9) (n := 4) (by decide)) c7)) ?_
        refine And.imp_left (rs_iconst i_X8_copy_37 (v := (-1)) (by decide)) ?_
        by_cases c8 : (gI o3.2 107 (ix v3)) ≠ (-1)
        · replace hf := (if_pos c8).symm.trans hf
          refine And.imp_left (rs_icT i_X8_copy_38 (ct_ne c8) (tg := 44) (by decide)) ?_
          refine And.imp_left (rs_aload_n i_X8_copy_44 rfl) ?_
          refine And.imp_left (rs_getR i_X8_copy_45 (by decide) (by decide) (sO8 SH hh) (sR8_22 SH hh)) ?_
          refine And.imp_left (rs_iload_n i_X8_copy_48 rfl) ?_
          refine And.imp_left (rs_iald i_X8_copy_49 (mkI (sA SH hh (k := 9) (n := 4) (by decide)) c5)) ?_
          refine And.imp_left (rs_aload_n i_X8_copy_50 rfl) ?_
          refine And.imp_left (rs_getR i_X8_copy_51 (by decide) (by decide) (sO8 SH hh) (sR8_22 SH hh)) ?_
          refine And.imp_left (rs_iload_n i_X8_copy_54 rfl) ?_
          refine And.imp_left (rs_iald i_X8_copy_55 (mkI (sA SH hh (k := 9) (n := 4) (by decide)) c7)) ?_
          by_cases c9 : (gI o3.2 107 (ix v1)) = (gI o3.2 107 (ix v3))
          · replace hf := (if_pos c9).symm.trans hf
            refine And.imp_left (rs_icT i_X8_copy_56 (ct_eq c9) (tg := 62) (by decide)) ?_
            refine And.imp_left (rs_iload i_X8_copy_62 rfl) ?_
            by_cases c10 : v5 < 0
            · replace hf := (if_pos c10).symm.trans hf
              refine And.imp_left (rs_ifT i_X8_copy_64 (ct_lt c10) (tg := 124) (by decide)) ?_
              refine And.imp_left (rs_bipush i_X8_copy_124 (v := (-12)) (by decide)) ?_
              have hf := Option.some.inj hf
              subst hf
              exact ⟨rs_iret i_X8_copy_126 m_X8_copy rfl, SH⟩
            · replace hf := (if_neg c10).symm.trans hf
              refine And.imp_left (rs_ifF i_X8_copy_64 (cf_lt c10)) ?_
              refine And.imp_left (rs_iload_n i_X8_copy_67 rfl) ?_
              by_cases c11 : v2 < 0
              · replace hf := (if_pos c11).symm.trans hf
                refine And.imp_left (rs_ifT i_X8_copy_68 (ct_lt c11) (tg := 124) (by decide)) ?_
                refine And.imp_left (rs_bipush i_X8_copy_124 (v := (-12)) (by decide)) ?_
                have hf := Option.some.inj hf
                subst hf
                exact ⟨rs_iret i_X8_copy_126 m_X8_copy rfl, SH⟩
              · replace hf := (if_neg c11).symm.trans hf
                refine And.imp_left (rs_ifF i_X8_copy_68 (cf_lt c11)) ?_
                refine And.imp_left (rs_iload i_X8_copy_71 rfl) ?_
                by_cases c12 : v4 < 0
                · replace hf := (if_pos c12).symm.trans hf
                  refine And.imp_left (rs_ifT i_X8_copy_73 (ct_lt c12) (tg := 124) (by decide)) ?_
                  refine And.imp_left (rs_bipush i_X8_copy_124 (v := (-12)) (by decide)) ?_
                  have hf := Option.some.inj hf
                  subst hf
                  exact ⟨rs_iret i_X8_copy_126 m_X8_copy rfl, SH⟩
                · replace hf := (if_neg c12).symm.trans hf
                  refine And.imp_left (rs_ifF i_X8_copy_73 (cf_lt c12)) ?_
                  refine And.imp_left (rs_iload_n i_X8_copy_76 rfl) ?_
                  refine And.imp_left (rs_aload_n i_X8_copy_77 rfl) ?_
                  refine And.imp_left (rs_getR i_X8_copy_78 (by decide) (by decide) (sO8 SH hh) (sR8_23 SH hh)) ?_
                  refine And.imp_left (rs_iload_n i_X8_copy_81 rfl) ?_
                  refine And.imp_left (rs_iald i_X8_copy_82 (mkI (sA SH hh (k := 9) (n := 4) (by decide)) c5)) ?_
                  by_cases c13 : (gI o3.2 108 (ix v1)) < v2
                  · replace hf := (if_pos c13).symm.trans hf
                    refine And.imp_left (rs_icT i_X8_copy_83 (ct_gt c13) (tg := 124) (by decide)) ?_
                    refine And.imp_left (rs_bipush i_X8_copy_124 (v := (-12)) (by decide)) ?_
                    have hf := Option.some.inj hf
                    subst hf
                    exact ⟨rs_iret i_X8_copy_126 m_X8_copy rfl, SH⟩
                  · replace hf := (if_neg c13).symm.trans hf
                    refine And.imp_left (rs_icF i_X8_copy_83 (cf_gt c13)) ?_
                    refine And.imp_left (rs_iload i_X8_copy_86 rfl) ?_
                    refine And.imp_left (rs_aload_n i_X8_copy_88 rfl) ?_
                    refine And.imp_left (rs_getR i_X8_copy_89 (by decide) (by decide) (sO8 SH hh) (sR8_23 SH hh)) ?_
                    refine And.imp_left (rs_iload_n i_X8_copy_92 rfl) ?_
                    refine And.imp_left (rs_iald i_X8_copy_93 (mkI (sA SH hh (k := 9) (n := 4) (by decide)) c7)) ?_
                    by_cases c14 : (gI o3.2 108 (ix v3)) < v4
                    · replace hf := (if_pos c14).symm.trans hf
                      refine And.imp_left (rs_icT i_X8_copy_94 (ct_gt c14) (tg := 124) (by decide)) ?_
                      refine And.imp_left (rs_bipush i_X8_copy_124 (v := (-12)) (by decide)) ?_
                      have hf := Option.some.inj hf
                      subst hf
                      exact ⟨rs_iret i_X8_copy_126 m_X8_copy rfl, SH⟩
                    · replace hf := (if_neg c14).symm.trans hf
                      refine And.imp_left (rs_icF i_X8_copy_94 (cf_gt c14)) ?_
                      refine And.imp_left (rs_iload i_X8_copy_97 rfl) ?_
                      refine And.imp_left (rs_aload_n i_X8_copy_99 rfl) ?_
                      refine And.imp_left (rs_getR i_X8_copy_100 (by decide) (by decide) (sO8 SH hh) (sR8_23 SH hh)) ?_
                      refine And.imp_left (rs_iload_n i_X8_copy_103 rfl) ?_
                      refine And.imp_left (rs_iald i_X8_copy_104 (mkI (sA SH hh (k := 9) (n := 4) (by decide)) c5)) ?_
                      refine And.imp_left (rs_iload_n i_X8_copy_105 rfl) ?_
                      refine And.imp_left (rs_isub i_X8_copy_106) ?_
                      by_cases c15 : ((gI o3.2 108 (ix v1)) - v2) < v5
                      · replace hf := (if_pos c15).symm.trans hf
                        refine And.imp_left (rs_icT i_X8_copy_107 (ct_gt c15) (tg := 124) (by decide)) ?_
                        refine And.imp_left (rs_bipush i_X8_copy_124 (v := (-12)) (by decide)) ?_
                        have hf := Option.some.inj hf
                        subst hf
                        exact ⟨rs_iret i_X8_copy_126 m_X8_copy rfl, SH⟩
                      · replace hf := (if_neg c15).symm.trans hf
                        refine And.imp_left (rs_icF i_X8_copy_107 (cf_gt c15)) ?_
                        refine And.imp_left (rs_iload i_X8_copy_110 rfl) ?_
                        refine And.imp_left (rs_aload_n i_X8_copy_112 rfl) ?_
                        refine And.imp_left (rs_getR i_X8_copy_113 (by decide) (by decide) (sO8 SH hh) (sR8_23 SH hh)) ?_
                        refine And.imp_left (rs_iload_n i_X8_copy_116 rfl) ?_
                        refine And.imp_left (rs_iald i_X8_copy_117 (mkI (sA SH hh (k := 9) (n := 4) (by decide)) c7)) ?_
                        refine And.imp_left (rs_iload i_X8_copy_118 rfl) ?_
                        refine And.imp_left (rs_isub i_X8_copy_120) ?_
                        by_cases c16 : v5 ≤ ((gI o3.2 108 (ix v3)) - v4)
                        · replace hf := (if_pos c16).symm.trans hf
                          refine And.imp_left (rs_icT i_X8_copy_121 (ct_le c16) (tg := 127) (by decide)) ?_
                          refine And.imp_left (rs_bipush i_X8_copy_127 (v := 40) (by decide)) ?_
                          refine And.imp_left (rs_iload_n i_X8_copy_129 rfl) ?_
                          refine And.imp_left (rs_imul i_X8_copy_130) ?_
                          refine And.imp_left (rs_iload_n i_X8_copy_131 rfl) ?_
                          refine And.imp_left (rs_iadd i_X8_copy_132) ?_
                          refine And.imp_left (rs_istore i_X8_copy_133 (Nat.le_of_ble_eq_true rfl) (lv' := [some (.ref 96), some (.int v1), some (.int v2), some (.int v3), some (.int v4), some (.int v5), some (.int ((40 * v1) + v2)), none, none, none]) rfl) ?_
                          refine And.imp_left (rs_bipush i_X8_copy_135 (v := 40) (by decide)) ?_
                          refine And.imp_left (rs_iload_n i_X8_copy_137 rfl) ?_
                          refine And.imp_left (rs_imul i_X8_copy_138) ?_
                          refine And.imp_left (rs_iload i_X8_copy_139 rfl) ?_
                          refine And.imp_left (rs_iadd i_X8_copy_141) ?_
                          refine And.imp_left (rs_istore i_X8_copy_142 (Nat.le_of_ble_eq_true rfl) (lv' := [some (.ref 96), some (.int v1), some (.int v2), some (.int v3), some (.int v4), some (.int v5), some (.int ((40 * v1) + v2)), some (.int ((40 * v3) + v4)), none, none]) rfl) ?_
                          refine And.imp_left (rs_iconst i_X8_copy_144 (v := 0) (by decide)) ?_
                          refine And.imp_left (rs_istore i_X8_copy_145 (Nat.le_of_ble_eq_true rfl) (lv' := [some (.ref 96), some (.int v1), some (.int v2), some (.int v3), some (.int v4), some (.int v5), some (.int ((40 * v1) + v2)), some (.int ((40 * v3) + v4)), some (.int 0), none]) rfl) ?_
                          exact q_X8_copy_147 hd hh _ _ _ _ _ _ _ _ _ _ _ _ SH hf
                        · replace hf := (if_neg c16).symm.trans hf
                          refine And.imp_left (rs_icF i_X8_copy_121 (cf_le c16)) ?_
                          refine And.imp_left (rs_bipush i_X8_copy_124 (v := (-12)) (by decide)) ?_
                          have hf := Option.some.inj hf
                          subst hf
                          exact ⟨rs_iret i_X8_copy_126 m_X8_copy rfl, SH⟩
          · replace hf := (if_neg c9).symm.trans hf
            refine And.imp_left (rs_icF i_X8_copy_56 (cf_eq c9)) ?_
            refine And.imp_left (rs_bipush i_X8_copy_59 (v := (-13)) (by decide)) ?_
            have hf := Option.some.inj hf
            subst hf
            exact ⟨rs_iret i_X8_copy_61 m_X8_copy rfl, SH⟩
        · replace hf := (if_neg c8).symm.trans hf
          refine And.imp_left (rs_icF i_X8_copy_38 (cf_ne c8)) ?_
          refine And.imp_left (rs_bipush i_X8_copy_41 (v := (-11)) (by decide)) ?_
          have hf := Option.some.inj hf
          subst hf
          exact ⟨rs_iret i_X8_copy_43 m_X8_copy rfl, SH⟩
    · replace hf := (if_neg c4).symm.trans hf
      refine And.imp_left (rs_ifF i_X8_copy_15 (cf_ne c4)) ?_
      refine And.imp_left (rs_bipush i_X8_copy_18 (v := (-2)) (by decide)) ?_
      have hf := Option.some.inj hf
      subst hf
      exact ⟨rs_iret i_X8_copy_20 m_X8_copy rfl, SH⟩
noncomputable def g_X8_copy (n : Nat) (v1 : Int32) (v2 : Int32) (v3 : Int32) (v4 : Int32) (v5 : Int32) (h : Hp) : Option (Int32 × Hp) := g_X8_copy_0 n v1 v2 v3 v4 v5 h
theorem k_X8_copy {X : Nat → Int32} {d : Nat} (hd : 1 ≤ d) {L hi : Nat} (hh : 125 ≤ hi) {n : Nat} {v1 : Int32} {v2 : Int32} {v3 : Int32} {v4 : Int32} {v5 : Int32} {h : Hp} {o : (Int32 × Hp)}  (SH : SHP L hi h) (hf : g_X8_copy n v1 v2 v3 v4 v5 h = some o) : Calls X d 215 [.ref 96, .int v1, .int v2, .int v3, .int v4, .int v5] h (some (.int o.1), o.2) ∧ SHP L hi o.2 := by
  obtain ⟨d, rfl⟩ : ∃ z, d = z + 1 := ⟨d - 1, by omega⟩
  obtain ⟨r, S2⟩ := q_X8_copy_0 hd hh SH hf
  exact ⟨⟨_, rfl, r⟩, S2⟩
noncomputable def g_X8_stepsBy_153 (n : Nat) (K64 : Int32 → Int32 → Int32 → Int32 → Int32 → Hp → Option (Int32 × Hp)) (v1 : Int32) (v3 : Int32) (v4 : Int32) (v6 : Int32) (s0 : Int32) (s1 : Int32) (h : Hp) : Option (Int32 × Hp) :=
  K64 v1 v3 v4 (s0 + s1) (v6 + 1) h
set_option maxRecDepth 100000 in
set_option maxHeartbeats 4000000 in
theorem q_X8_stepsBy_153 {X : Nat → Int32} {d : Nat} (hd : 2 ≤ (d + 1)) {L hi : Nat} (hh : 125 ≤ hi) {n : Nat} {K64 : Int32 → Int32 → Int32 → Int32 → Int32 → Hp → Option (Int32 × Hp)} (HK64 : ∀ (v1 : Int32) (v3 : Int32) (v4 : Int32) (v5 : Int32) (v6 : Int32) (d2 : Int32) (w7 : Option Value) (w8 : Option Value) (h : Hp) (o : (Int32 × Hp)), SHP L hi h → K64 v1 v3 v4 v5 v6 h = some o → Run X (d + 1) 216 64 [some (.ref 96), some (.int v1), some (.int d2), some (.int v3), some (.int v4), some (.int v5), some (.int v6), w7, w8] [] h (some (.int o.1), o.2) ∧ SHP L hi o.2) {v1 : Int32} {v3 : Int32} {v4 : Int32} {v6 : Int32} {s0 : Int32} {s1 : Int32} {d2 : Int32} {d5 : Int32} {d7 : Int32} {d8 : Int32} {h : Hp} {o : (Int32 × Hp)}  (SH : SHP L hi h) (hf : g_X8_stepsBy_153 n K64 v1 v3 v4 v6 s0 s1 h = some o) : Run X (d + 1) 216 153 [some (.ref 96), some (.int v1), some (.int d2), some (.int v3), some (.int v4), some (.int d5), some (.int v6), some (.int d7), some (.int d8)] [.int s1, .int s0] h (some (.int o.1), o.2) ∧ SHP L hi o.2 := by
  unfold g_X8_stepsBy_153 at hf
  refine And.imp_left (rs_iadd i_X8_stepsBy_153) ?_
  refine And.imp_left (rs_istore i_X8_stepsBy_154 (Nat.le_of_ble_eq_true rfl) (lv' := [some (.ref 96), some (.int v1), some (.int d2), some (.int v3), some (.int v4), some (.int (s0 + s1)), some (.int v6), some (.int d7), some (.int d8)]) rfl) ?_
  refine And.imp_left (rs_iinc i_X8_stepsBy_156 rfl (v := v6 + 1) rfl (Nat.le_of_ble_eq_true rfl) (lv' := [some (.ref 96), some (.int v1), some (.int d2), some (.int v3), some (.int v4), some (.int (s0 + s1)), some (.int (v6 + 1)), some (.int d7), some (.int d8)]) rfl) ?_
  refine And.imp_left (rs_goto i_X8_stepsBy_159 (tg := 64) (by decide)) ?_
  exact HK64 _ _ _ _ _ _ _ _ _ _ SH hf
noncomputable def g_X8_stepsBy_64 (n : Nat) : Nat → Int32 → Int32 → Int32 → Int32 → Int32 → Hp → Option (Int32 × Hp)
  | 0, _, _, _, _, _, _ => none
  | m + 1, v1, v3, v4, v5, v6, h =>
    if v4 ≤ v6 then
      some (v5, h)
    else
      if v3 < 0 then
        some ((-12), h)
      else
        if (v3 + (3 * v6)) < v3 then
          some ((-12), h)
        else
          if inb v1 4 = true then
          if (v3 + (3 * v6)) ≤ ((gI h 108 (ix v1)) - 3) then
            if inb ((40 * v1) + (v3 + (3 * v6))) 160 = true then
            if inb (((40 * v1) + (v3 + (3 * v6))) + 1) 160 = true then
            if inb (((40 * v1) + (v3 + (3 * v6))) + 2) 160 = true then
            (g_X8_step (gI h 109 (ix ((40 * v1) + (v3 + (3 * v6))))) (gI h 109 (ix (((40 * v1) + (v3 + (3 * v6))) + 1))) (gI h 109 (ix (((40 * v1) + (v3 + (3 * v6))) + 2))) h).bind fun o9 =>
            if o9.1 < 0 then
              g_X8_stepsBy_153 n (g_X8_stepsBy_64 n m) v1 v3 v4 v6 v5 0 o9.2
            else
              g_X8_stepsBy_153 n (g_X8_stepsBy_64 n m) v1 v3 v4 v6 v5 1 o9.2
            else none
            else none
            else none
          else
            some ((-12), h)
          else none
set_option maxRecDepth 100000 in
set_option maxHeartbeats 4000000 in
theorem q_X8_stepsBy_64 {X : Nat → Int32} {d : Nat} (hd : 2 ≤ (d + 1)) {L hi : Nat} (hh : 125 ≤ hi) {n : Nat} : ∀ (m : Nat) (v1 : Int32) (v3 : Int32) (v4 : Int32) (v5 : Int32) (v6 : Int32) (d2 : Int32) (w7 : Option Value) (w8 : Option Value) (h : Hp) (o : (Int32 × Hp)), SHP L hi h → g_X8_stepsBy_64 n m v1 v3 v4 v5 v6 h = some o → Run X (d + 1) 216 64 [some (.ref 96), some (.int v1), some (.int d2), some (.int v3), some (.int v4), some (.int v5), some (.int v6), w7, w8] [] h (some (.int o.1), o.2) ∧ SHP L hi o.2 := by
  intro m
  induction m with
  | zero => intro v1 v3 v4 v5 v6 d2 w7 w8 h o SH hf; cases hf
  | succ m ih =>
    intro v1 v3 v4 v5 v6 d2 w7 w8 h o SH hf
    rw [g_X8_stepsBy_64] at hf
    refine And.imp_left (rs_iload i_X8_stepsBy_64 rfl) ?_
    refine And.imp_left (rs_iload i_X8_stepsBy_66 rfl) ?_
    by_cases c1 : v4 ≤ v6
    · replace hf := (if_pos c1).symm.trans hf
      refine And.imp_left (rs_icT i_X8_stepsBy_68 (ct_ge c1) (tg := 162) (by decide)) ?_
      refine And.imp_left (rs_iload i_X8_stepsBy_162 rfl) ?_
      have hf := Option.some.inj hf
      subst hf
      exact ⟨rs_iret i_X8_stepsBy_164 m_X8_stepsBy rfl, SH⟩
    · replace hf := (if_neg c1).symm.trans hf
      refine And.imp_left (rs_icF i_X8_stepsBy_68 (cf_ge c1)) ?_
      refine And.imp_left (rs_iload_n i_X8_stepsBy_71 rfl) ?_
      refine And.imp_left (rs_iconst i_X8_stepsBy_72 (v := 3) (by decide)) ?_
      refine And.imp_left (rs_iload i_X8_stepsBy_73 rfl) ?_
      refine And.imp_left (rs_imul i_X8_stepsBy_75) ?_
      refine And.imp_left (rs_iadd i_X8_stepsBy_76) ?_
      refine And.imp_left (rs_istore i_X8_stepsBy_77 (Nat.le_of_ble_eq_true rfl) (lv' := [some (.ref 96), some (.int v1), some (.int d2), some (.int v3), some (.int v4), some (.int v5), some (.int v6), some (.int (v3 + (3 * v6))), w8]) rfl) ?_
      refine And.imp_left (rs_iload_n i_X8_stepsBy_79 rfl) ?_
      by_cases c2 : v3 < 0
      · replace hf := (if_pos c2).symm.trans hf
        refine And.imp_left (rs_ifT i_X8_stepsBy_80 (ct_lt c2) (tg := 102) (by decide)) ?_
        refine And.imp_left (rs_bipush i_X8_stepsBy_102 (v := (-12)) (by decide)) ?_
        have hf := Option.some.inj hf
        subst hf
        exact ⟨rs_iret i_X8_stepsBy_104 m_X8_stepsBy rfl, SH⟩
      · replace hf := (if_neg c2).symm.trans hf
        refine And.imp_left (rs_ifF i_X8_stepsBy_80 (cf_lt c2)) ?_
        refine And.imp_left (rs_iload i_X8_stepsBy_83 rfl) ?_
        refine And.imp_left (rs_iload_n i_X8_stepsBy_85 rfl) ?_
        by_cases c3 : (v3 + (3 * v6)) < v3
        · replace hf := (if_pos c3).symm.trans hf
          refine And.imp_left (rs_icT i_X8_stepsBy_86 (ct_lt c3) (tg := 102) (by decide)) ?_
          refine And.imp_left (rs_bipush i_X8_stepsBy_102 (v := (-12)) (by decide)) ?_
          have hf := Option.some.inj hf
          subst hf
          exact ⟨rs_iret i_X8_stepsBy_104 m_X8_stepsBy rfl, SH⟩
        · replace hf := (if_neg c3).symm.trans hf
          refine And.imp_left (rs_icF i_X8_stepsBy_86 (cf_lt c3)) ?_
          refine And.imp_left (rs_iload i_X8_stepsBy_89 rfl) ?_
          refine And.imp_left (rs_aload_n i_X8_stepsBy_91 rfl) ?_
          refine And.imp_left (rs_getR i_X8_stepsBy_92 (by decide) (by decide) (sO8 SH hh) (sR8_23 SH hh)) ?_
          refine And.imp_left (rs_iload_n i_X8_stepsBy_95 rfl) ?_
          obtain ⟨c4, hf⟩ := ite_some hf
          refine And.imp_left (rs_iald i_X8_stepsBy_96 (mkI (sA SH hh (k := 9) (n := 4) (by decide)) c4)) ?_
          refine And.imp_left (rs_iconst i_X8_stepsBy_97 (v := 3) (by decide)) ?_
          refine And.imp_left (rs_isub i_X8_stepsBy_98) ?_
          by_cases c5 : (v3 + (3 * v6)) ≤ ((gI h 108 (ix v1)) - 3)
          · replace hf := (if_pos c5).symm.trans hf
            refine And.imp_left (rs_icT i_X8_stepsBy_99 (ct_le c5) (tg := 105) (by decide)) ?_
            refine And.imp_left (rs_bipush i_X8_stepsBy_105 (v := 40) (by decide)) ?_
            refine And.imp_left (rs_iload_n i_X8_stepsBy_107 rfl) ?_
            refine And.imp_left (rs_imul i_X8_stepsBy_108) ?_
            refine And.imp_left (rs_iload i_X8_stepsBy_109 rfl) ?_
            refine And.imp_left (rs_iadd i_X8_stepsBy_111) ?_
            refine And.imp_left (rs_istore i_X8_stepsBy_112 (Nat.le_of_ble_eq_true rfl) (lv' := [some (.ref 96), some (.int v1), some (.int d2), some (.int v3), some (.int v4), some (.int v5), some (.int v6), some (.int (v3 + (3 * v6))), some (.int ((40 * v1) + (v3 + (3 * v6))))]) rfl) ?_
            refine And.imp_left (rs_iload i_X8_stepsBy_114 rfl) ?_
            refine And.imp_left (rs_aload_n i_X8_stepsBy_116 rfl) ?_
            refine And.imp_left (rs_aload_n i_X8_stepsBy_117 rfl) ?_
            refine And.imp_left (rs_getR i_X8_stepsBy_118 (by decide) (by decide) (sO8 SH hh) (sR8_24 SH hh)) ?_
            refine And.imp_left (rs_iload i_X8_stepsBy_121 rfl) ?_
            obtain ⟨c6, hf⟩ := ite_some hf
            refine And.imp_left (rs_iald i_X8_stepsBy_123 (mkI (sA SH hh (k := 9) (n := 160) (by decide)) c6)) ?_
            refine And.imp_left (rs_aload_n i_X8_stepsBy_124 rfl) ?_
            refine And.imp_left (rs_getR i_X8_stepsBy_125 (by decide) (by decide) (sO8 SH hh) (sR8_24 SH hh)) ?_
            refine And.imp_left (rs_iload i_X8_stepsBy_128 rfl) ?_
            refine And.imp_left (rs_iconst i_X8_stepsBy_130 (v := 1) (by decide)) ?_
            refine And.imp_left (rs_iadd i_X8_stepsBy_131) ?_
            obtain ⟨c7, hf⟩ := ite_some hf
            refine And.imp_left (rs_iald i_X8_stepsBy_132 (mkI (sA SH hh (k := 9) (n := 160) (by decide)) c7)) ?_
            refine And.imp_left (rs_aload_n i_X8_stepsBy_133 rfl) ?_
            refine And.imp_left (rs_getR i_X8_stepsBy_134 (by decide) (by decide) (sO8 SH hh) (sR8_24 SH hh)) ?_
            refine And.imp_left (rs_iload i_X8_stepsBy_137 rfl) ?_
            refine And.imp_left (rs_iconst i_X8_stepsBy_139 (v := 2) (by decide)) ?_
            refine And.imp_left (rs_iadd i_X8_stepsBy_140) ?_
            obtain ⟨c8, hf⟩ := ite_some hf
            refine And.imp_left (rs_iald i_X8_stepsBy_141 (mkI (sA SH hh (k := 9) (n := 160) (by decide)) c8)) ?_
            obtain ⟨o9, e9, hf⟩ := bind_some hf
            obtain ⟨u9, SH2⟩ := k_X8_step (X := X) (d := d) (by omega) (by omega) SH e9
            refine And.imp_left (rs_inV i_X8_stepsBy_142 m_X8_step rfl (As := [.int (gI h 109 (ix ((40 * v1) + (v3 + (3 * v6))))), .int (gI h 109 (ix (((40 * v1) + (v3 + (3 * v6))) + 1))), .int (gI h 109 (ix (((40 * v1) + (v3 + (3 * v6))) + 2)))]) (rest := [.int v5]) rfl rfl (Nat.le_of_ble_eq_true rfl) (sO8 SH hh) u9 (st' := [.int o9.1, .int v5]) rfl) ?_
            clear SH; have SH := SH2; clear SH2
            by_cases c10 : o9.1 < 0
            · replace hf := (if_pos c10).symm.trans hf
              refine And.imp_left (rs_ifT i_X8_stepsBy_145 (ct_lt c10) (tg := 152) (by decide)) ?_
              refine And.imp_left (rs_iconst i_X8_stepsBy_152 (v := 0) (by decide)) ?_
              exact q_X8_stepsBy_153 hd hh ih SH hf
            · replace hf := (if_neg c10).symm.trans hf
              refine And.imp_left (rs_ifF i_X8_stepsBy_145 (cf_lt c10)) ?_
              refine And.imp_left (rs_iconst i_X8_stepsBy_148 (v := 1) (by decide)) ?_
              refine And.imp_left (rs_goto i_X8_stepsBy_149 (tg := 153) (by decide)) ?_
              exact q_X8_stepsBy_153 hd hh ih SH hf
          · replace hf := (if_neg c5).symm.trans hf
            refine And.imp_left (rs_icF i_X8_stepsBy_99 (cf_le c5)) ?_
            refine And.imp_left (rs_bipush i_X8_stepsBy_102 (v := (-12)) (by decide)) ?_
            have hf := Option.some.inj hf
            subst hf
            exact ⟨rs_iret i_X8_stepsBy_104 m_X8_stepsBy rfl, SH⟩
noncomputable def g_X8_stepsBy_0 (n : Nat) (v1 : Int32) (v2 : Int32) (v3 : Int32) (v4 : Int32) (h : Hp) : Option (Int32 × Hp) :=
  (g_X8_in v1 0 3 h).bind fun o1 =>
  if o1.1 = 0 then
    some ((-2), o1.2)
  else
    (g_X8_in v2 0 2 o1.2).bind fun o3 =>
    if o3.1 = 0 then
      some ((-2), o3.2)
    else
      (g_X8_in v4 0 12 o3.2).bind fun o5 =>
      if o5.1 ≠ 0 then
        if inb v1 4 = true then
        if (gI o5.2 107 (ix v1)) ≠ (-1) then
          if (gI o5.2 107 (ix v1)) = v2 then
            g_X8_stepsBy_64 n n v1 v3 v4 0 0 o5.2
          else
            some ((-13), o5.2)
        else
          some ((-11), o5.2)
        else none
      else
        some ((-2), o5.2)
set_option maxRecDepth 100000 in
set_option maxHeartbeats 4000000 in
theorem q_X8_stepsBy_0 {X : Nat → Int32} {d : Nat} (hd : 2 ≤ (d + 1)) {L hi : Nat} (hh : 125 ≤ hi) {n : Nat} {v1 : Int32} {v2 : Int32} {v3 : Int32} {v4 : Int32} {h : Hp} {o : (Int32 × Hp)}  (SH : SHP L hi h) (hf : g_X8_stepsBy_0 n v1 v2 v3 v4 h = some o) : Run X (d + 1) 216 0 [some (.ref 96), some (.int v1), some (.int v2), some (.int v3), some (.int v4), none, none, none, none] [] h (some (.int o.1), o.2) ∧ SHP L hi o.2 := by
  unfold g_X8_stepsBy_0 at hf
  refine And.imp_left (rs_iload_n i_X8_stepsBy_0 rfl) ?_
  refine And.imp_left (rs_iconst i_X8_stepsBy_1 (v := 0) (by decide)) ?_
  refine And.imp_left (rs_iconst i_X8_stepsBy_2 (v := 3) (by decide)) ?_
  obtain ⟨o1, e1, hf⟩ := bind_some hf
  obtain ⟨u1, SH2⟩ := k_X8_in (X := X) (d := d) (by omega) (by omega) SH e1
  refine And.imp_left (rs_inS i_X8_stepsBy_3 (by decide) m_X8_in rfl (As := [.int v1, .int 0, .int 3]) (rest := []) rfl rfl (Nat.le_of_ble_eq_true rfl) u1 (st' := [.int o1.1]) rfl) ?_
  clear SH; have SH := SH2; clear SH2
  by_cases c2 : o1.1 = 0
  · replace hf := (if_pos c2).symm.trans hf
    refine And.imp_left (rs_ifT i_X8_stepsBy_6 (ct_eq c2) (tg := 29) (by decide)) ?_
    refine And.imp_left (rs_bipush i_X8_stepsBy_29 (v := (-2)) (by decide)) ?_
    have hf := Option.some.inj hf
    subst hf
    exact ⟨rs_iret i_X8_stepsBy_31 m_X8_stepsBy rfl, SH⟩
  · replace hf := (if_neg c2).symm.trans hf
    refine And.imp_left (rs_ifF i_X8_stepsBy_6 (cf_eq c2)) ?_
    refine And.imp_left (rs_iload_n i_X8_stepsBy_9 rfl) ?_
    refine And.imp_left (rs_iconst i_X8_stepsBy_10 (v := 0) (by decide)) ?_
    refine And.imp_left (rs_iconst i_X8_stepsBy_11 (v := 2) (by decide)) ?_
    obtain ⟨o3, e3, hf⟩ := bind_some hf
    obtain ⟨u3, SH2⟩ := k_X8_in (X := X) (d := d) (by omega) (by omega) SH e3
    refine And.imp_left (rs_inS i_X8_stepsBy_12 (by decide) m_X8_in rfl (As := [.int v2, .int 0, .int 2]) (rest := []) rfl rfl (Nat.le_of_ble_eq_true rfl) u3 (st' := [.int o3.1]) rfl) ?_
    clear SH; have SH := SH2; clear SH2
    by_cases c4 : o3.1 = 0
    · replace hf := (if_pos c4).symm.trans hf
      refine And.imp_left (rs_ifT i_X8_stepsBy_15 (ct_eq c4) (tg := 29) (by decide)) ?_
      refine And.imp_left (rs_bipush i_X8_stepsBy_29 (v := (-2)) (by decide)) ?_
      have hf := Option.some.inj hf
      subst hf
      exact ⟨rs_iret i_X8_stepsBy_31 m_X8_stepsBy rfl, SH⟩
    · replace hf := (if_neg c4).symm.trans hf
      refine And.imp_left (rs_ifF i_X8_stepsBy_15 (cf_eq c4)) ?_
      refine And.imp_left (rs_iload i_X8_stepsBy_18 rfl) ?_
      refine And.imp_left (rs_iconst i_X8_stepsBy_20 (v := 0) (by decide)) ?_
      refine And.imp_left (rs_bipush i_X8_stepsBy_21 (v := 12) (by decide)) ?_
      obtain ⟨o5, e5, hf⟩ := bind_some hf
      obtain ⟨u5, SH2⟩ := k_X8_in (X := X) (d := d) (by omega) (by omega) SH e5
      refine And.imp_left (rs_inS i_X8_stepsBy_23 (by decide) m_X8_in rfl (As := [.int v4, .int 0, .int 12]) (rest := []) rfl rfl (Nat.le_of_ble_eq_true rfl) u5 (st' := [.int o5.1]) rfl) ?_
      clear SH; have SH := SH2; clear SH2
      by_cases c6 : o5.1 ≠ 0
      · replace hf := (if_pos c6).symm.trans hf
        refine And.imp_left (rs_ifT i_X8_stepsBy_26 (ct_ne c6) (tg := 32) (by decide)) ?_
        refine And.imp_left (rs_aload_n i_X8_stepsBy_32 rfl) ?_
        refine And.imp_left (rs_getR i_X8_stepsBy_33 (by decide) (by decide) (sO8 SH hh) (sR8_22 SH hh)) ?_
        refine And.imp_left (rs_iload_n i_X8_stepsBy_36 rfl) ?_
        obtain ⟨c7, hf⟩ := ite_some hf
        refine And.imp_left (rs_iald i_X8_stepsBy_37 (mkI (sA SH hh (k := 9) (n := 4) (by decide)) c7)) ?_
        refine And.imp_left (rs_iconst i_X8_stepsBy_38 (v := (-1)) (by decide)) ?_
        by_cases c8 : (gI o5.2 107 (ix v1)) ≠ (-1)
        · replace hf := (if_pos c8).symm.trans hf
          refine And.imp_left (rs_icT i_X8_stepsBy_39 (ct_ne c8) (tg := 45) (by decide)) ?_
          refine And.imp_left (rs_aload_n i_X8_stepsBy_45 rfl) ?_
          refine And.imp_left (rs_getR i_X8_stepsBy_46 (by decide) (by decide) (sO8 SH hh) (sR8_22 SH hh)) ?_
          refine And.imp_left (rs_iload_n i_X8_stepsBy_49 rfl) ?_
          refine And.imp_left (rs_iald i_X8_stepsBy_50 (mkI (sA SH hh (k := 9) (n := 4) (by decide)) c7)) ?_
          refine And.imp_left (rs_iload_n i_X8_stepsBy_51 rfl) ?_
          by_cases c9 : (gI o5.2 107 (ix v1)) = v2
          · replace hf := (if_pos c9).symm.trans hf
            refine And.imp_left (rs_icT i_X8_stepsBy_52 (ct_eq c9) (tg := 58) (by decide)) ?_
            refine And.imp_left (rs_iconst i_X8_stepsBy_58 (v := 0) (by decide)) ?_
            refine And.imp_left (rs_istore i_X8_stepsBy_59 (Nat.le_of_ble_eq_true rfl) (lv' := [some (.ref 96), some (.int v1), some (.int v2), some (.int v3), some (.int v4), some (.int 0), none, none, none]) rfl) ?_
            refine And.imp_left (rs_iconst i_X8_stepsBy_61 (v := 0) (by decide)) ?_
            refine And.imp_left (rs_istore i_X8_stepsBy_62 (Nat.le_of_ble_eq_true rfl) (lv' := [some (.ref 96), some (.int v1), some (.int v2), some (.int v3), some (.int v4), some (.int 0), some (.int 0), none, none]) rfl) ?_
            exact q_X8_stepsBy_64 hd hh _ _ _ _ _ _ _ _ _ _ _ SH hf
          · replace hf := (if_neg c9).symm.trans hf
            refine And.imp_left (rs_icF i_X8_stepsBy_52 (cf_eq c9)) ?_
            refine And.imp_left (rs_bipush i_X8_stepsBy_55 (v := (-13)) (by decide)) ?_
            have hf := Option.some.inj hf
            subst hf
            exact ⟨rs_iret i_X8_stepsBy_57 m_X8_stepsBy rfl, SH⟩
        · replace hf := (if_neg c8).symm.trans hf
          refine And.imp_left (rs_icF i_X8_stepsBy_39 (cf_ne c8)) ?_
          refine And.imp_left (rs_bipush i_X8_stepsBy_42 (v := (-11)) (by decide)) ?_
          have hf := Option.some.inj hf
          subst hf
          exact ⟨rs_iret i_X8_stepsBy_44 m_X8_stepsBy rfl, SH⟩
      · replace hf := (if_neg c6).symm.trans hf
        refine And.imp_left (rs_ifF i_X8_stepsBy_26 (cf_ne c6)) ?_
        refine And.imp_left (rs_bipush i_X8_stepsBy_29 (v := (-2)) (by decide)) ?_
        have hf := Option.some.inj hf
        subst hf
        exact ⟨rs_iret i_X8_stepsBy_31 m_X8_stepsBy rfl, SH⟩
noncomputable def g_X8_stepsBy (n : Nat) (v1 : Int32) (v2 : Int32) (v3 : Int32) (v4 : Int32) (h : Hp) : Option (Int32 × Hp) := g_X8_stepsBy_0 n v1 v2 v3 v4 h
theorem k_X8_stepsBy {X : Nat → Int32} {d : Nat} (hd : 2 ≤ d) {L hi : Nat} (hh : 125 ≤ hi) {n : Nat} {v1 : Int32} {v2 : Int32} {v3 : Int32} {v4 : Int32} {h : Hp} {o : (Int32 × Hp)}  (SH : SHP L hi h) (hf : g_X8_stepsBy n v1 v2 v3 v4 h = some o) : Calls X d 216 [.ref 96, .int v1, .int v2, .int v3, .int v4] h (some (.int o.1), o.2) ∧ SHP L hi o.2 := by
  obtain ⟨d, rfl⟩ : ∃ z, d = z + 1 := ⟨d - 1, by omega⟩
  obtain ⟨r, S2⟩ := q_X8_stepsBy_0 hd hh SH hf
  exact ⟨⟨_, rfl, r⟩, S2⟩
noncomputable def g_X8_isUnder_29  (h : Hp) : Option (Int32 × Hp) :=
  some (1, h)
set_option maxRecDepth 100000 in
set_option maxHeartbeats 4000000 in
theorem q_X8_isUnder_29 {X : Nat → Int32} {d : Nat} (hd : 0 ≤ d) {L hi : Nat} (hh : 125 ≤ hi) {d0 : Int32} {d1 : Int32} {h : Hp} {o : (Int32 × Hp)}  (SH : SHP L hi h) (hf : g_X8_isUnder_29 h = some o) : Run X d 217 29 [some (.int d0), some (.int d1)] [] h (some (.int o.1), o.2) ∧ SHP L hi o.2 := by
  unfold g_X8_isUnder_29 at hf
  refine And.imp_left (rs_iconst i_X8_isUnder_29 (v := 1) (by decide)) ?_
  refine And.imp_left (rs_goto i_X8_isUnder_30 (tg := 34) (by decide)) ?_
  have hf := Option.some.inj hf
  subst hf
  exact ⟨rs_iret i_X8_isUnder_34 m_X8_isUnder (by decide), SH⟩
noncomputable def g_X8_isUnder_19 (v0 : Int32) (v1 : Int32) (h : Hp) : Option (Int32 × Hp) :=
  if v1 ≠ 3 then
    some (0, h)
  else
    if v0 ≠ 5 then
      some (0, h)
    else
      g_X8_isUnder_29 h
set_option maxRecDepth 100000 in
set_option maxHeartbeats 4000000 in
theorem q_X8_isUnder_19 {X : Nat → Int32} {d : Nat} (hd : 0 ≤ d) {L hi : Nat} (hh : 125 ≤ hi) {v0 : Int32} {v1 : Int32} {h : Hp} {o : (Int32 × Hp)}  (SH : SHP L hi h) (hf : g_X8_isUnder_19 v0 v1 h = some o) : Run X d 217 19 [some (.int v0), some (.int v1)] [] h (some (.int o.1), o.2) ∧ SHP L hi o.2 := by
  unfold g_X8_isUnder_19 at hf
  refine And.imp_left (rs_iload_n i_X8_isUnder_19 rfl) ?_
  refine And.imp_left (rs_iconst i_X8_isUnder_20 (v := 3) (by decide)) ?_
  by_cases c1 : v1 ≠ 3
  · replace hf := (if_pos c1).symm.trans hf
    refine And.imp_left (rs_icT i_X8_isUnder_21 (ct_ne c1) (tg := 33) (by decide)) ?_
    refine And.imp_left (rs_iconst i_X8_isUnder_33 (v := 0) (by decide)) ?_
    have hf := Option.some.inj hf
    subst hf
    exact ⟨rs_iret i_X8_isUnder_34 m_X8_isUnder (by decide), SH⟩
  · replace hf := (if_neg c1).symm.trans hf
    refine And.imp_left (rs_icF i_X8_isUnder_21 (cf_ne c1)) ?_
    refine And.imp_left (rs_iload_n i_X8_isUnder_24 rfl) ?_
    refine And.imp_left (rs_iconst i_X8_isUnder_25 (v := 5) (by decide)) ?_
    by_cases c2 : v0 ≠ 5
    · replace hf := (if_pos c2).symm.trans hf
      refine And.imp_left (rs_icT i_X8_isUnder_26 (ct_ne c2) (tg := 33) (by decide)) ?_
      refine And.imp_left (rs_iconst i_X8_isUnder_33 (v := 0) (by decide)) ?_
      have hf := Option.some.inj hf
      subst hf
      exact ⟨rs_iret i_X8_isUnder_34 m_X8_isUnder (by decide), SH⟩
    · replace hf := (if_neg c2).symm.trans hf
      refine And.imp_left (rs_icF i_X8_isUnder_26 (cf_ne c2)) ?_
      exact q_X8_isUnder_29 hd hh SH hf
noncomputable def g_X8_isUnder_0 (v0 : Int32) (v1 : Int32) (h : Hp) : Option (Int32 × Hp) :=
  if v1 = 0 then
    g_X8_isUnder_29 h
  else
    if v0 = v1 then
      g_X8_isUnder_29 h
    else
      if v1 ≠ 1 then
        g_X8_isUnder_19 v0 v1 h
      else
        if v0 = 2 then
          g_X8_isUnder_29 h
        else
          g_X8_isUnder_19 v0 v1 h
set_option maxRecDepth 100000 in
set_option maxHeartbeats 4000000 in
theorem q_X8_isUnder_0 {X : Nat → Int32} {d : Nat} (hd : 0 ≤ d) {L hi : Nat} (hh : 125 ≤ hi) {v0 : Int32} {v1 : Int32} {h : Hp} {o : (Int32 × Hp)}  (SH : SHP L hi h) (hf : g_X8_isUnder_0 v0 v1 h = some o) : Run X d 217 0 [some (.int v0), some (.int v1)] [] h (some (.int o.1), o.2) ∧ SHP L hi o.2 := by
  unfold g_X8_isUnder_0 at hf
  refine And.imp_left (rs_iload_n i_X8_isUnder_0 rfl) ?_
  by_cases c1 : v1 = 0
  · replace hf := (if_pos c1).symm.trans hf
    refine And.imp_left (rs_ifT i_X8_isUnder_1 (ct_eq c1) (tg := 29) (by decide)) ?_
    exact q_X8_isUnder_29 hd hh SH hf
  · replace hf := (if_neg c1).symm.trans hf
    refine And.imp_left (rs_ifF i_X8_isUnder_1 (cf_eq c1)) ?_
    refine And.imp_left (rs_iload_n i_X8_isUnder_4 rfl) ?_
    refine And.imp_left (rs_iload_n i_X8_isUnder_5 rfl) ?_
    by_cases c2 : v0 = v1
    · replace hf := (if_pos c2).symm.trans hf
      refine And.imp_left (rs_icT i_X8_isUnder_6 (ct_eq c2) (tg := 29) (by decide)) ?_
      exact q_X8_isUnder_29 hd hh SH hf
    · replace hf := (if_neg c2).symm.trans hf
      refine And.imp_left (rs_icF i_X8_isUnder_6 (cf_eq c2)) ?_
      refine And.imp_left (rs_iload_n i_X8_isUnder_9 rfl) ?_
      refine And.imp_left (rs_iconst i_X8_isUnder_10 (v := 1) (by decide)) ?_
      by_cases c3 : v1 ≠ 1
      · replace hf := (if_pos c3).symm.trans hf
        refine And.imp_left (rs_icT i_X8_isUnder_11 (ct_ne c3) (tg := 19) (by decide)) ?_
        exact q_X8_isUnder_19 hd hh SH hf
      · replace hf := (if_neg c3).symm.trans hf
        refine And.imp_left (rs_icF i_X8_isUnder_11 (cf_ne c3)) ?_
        refine And.imp_left (rs_iload_n i_X8_isUnder_14 rfl) ?_
        refine And.imp_left (rs_iconst i_X8_isUnder_15 (v := 2) (by decide)) ?_
        by_cases c4 : v0 = 2
        · replace hf := (if_pos c4).symm.trans hf
          refine And.imp_left (rs_icT i_X8_isUnder_16 (ct_eq c4) (tg := 29) (by decide)) ?_
          exact q_X8_isUnder_29 hd hh SH hf
        · replace hf := (if_neg c4).symm.trans hf
          refine And.imp_left (rs_icF i_X8_isUnder_16 (cf_eq c4)) ?_
          exact q_X8_isUnder_19 hd hh SH hf
noncomputable def g_X8_isUnder (v0 : Int32) (v1 : Int32) (h : Hp) : Option (Int32 × Hp) := g_X8_isUnder_0 v0 v1 h
theorem k_X8_isUnder {X : Nat → Int32} {d : Nat} (hd : 0 ≤ d) {L hi : Nat} (hh : 125 ≤ hi) {v0 : Int32} {v1 : Int32} {h : Hp} {o : (Int32 × Hp)}  (SH : SHP L hi h) (hf : g_X8_isUnder v0 v1 h = some o) : Calls X d 217 [.int v0, .int v1] h (some (.int o.1), o.2) ∧ SHP L hi o.2 := by
  obtain ⟨r, S2⟩ := q_X8_isUnder_0 hd hh SH hf
  exact ⟨⟨_, rfl, r⟩, S2⟩
noncomputable def g_X8_taken_0 (v1 : Int32) (v2 : Int32) (h : Hp) : Option (Int32 × Hp) :=
  (g_X8_in v2 0 6 h).bind fun o1 =>
  if o1.1 ≠ 0 then
    (g_X8_in v1 0 23 o1.2).bind fun o3 =>
    if o3.1 ≠ 0 then
      if 12 ≤ v1 then
        if (v1 - 12) < (gI o3.2 96 5) then
          if 6 ≤ v2 then
            some ((-13), o3.2)
          else
            if inb (v1 - 12) 12 = true then
            (g_X8_isUnder (gI o3.2 99 (ix (v1 - 12))) v2 o3.2).bind fun o9 =>
            if o9.1 = 0 then
              some ((-13), o9.2)
            else
              some ((v1 - 12), o9.2)
            else none
        else
          some ((-11), o3.2)
      else
        if v2 ≠ 6 then
          some ((-13), o3.2)
        else
          if inb v1 12 = true then
          some ((gI o3.2 97 (ix v1)), o3.2)
          else none
    else
      some ((-12), o3.2)
  else
    some ((-2), o1.2)
set_option maxRecDepth 100000 in
set_option maxHeartbeats 4000000 in
theorem q_X8_taken_0 {X : Nat → Int32} {d : Nat} (hd : 1 ≤ (d + 1)) {L hi : Nat} (hh : 125 ≤ hi) {v1 : Int32} {v2 : Int32} {h : Hp} {o : (Int32 × Hp)}  (SH : SHP L hi h) (hf : g_X8_taken_0 v1 v2 h = some o) : Run X (d + 1) 218 0 [some (.ref 96), some (.int v1), some (.int v2)] [] h (some (.int o.1), o.2) ∧ SHP L hi o.2 := by
  unfold g_X8_taken_0 at hf
  refine And.imp_left (rs_iload_n i_X8_taken_0 rfl) ?_
  refine And.imp_left (rs_iconst i_X8_taken_1 (v := 0) (by decide)) ?_
  refine And.imp_left (rs_bipush i_X8_taken_2 (v := 6) (by decide)) ?_
  obtain ⟨o1, e1, hf⟩ := bind_some hf
  obtain ⟨u1, SH2⟩ := k_X8_in (X := X) (d := d) (by omega) (by omega) SH e1
  refine And.imp_left (rs_inS i_X8_taken_4 (by decide) m_X8_in rfl (As := [.int v2, .int 0, .int 6]) (rest := []) rfl rfl (Nat.le_of_ble_eq_true rfl) u1 (st' := [.int o1.1]) rfl) ?_
  clear SH; have SH := SH2; clear SH2
  by_cases c2 : o1.1 ≠ 0
  · replace hf := (if_pos c2).symm.trans hf
    refine And.imp_left (rs_ifT i_X8_taken_7 (ct_ne c2) (tg := 13) (by decide)) ?_
    refine And.imp_left (rs_iload_n i_X8_taken_13 rfl) ?_
    refine And.imp_left (rs_iconst i_X8_taken_14 (v := 0) (by decide)) ?_
    refine And.imp_left (rs_bipush i_X8_taken_15 (v := 23) (by decide)) ?_
    obtain ⟨o3, e3, hf⟩ := bind_some hf
    obtain ⟨u3, SH2⟩ := k_X8_in (X := X) (d := d) (by omega) (by omega) SH e3
    refine And.imp_left (rs_inS i_X8_taken_17 (by decide) m_X8_in rfl (As := [.int v1, .int 0, .int 23]) (rest := []) rfl rfl (Nat.le_of_ble_eq_true rfl) u3 (st' := [.int o3.1]) rfl) ?_
    clear SH; have SH := SH2; clear SH2
    by_cases c4 : o3.1 ≠ 0
    · replace hf := (if_pos c4).symm.trans hf
      refine And.imp_left (rs_ifT i_X8_taken_20 (ct_ne c4) (tg := 26) (by decide)) ?_
      refine And.imp_left (rs_iload_n i_X8_taken_26 rfl) ?_
      refine And.imp_left (rs_bipush i_X8_taken_27 (v := 12) (by decide)) ?_
      by_cases c5 : 12 ≤ v1
      · replace hf := (if_pos c5).symm.trans hf
        refine And.imp_left (rs_icT i_X8_taken_29 (ct_ge c5) (tg := 50) (by decide)) ?_
        refine And.imp_left (rs_iload_n i_X8_taken_50 rfl) ?_
        refine And.imp_left (rs_bipush i_X8_taken_51 (v := 12) (by decide)) ?_
        refine And.imp_left (rs_isub i_X8_taken_53) ?_
        refine And.imp_left (rs_aload_n i_X8_taken_54 rfl) ?_
        refine And.imp_left (rs_getI i_X8_taken_55 (by decide) (by decide) (sO8 SH hh)) ?_
        by_cases c6 : (v1 - 12) < (gI o3.2 96 5)
        · replace hf := (if_pos c6).symm.trans hf
          refine And.imp_left (rs_icT i_X8_taken_58 (ct_lt c6) (tg := 66) (by decide)) ?_
          refine And.imp_left (rs_iload_n i_X8_taken_66 rfl) ?_
          refine And.imp_left (rs_bipush i_X8_taken_67 (v := 6) (by decide)) ?_
          by_cases c7 : 6 ≤ v2
          · replace hf := (if_pos c7).symm.trans hf
            refine And.imp_left (rs_icT i_X8_taken_69 (ct_ge c7) (tg := 95) (by decide)) ?_
            refine And.imp_left (rs_bipush i_X8_taken_95 (v := (-13)) (by decide)) ?_
            have hf := Option.some.inj hf
            subst hf
            exact ⟨rs_iret i_X8_taken_97 m_X8_taken rfl, SH⟩
          · replace hf := (if_neg c7).symm.trans hf
            refine And.imp_left (rs_icF i_X8_taken_69 (cf_ge c7)) ?_
            refine And.imp_left (rs_aload_n i_X8_taken_72 rfl) ?_
            refine And.imp_left (rs_getR i_X8_taken_73 (by decide) (by decide) (sO8 SH hh) (sR8_6 SH hh)) ?_
            refine And.imp_left (rs_iload_n i_X8_taken_76 rfl) ?_
            refine And.imp_left (rs_bipush i_X8_taken_77 (v := 12) (by decide)) ?_
            refine And.imp_left (rs_isub i_X8_taken_79) ?_
            obtain ⟨c8, hf⟩ := ite_some hf
            refine And.imp_left (rs_iald i_X8_taken_80 (mkI (sA SH hh (k := 9) (n := 12) (by decide)) c8)) ?_
            refine And.imp_left (rs_iload_n i_X8_taken_81 rfl) ?_
            obtain ⟨o9, e9, hf⟩ := bind_some hf
            obtain ⟨u9, SH2⟩ := k_X8_isUnder (X := X) (d := d) (by omega) (by omega) SH e9
            refine And.imp_left (rs_inS i_X8_taken_82 (by decide) m_X8_isUnder rfl (As := [.int (gI o3.2 99 (ix (v1 - 12))), .int v2]) (rest := []) rfl rfl (Nat.le_of_ble_eq_true rfl) u9 (st' := [.int o9.1]) rfl) ?_
            clear SH; have SH := SH2; clear SH2
            by_cases c10 : o9.1 = 0
            · replace hf := (if_pos c10).symm.trans hf
              refine And.imp_left (rs_ifT i_X8_taken_85 (ct_eq c10) (tg := 95) (by decide)) ?_
              refine And.imp_left (rs_bipush i_X8_taken_95 (v := (-13)) (by decide)) ?_
              have hf := Option.some.inj hf
              subst hf
              exact ⟨rs_iret i_X8_taken_97 m_X8_taken rfl, SH⟩
            · replace hf := (if_neg c10).symm.trans hf
              refine And.imp_left (rs_ifF i_X8_taken_85 (cf_eq c10)) ?_
              refine And.imp_left (rs_iload_n i_X8_taken_88 rfl) ?_
              refine And.imp_left (rs_bipush i_X8_taken_89 (v := 12) (by decide)) ?_
              refine And.imp_left (rs_isub i_X8_taken_91) ?_
              refine And.imp_left (rs_goto i_X8_taken_92 (tg := 97) (by decide)) ?_
              have hf := Option.some.inj hf
              subst hf
              exact ⟨rs_iret i_X8_taken_97 m_X8_taken rfl, SH⟩
        · replace hf := (if_neg c6).symm.trans hf
          refine And.imp_left (rs_icF i_X8_taken_58 (cf_lt c6)) ?_
          refine And.imp_left (rs_bipush i_X8_taken_61 (v := (-11)) (by decide)) ?_
          refine And.imp_left (rs_goto i_X8_taken_63 (tg := 97) (by decide)) ?_
          have hf := Option.some.inj hf
          subst hf
          exact ⟨rs_iret i_X8_taken_97 m_X8_taken rfl, SH⟩
      · replace hf := (if_neg c5).symm.trans hf
        refine And.imp_left (rs_icF i_X8_taken_29 (cf_ge c5)) ?_
        refine And.imp_left (rs_iload_n i_X8_taken_32 rfl) ?_
        refine And.imp_left (rs_bipush i_X8_taken_33 (v := 6) (by decide)) ?_
        by_cases c11 : v2 ≠ 6
        · replace hf := (if_pos c11).symm.trans hf
          refine And.imp_left (rs_icT i_X8_taken_35 (ct_ne c11) (tg := 47) (by decide)) ?_
          refine And.imp_left (rs_bipush i_X8_taken_47 (v := (-13)) (by decide)) ?_
          have hf := Option.some.inj hf
          subst hf
          exact ⟨rs_iret i_X8_taken_49 m_X8_taken rfl, SH⟩
        · replace hf := (if_neg c11).symm.trans hf
          refine And.imp_left (rs_icF i_X8_taken_35 (cf_ne c11)) ?_
          refine And.imp_left (rs_aload_n i_X8_taken_38 rfl) ?_
          refine And.imp_left (rs_getR i_X8_taken_39 (by decide) (by decide) (sO8 SH hh) (sR8_0 SH hh)) ?_
          refine And.imp_left (rs_iload_n i_X8_taken_42 rfl) ?_
          obtain ⟨c12, hf⟩ := ite_some hf
          refine And.imp_left (rs_iald i_X8_taken_43 (mkI (sA SH hh (k := 9) (n := 12) (by decide)) c12)) ?_
          refine And.imp_left (rs_goto i_X8_taken_44 (tg := 49) (by decide)) ?_
          have hf := Option.some.inj hf
          subst hf
          exact ⟨rs_iret i_X8_taken_49 m_X8_taken rfl, SH⟩
    · replace hf := (if_neg c4).symm.trans hf
      refine And.imp_left (rs_ifF i_X8_taken_20 (cf_ne c4)) ?_
      refine And.imp_left (rs_bipush i_X8_taken_23 (v := (-12)) (by decide)) ?_
      have hf := Option.some.inj hf
      subst hf
      exact ⟨rs_iret i_X8_taken_25 m_X8_taken rfl, SH⟩
  · replace hf := (if_neg c2).symm.trans hf
    refine And.imp_left (rs_ifF i_X8_taken_7 (cf_ne c2)) ?_
    refine And.imp_left (rs_bipush i_X8_taken_10 (v := (-2)) (by decide)) ?_
    have hf := Option.some.inj hf
    subst hf
    exact ⟨rs_iret i_X8_taken_12 m_X8_taken rfl, SH⟩
noncomputable def g_X8_taken (v1 : Int32) (v2 : Int32) (h : Hp) : Option (Int32 × Hp) := g_X8_taken_0 v1 v2 h
theorem k_X8_taken {X : Nat → Int32} {d : Nat} (hd : 1 ≤ d) {L hi : Nat} (hh : 125 ≤ hi) {v1 : Int32} {v2 : Int32} {h : Hp} {o : (Int32 × Hp)}  (SH : SHP L hi h) (hf : g_X8_taken v1 v2 h = some o) : Calls X d 218 [.ref 96, .int v1, .int v2] h (some (.int o.1), o.2) ∧ SHP L hi o.2 := by
  obtain ⟨d, rfl⟩ : ∃ z, d = z + 1 := ⟨d - 1, by omega⟩
  obtain ⟨r, S2⟩ := q_X8_taken_0 hd hh SH hf
  exact ⟨⟨_, rfl, r⟩, S2⟩
noncomputable def g_L_law_1769 (X : Nat → Int32) (L : Nat) (n : Nat) (K18 : Int32 → Hp → Option (Int32 × Hp)) (v3 : Int32) (h : Hp) : Option (Int32 × Hp) :=
  K18 (v3 + 6) h
set_option maxRecDepth 100000 in
set_option maxHeartbeats 4000000 in
theorem q_L_law_1769 {X : Nat → Int32} {d : Nat} (hd : 110 ≤ (d + 1)) {L hi : Nat} (hh : 125 ≤ hi) {n : Nat} {K18 : Int32 → Hp → Option (Int32 × Hp)} (HK18 : ∀ (v3 : Int32) (h : Hp) (o : (Int32 × Hp)), SHP L hi h → K18 v3 h = some o → Run X (d + 1) 0 18 [some (.ref 14), some (.ref 16), some (.ref 96), some (.int v3)] [] h (some (.int o.1), o.2) ∧ SHP L hi o.2) {v3 : Int32} {h : Hp} {o : (Int32 × Hp)}  (SH : SHP L hi h) (hf : g_L_law_1769 X L n K18 v3 h = some o) : Run X (d + 1) 0 1769 [some (.ref 14), some (.ref 16), some (.ref 96), some (.int v3)] [] h (some (.int o.1), o.2) ∧ SHP L hi o.2 := by
  unfold g_L_law_1769 at hf
  refine And.imp_left (rs_iinc i_L_law_1769 rfl (v := v3 + 6) rfl (Nat.le_of_ble_eq_true rfl) (lv' := [some (.ref 14), some (.ref 16), some (.ref 96), some (.int (v3 + 6))]) rfl) ?_
  refine And.imp_left (rs_goto i_L_law_1772 (tg := 18) (by decide)) ?_
  exact HK18 _ _ _ SH hf
noncomputable def g_L_law_18 (X : Nat → Int32) (L : Nat) (n : Nat) : Nat → Int32 → Hp → Option (Int32 × Hp)
  | 0, _, _ => none
  | m + 1, v3, h =>
    if ((Int32.ofNat L) - 6) < v3 then
      some (1, h)
    else
      if inb v3 L = true then
      if ((X (ix v3)) &&& 63) = 0 then
        if inb (v3 + 1) L = true then
        if inb (v3 + 2) L = true then
        if inb (v3 + 3) L = true then
        (g_X7_roll (X (ix (v3 + 1))) (X (ix (v3 + 2))) (X (ix (v3 + 3))) h).bind fun o228 =>
        (g_X8_roll (X (ix (v3 + 1))) (X (ix (v3 + 2))) (X (ix (v3 + 3))) o228.2).bind fun o229 =>
        g_L_law_1769 X L n (g_L_law_18 X L n m) v3 o229.2
        else none
        else none
        else none
      else
        if ((X (ix v3)) &&& 63) = 1 then
          if inb (v3 + 1) L = true then
          if inb (v3 + 2) L = true then
          (g_X7_set (X (ix (v3 + 1))) (X (ix (v3 + 2))) h).bind fun o223 =>
          (g_X8_set (X (ix (v3 + 1))) (X (ix (v3 + 2))) o223.2).bind fun o224 =>
          g_L_law_1769 X L n (g_L_law_18 X L n m) v3 o224.2
          else none
          else none
        else
          if ((X (ix v3)) &&& 63) = 2 then
            if inb (v3 + 1) L = true then
            (g_X7_count (X (ix (v3 + 1))) h).bind fun o219 =>
            (g_X8_count (X (ix (v3 + 1))) o219.2).bind fun o220 =>
            g_L_law_1769 X L n (g_L_law_18 X L n m) v3 o220.2
            else none
          else
            if ((X (ix v3)) &&& 63) = 3 then
              if inb (v3 + 1) L = true then
              if inb (v3 + 2) L = true then
              if inb (v3 + 3) L = true then
              (g_X7_feed n (((Int32.toInt64 (X (ix (v3 + 1)))) <<< (Int32.toInt64 32 &&& 63)) ||| ((Int32.toInt64 (X (ix (v3 + 2)))) &&& 4294967295)) (X (ix (v3 + 3))) h).bind fun o216 =>
              (g_X8_feed n (((Int32.toInt64 (X (ix (v3 + 1)))) <<< (Int32.toInt64 32 &&& 63)) ||| ((Int32.toInt64 (X (ix (v3 + 2)))) &&& 4294967295)) (X (ix (v3 + 3))) o216.2).bind fun o217 =>
              g_L_law_1769 X L n (g_L_law_18 X L n m) v3 o217.2
              else none
              else none
              else none
            else
              if ((X (ix v3)) &&& 63) = 4 then
                (g_X7_text n h).bind fun o211 =>
                (g_X8_text n o211.2).bind fun o212 =>
                g_L_law_1769 X L n (g_L_law_18 X L n m) v3 o212.2
              else
                if ((X (ix v3)) &&& 63) = 5 then
                  if inb (v3 + 1) L = true then
                  (g_X7_force (X (ix (v3 + 1))) h).bind fun o209 =>
                  (g_X8_force (X (ix (v3 + 1))) o209.2).bind fun o210 =>
                  g_L_law_1769 X L n (g_L_law_18 X L n m) v3 o210.2
                  else none
                else
                  if ((X (ix v3)) &&& 63) = 6 then
                    if inb (v3 + 1) L = true then
                    if inb (v3 + 2) L = true then
                    if inb (v3 + 3) L = true then
                    (g_X7_step (X (ix (v3 + 1))) (X (ix (v3 + 2))) (X (ix (v3 + 3))) h).bind fun o206 =>
                    (g_X8_step (X (ix (v3 + 1))) (X (ix (v3 + 2))) (X (ix (v3 + 3))) o206.2).bind fun o207 =>
                    g_L_law_1769 X L n (g_L_law_18 X L n m) v3 o207.2
                    else none
                    else none
                    else none
                  else
                    if ((X (ix v3)) &&& 63) = 7 then
                      (g_X7_forget h).bind fun o201 =>
                      (g_X8_forget o201.2).bind fun o202 =>
                      g_L_law_1769 X L n (g_L_law_18 X L n m) v3 o202.2
                    else
                      if ((X (ix v3)) &&& 63) = 8 then
                        if inb (v3 + 1) L = true then
                        if inb (v3 + 2) L = true then
                        (g_X7_stepTold (X (ix (v3 + 1))) (X (ix (v3 + 2))) h).bind fun o199 =>
                        (g_X8_stepTold (X (ix (v3 + 1))) (X (ix (v3 + 2))) o199.2).bind fun o200 =>
                        g_L_law_1769 X L n (g_L_law_18 X L n m) v3 o200.2
                        else none
                        else none
                      else
                        if ((X (ix v3)) &&& 63) = 9 then
                          if inb (v3 + 1) L = true then
                          if inb (v3 + 2) L = true then
                          if inb (v3 + 3) L = true then
                          (g_X7_rope n (X (ix (v3 + 1))) (X (ix (v3 + 2))) (X (ix (v3 + 3))) h).bind fun o195 =>
                          (g_X8_rope n (X (ix (v3 + 1))) (X (ix (v3 + 2))) (X (ix (v3 + 3))) o195.2).bind fun o196 =>
                          g_L_law_1769 X L n (g_L_law_18 X L n m) v3 o196.2
                          else none
                          else none
                          else none
                        else
                          if ((X (ix v3)) &&& 63) = 10 then
                            if inb (v3 + 1) L = true then
                            if inb (v3 + 2) L = true then
                            (g_X7_state n (X (ix (v3 + 1))) (X (ix (v3 + 2))) h).bind fun o190 =>
                            (g_X8_state n (X (ix (v3 + 1))) (X (ix (v3 + 2))) o190.2).bind fun o191 =>
                            g_L_law_1769 X L n (g_L_law_18 X L n m) v3 o191.2
                            else none
                            else none
                          else
                            if ((X (ix v3)) &&& 63) = 11 then
                              if inb (v3 + 1) L = true then
                              if inb (v3 + 2) L = true then
                              (g_X7_whole n (X (ix (v3 + 1))) (X (ix (v3 + 2))) h).bind fun o186 =>
                              (g_X8_whole n (X (ix (v3 + 1))) (X (ix (v3 + 2))) o186.2).bind fun o187 =>
                              g_L_law_1769 X L n (g_L_law_18 X L n m) v3 o187.2
                              else none
                              else none
                            else
                              if ((X (ix v3)) &&& 63) = 12 then
                                if inb (v3 + 1) L = true then
                                (g_X7_stop n (X (ix (v3 + 1))) h).bind fun o182 =>
                                (g_X8_stop n (X (ix (v3 + 1))) o182.2).bind fun o183 =>
                                g_L_law_1769 X L n (g_L_law_18 X L n m) v3 o183.2
                                else none
                              else
                                if ((X (ix v3)) &&& 63) = 13 then
                                  (g_X7_worst n h).bind fun o179 =>
                                  (g_X8_worst n o179.2).bind fun o180 =>
                                  g_L_law_1769 X L n (g_L_law_18 X L n m) v3 o180.2
                                else
                                  if ((X (ix v3)) &&& 63) = 14 then
                                    if inb (v3 + 1) L = true then
                                    if inb (v3 + 2) L = true then
                                    (g_X7_window n (X (ix (v3 + 1))) (X (ix (v3 + 2))) h).bind fun o177 =>
                                    (g_X8_window n (X (ix (v3 + 1))) (X (ix (v3 + 2))) o177.2).bind fun o178 =>
                                    g_L_law_1769 X L n (g_L_law_18 X L n m) v3 o178.2
                                    else none
                                    else none
                                  else
                                    if ((X (ix v3)) &&& 63) = 15 then
                                      if inb (v3 + 1) L = true then
                                      if inb (v3 + 2) L = true then
                                      if inb (v3 + 3) L = true then
                                      (g_X7_pace n (X (ix (v3 + 1))) (X (ix (v3 + 2))) (X (ix (v3 + 3))) h).bind fun o173 =>
                                      (g_X8_pace n (X (ix (v3 + 1))) (X (ix (v3 + 2))) (X (ix (v3 + 3))) o173.2).bind fun o174 =>
                                      g_L_law_1769 X L n (g_L_law_18 X L n m) v3 o174.2
                                      else none
                                      else none
                                      else none
                                    else
                                      if ((X (ix v3)) &&& 63) = 16 then
                                        if inb (v3 + 1) L = true then
                                        if inb (v3 + 2) L = true then
                                        if inb (v3 + 3) L = true then
                                        (g_X7_rest n (X (ix (v3 + 1))) (X (ix (v3 + 2))) (X (ix (v3 + 3))) h).bind fun o168 =>
                                        (g_X8_rest n (X (ix (v3 + 1))) (X (ix (v3 + 2))) (X (ix (v3 + 3))) o168.2).bind fun o169 =>
                                        g_L_law_1769 X L n (g_L_law_18 X L n m) v3 o169.2
                                        else none
                                        else none
                                        else none
                                      else
                                        if ((X (ix v3)) &&& 63) = 17 then
                                          if inb (v3 + 1) L = true then
                                          if inb (v3 + 2) L = true then
                                          (g_X7_dust n (X (ix (v3 + 1))) (X (ix (v3 + 2))) h).bind fun o163 =>
                                          (g_X8_dust n (X (ix (v3 + 1))) (X (ix (v3 + 2))) o163.2).bind fun o164 =>
                                          g_L_law_1769 X L n (g_L_law_18 X L n m) v3 o164.2
                                          else none
                                          else none
                                        else
                                          if ((X (ix v3)) &&& 63) = 18 then
                                            if inb (v3 + 1) L = true then
                                            if inb (v3 + 2) L = true then
                                            if inb (v3 + 3) L = true then
                                            (g_X7_doublings n (X (ix (v3 + 1))) (X (ix (v3 + 2))) (X (ix (v3 + 3))) h).bind fun o159 =>
                                            (g_X8_doublings n (X (ix (v3 + 1))) (X (ix (v3 + 2))) (X (ix (v3 + 3))) o159.2).bind fun o160 =>
                                            g_L_law_1769 X L n (g_L_law_18 X L n m) v3 o160.2
                                            else none
                                            else none
                                            else none
                                          else
                                            if ((X (ix v3)) &&& 63) = 19 then
                                              if inb (v3 + 1) L = true then
                                              if inb (v3 + 2) L = true then
                                              if inb (v3 + 3) L = true then
                                              (g_X7_judge n (X (ix (v3 + 1))) (X (ix (v3 + 2))) (X (ix (v3 + 3))) h).bind fun o154 =>
                                              (g_X8_judge n (X (ix (v3 + 1))) (X (ix (v3 + 2))) (X (ix (v3 + 3))) o154.2).bind fun o155 =>
                                              g_L_law_1769 X L n (g_L_law_18 X L n m) v3 o155.2
                                              else none
                                              else none
                                              else none
                                            else
                                              if ((X (ix v3)) &&& 63) = 20 then
                                                if inb (v3 + 1) L = true then
                                                if inb (v3 + 2) L = true then
                                                (g_X7_film n (X (ix (v3 + 1))) (X (ix (v3 + 2))) h).bind fun o149 =>
                                                (g_X8_film n (X (ix (v3 + 1))) (X (ix (v3 + 2))) o149.2).bind fun o150 =>
                                                g_L_law_1769 X L n (g_L_law_18 X L n m) v3 o150.2
                                                else none
                                                else none
                                              else
                                                if ((X (ix v3)) &&& 63) = 21 then
                                                  if inb (v3 + 1) L = true then
                                                  if inb (v3 + 2) L = true then
                                                  if inb (v3 + 3) L = true then
                                                  (g_X7_serves n (X (ix (v3 + 1))) (X (ix (v3 + 2))) (X (ix (v3 + 3))) h).bind fun o145 =>
                                                  (g_X8_serves n (X (ix (v3 + 1))) (X (ix (v3 + 2))) (X (ix (v3 + 3))) o145.2).bind fun o146 =>
                                                  g_L_law_1769 X L n (g_L_law_18 X L n m) v3 o146.2
                                                  else none
                                                  else none
                                                  else none
                                                else
                                                  if ((X (ix v3)) &&& 63) = 22 then
                                                    if inb (v3 + 1) L = true then
                                                    if inb (v3 + 2) L = true then
                                                    (g_X7_which n (X (ix (v3 + 1))) (X (ix (v3 + 2))) h).bind fun o140 =>
                                                    (g_X8_which n (X (ix (v3 + 1))) (X (ix (v3 + 2))) o140.2).bind fun o141 =>
                                                    g_L_law_1769 X L n (g_L_law_18 X L n m) v3 o141.2
                                                    else none
                                                    else none
                                                  else
                                                    if ((X (ix v3)) &&& 63) = 23 then
                                                      if inb (v3 + 1) L = true then
                                                      if inb (v3 + 2) L = true then
                                                      (g_X7_fault n (X (ix (v3 + 1))) (X (ix (v3 + 2))) h).bind fun o136 =>
                                                      (g_X8_fault n (X (ix (v3 + 1))) (X (ix (v3 + 2))) o136.2).bind fun o137 =>
                                                      g_L_law_1769 X L n (g_L_law_18 X L n m) v3 o137.2
                                                      else none
                                                      else none
                                                    else
                                                      if ((X (ix v3)) &&& 63) = 24 then
                                                        if inb (v3 + 1) L = true then
                                                        if inb (v3 + 2) L = true then
                                                        (g_X7_uneven n (X (ix (v3 + 1))) (X (ix (v3 + 2))) h).bind fun o132 =>
                                                        (g_X8_uneven n (X (ix (v3 + 1))) (X (ix (v3 + 2))) o132.2).bind fun o133 =>
                                                        g_L_law_1769 X L n (g_L_law_18 X L n m) v3 o133.2
                                                        else none
                                                        else none
                                                      else
                                                        if ((X (ix v3)) &&& 63) = 25 then
                                                          if inb (v3 + 1) L = true then
                                                          if inb (v3 + 2) L = true then
                                                          if inb (v3 + 3) L = true then
                                                          (g_X7_cooks n (X (ix (v3 + 1))) (X (ix (v3 + 2))) (X (ix (v3 + 3))) h).bind fun o128 =>
                                                          (g_X8_cooks n (X (ix (v3 + 1))) (X (ix (v3 + 2))) (X (ix (v3 + 3))) o128.2).bind fun o129 =>
                                                          g_L_law_1769 X L n (g_L_law_18 X L n m) v3 o129.2
                                                          else none
                                                          else none
                                                          else none
                                                        else
                                                          if ((X (ix v3)) &&& 63) = 26 then
                                                            if inb (v3 + 1) L = true then
                                                            (g_X7_pot n (X (ix (v3 + 1))) h).bind fun o123 =>
                                                            (g_X8_pot n (X (ix (v3 + 1))) o123.2).bind fun o124 =>
                                                            g_L_law_1769 X L n (g_L_law_18 X L n m) v3 o124.2
                                                            else none
                                                          else
                                                            if ((X (ix v3)) &&& 63) = 27 then
                                                              if inb (v3 + 1) L = true then
                                                              if inb (v3 + 2) L = true then
                                                              (g_X7_place n (X (ix (v3 + 1))) (X (ix (v3 + 2))) h).bind fun o120 =>
                                                              (g_X8_place n (X (ix (v3 + 1))) (X (ix (v3 + 2))) o120.2).bind fun o121 =>
                                                              g_L_law_1769 X L n (g_L_law_18 X L n m) v3 o121.2
                                                              else none
                                                              else none
                                                            else
                                                              if ((X (ix v3)) &&& 63) = 28 then
                                                                if inb (v3 + 1) L = true then
                                                                if inb (v3 + 2) L = true then
                                                                if inb (v3 + 3) L = true then
                                                                (g_X7_apart n (X (ix (v3 + 1))) (X (ix (v3 + 2))) (X (ix (v3 + 3))) h).bind fun o116 =>
                                                                (g_X8_apart n (X (ix (v3 + 1))) (X (ix (v3 + 2))) (X (ix (v3 + 3))) o116.2).bind fun o117 =>
                                                                g_L_law_1769 X L n (g_L_law_18 X L n m) v3 o117.2
                                                                else none
                                                                else none
                                                                else none
                                                              else
                                                                if ((X (ix v3)) &&& 63) = 29 then
                                                                  if inb (v3 + 1) L = true then
                                                                  if inb (v3 + 2) L = true then
                                                                  if inb (v3 + 3) L = true then
                                                                  (g_X7_parted n (X (ix (v3 + 1))) (X (ix (v3 + 2))) (X (ix (v3 + 3))) h).bind fun o111 =>
                                                                  (g_X8_parted n (X (ix (v3 + 1))) (X (ix (v3 + 2))) (X (ix (v3 + 3))) o111.2).bind fun o112 =>
                                                                  g_L_law_1769 X L n (g_L_law_18 X L n m) v3 o112.2
                                                                  else none
                                                                  else none
                                                                  else none
                                                                else
                                                                  if ((X (ix v3)) &&& 63) = 30 then
                                                                    if inb (v3 + 1) L = true then
                                                                    (g_X7_round n (X (ix (v3 + 1))) h).bind fun o106 =>
                                                                    (g_X8_round n (X (ix (v3 + 1))) o106.2).bind fun o107 =>
                                                                    g_L_law_1769 X L n (g_L_law_18 X L n m) v3 o107.2
                                                                    else none
                                                                  else
                                                                    if ((X (ix v3)) &&& 63) = 31 then
                                                                      if inb (v3 + 1) L = true then
                                                                      if inb (v3 + 2) L = true then
                                                                      if inb (v3 + 3) L = true then
                                                                      (g_X7_colours n (X (ix (v3 + 1))) (X (ix (v3 + 2))) (X (ix (v3 + 3))) h).bind fun o103 =>
                                                                      (g_X8_colours n (X (ix (v3 + 1))) (X (ix (v3 + 2))) (X (ix (v3 + 3))) o103.2).bind fun o104 =>
                                                                      g_L_law_1769 X L n (g_L_law_18 X L n m) v3 o104.2
                                                                      else none
                                                                      else none
                                                                      else none
                                                                    else
                                                                      if ((X (ix v3)) &&& 63) = 32 then
                                                                        if inb (v3 + 1) L = true then
                                                                        if inb (v3 + 2) L = true then
                                                                        if inb (v3 + 3) L = true then
                                                                        (g_X7_thin n (X (ix (v3 + 1))) (X (ix (v3 + 2))) (X (ix (v3 + 3))) h).bind fun o98 =>
                                                                        (g_X8_thin n (X (ix (v3 + 1))) (X (ix (v3 + 2))) (X (ix (v3 + 3))) o98.2).bind fun o99 =>
                                                                        g_L_law_1769 X L n (g_L_law_18 X L n m) v3 o99.2
                                                                        else none
                                                                        else none
                                                                        else none
                                                                      else
                                                                        if ((X (ix v3)) &&& 63) = 33 then
                                                                          if inb (v3 + 1) L = true then
                                                                          if inb (v3 + 2) L = true then
                                                                          if inb (v3 + 3) L = true then
                                                                          if inb (v3 + 4) L = true then
                                                                          (g_X7_odds n (X (ix (v3 + 1))) (X (ix (v3 + 2))) (X (ix (v3 + 3))) (X (ix (v3 + 4))) h).bind fun o93 =>
                                                                          (g_X8_odds n (X (ix (v3 + 1))) (X (ix (v3 + 2))) (X (ix (v3 + 3))) (X (ix (v3 + 4))) o93.2).bind fun o94 =>
                                                                          g_L_law_1769 X L n (g_L_law_18 X L n m) v3 o94.2
                                                                          else none
                                                                          else none
                                                                          else none
                                                                          else none
                                                                        else
                                                                          if ((X (ix v3)) &&& 63) = 34 then
                                                                            if inb (v3 + 1) L = true then
                                                                            if inb (v3 + 2) L = true then
                                                                            if inb (v3 + 3) L = true then
                                                                            (g_X7_record n (X (ix (v3 + 1))) (X (ix (v3 + 2))) (X (ix (v3 + 3))) h).bind fun o87 =>
                                                                            (g_X8_record n (X (ix (v3 + 1))) (X (ix (v3 + 2))) (X (ix (v3 + 3))) o87.2).bind fun o88 =>
                                                                            g_L_law_1769 X L n (g_L_law_18 X L n m) v3 o88.2
                                                                            else none
                                                                            else none
                                                                            else none
                                                                          else
                                                                            if ((X (ix v3)) &&& 63) = 35 then
                                                                              if inb (v3 + 1) L = true then
                                                                              if inb (v3 + 2) L = true then
                                                                              if inb (v3 + 3) L = true then
                                                                              if inb (v3 + 4) L = true then
                                                                              (g_X7_drawn n (X (ix (v3 + 1))) (X (ix (v3 + 2))) (X (ix (v3 + 3))) (X (ix (v3 + 4))) h).bind fun o82 =>
                                                                              (g_X8_drawn n (X (ix (v3 + 1))) (X (ix (v3 + 2))) (X (ix (v3 + 3))) (X (ix (v3 + 4))) o82.2).bind fun o83 =>
                                                                              g_L_law_1769 X L n (g_L_law_18 X L n m) v3 o83.2
                                                                              else none
                                                                              else none
                                                                              else none
                                                                              else none
                                                                            else
                                                                              if ((X (ix v3)) &&& 63) = 36 then
                                                                                (g_X7_image h).bind fun o76 =>
                                                                                (g_X8_image n o76.2).bind fun o77 =>
                                                                                g_L_law_1769 X L n (g_L_law_18 X L n m) v3 o77.2
                                                                              else
                                                                                if ((X (ix v3)) &&& 63) = 37 then
                                                                                  (g_X7_back h).bind fun o74 =>
                                                                                  (g_X8_back n o74.2).bind fun o75 =>
                                                                                  g_L_law_1769 X L n (g_L_law_18 X L n m) v3 o75.2
                                                                                else
                                                                                  if ((X (ix v3)) &&& 63) = 38 then
                                                                                    if inb (v3 + 1) L = true then
                                                                                    if inb (v3 + 2) L = true then
                                                                                    if inb (v3 + 3) L = true then
                                                                                    (g_X7_sheet n (X (ix (v3 + 1))) (X (ix (v3 + 2))) (X (ix (v3 + 3))) h).bind fun o72 =>
                                                                                    (g_X8_sheet n (X (ix (v3 + 1))) (X (ix (v3 + 2))) (X (ix (v3 + 3))) o72.2).bind fun o73 =>
                                                                                    g_L_law_1769 X L n (g_L_law_18 X L n m) v3 o73.2
                                                                                    else none
                                                                                    else none
                                                                                    else none
                                                                                  else
                                                                                    if ((X (ix v3)) &&& 63) = 39 then
                                                                                      if inb (v3 + 1) L = true then
                                                                                      if inb (v3 + 2) L = true then
                                                                                      if inb (v3 + 3) L = true then
                                                                                      (g_X7_cell (X (ix (v3 + 1))) (X (ix (v3 + 2))) (X (ix (v3 + 3))) h).bind fun o67 =>
                                                                                      (g_X8_cell (X (ix (v3 + 1))) (X (ix (v3 + 2))) (X (ix (v3 + 3))) o67.2).bind fun o68 =>
                                                                                      g_L_law_1769 X L n (g_L_law_18 X L n m) v3 o68.2
                                                                                      else none
                                                                                      else none
                                                                                      else none
                                                                                    else
                                                                                      if ((X (ix v3)) &&& 63) = 40 then
                                                                                        if inb (v3 + 1) L = true then
                                                                                        if inb (v3 + 2) L = true then
                                                                                        if inb (v3 + 3) L = true then
                                                                                        if inb (v3 + 4) L = true then
                                                                                        if inb (v3 + 5) L = true then
                                                                                        (g_X7_copy (X (ix (v3 + 1))) (X (ix (v3 + 2))) (X (ix (v3 + 3))) (X (ix (v3 + 4))) (X (ix (v3 + 5))) h).bind fun o62 =>
                                                                                        (g_X8_copy n (X (ix (v3 + 1))) (X (ix (v3 + 2))) (X (ix (v3 + 3))) (X (ix (v3 + 4))) (X (ix (v3 + 5))) o62.2).bind fun o63 =>
                                                                                        g_L_law_1769 X L n (g_L_law_18 X L n m) v3 o63.2
                                                                                        else none
                                                                                        else none
                                                                                        else none
                                                                                        else none
                                                                                        else none
                                                                                      else
                                                                                        if ((X (ix v3)) &&& 63) = 41 then
                                                                                          if inb (v3 + 1) L = true then
                                                                                          if inb (v3 + 2) L = true then
                                                                                          if inb (v3 + 3) L = true then
                                                                                          if inb (v3 + 4) L = true then
                                                                                          (g_X7_stepsBy n (X (ix (v3 + 1))) (X (ix (v3 + 2))) (X (ix (v3 + 3))) (X (ix (v3 + 4))) h).bind fun o55 =>
                                                                                          (g_X8_stepsBy n (X (ix (v3 + 1))) (X (ix (v3 + 2))) (X (ix (v3 + 3))) (X (ix (v3 + 4))) o55.2).bind fun o56 =>
                                                                                          g_L_law_1769 X L n (g_L_law_18 X L n m) v3 o56.2
                                                                                          else none
                                                                                          else none
                                                                                          else none
                                                                                          else none
                                                                                        else
                                                                                          if ((X (ix v3)) &&& 63) = 42 then
                                                                                            if inb (v3 + 1) L = true then
                                                                                            if inb (v3 + 2) L = true then
                                                                                            (g_X7_taken n (X (ix (v3 + 1))) (X (ix (v3 + 2))) h).bind fun o48 =>
                                                                                            (g_X8_taken (X (ix (v3 + 1))) (X (ix (v3 + 2))) o48.2).bind fun o49 =>
                                                                                            if o48.1 = o49.1 then
                                                                                              g_L_law_1769 X L n (g_L_law_18 X L n m) v3 o49.2
                                                                                            else
                                                                                              some (0, o49.2)
                                                                                            else none
                                                                                            else none
                                                                                          else
                                                                                            g_L_law_1769 X L n (g_L_law_18 X L n m) v3 h
      else none
set_option maxRecDepth 100000 in
set_option maxHeartbeats 4000000 in
theorem q_L_law_18 {X : Nat → Int32} {d : Nat} (hd : 110 ≤ (d + 1)) {L hi : Nat} (hh : 125 ≤ hi) {n : Nat} : ∀ (m : Nat) (v3 : Int32) (h : Hp) (o : (Int32 × Hp)), SHP L hi h → g_L_law_18 X L n m v3 h = some o → Run X (d + 1) 0 18 [some (.ref 14), some (.ref 16), some (.ref 96), some (.int v3)] [] h (some (.int o.1), o.2) ∧ SHP L hi o.2 := by
  intro m
  induction m with
  | zero => intro v3 h o SH hf; cases hf
  | succ m ih =>
    intro v3 h o SH hf
    rw [g_L_law_18] at hf
    refine And.imp_left (rs_iload_n i_L_law_18 rfl) ?_
    refine And.imp_left (rs_aload_n i_L_law_19 rfl) ?_
    refine And.imp_left (rs_alCn i_L_law_20 (sScr SH)) ?_
    refine And.imp_left (rs_bipush i_L_law_21 (v := 6) (by decide)) ?_
    refine And.imp_left (rs_isub i_L_law_23) ?_
    by_cases c1 : ((Int32.ofNat L) - 6) < v3
    · replace hf := (if_pos c1).symm.trans hf
      refine And.imp_left (rs_icT i_L_law_24 (ct_gt c1) (tg := 1775) (by decide)) ?_
      refine And.imp_left (rs_iconst i_L_law_1775 (v := 1) (by decide)) ?_
      have hf := Option.some.inj hf
      subst hf
      exact ⟨rs_iret i_L_law_1776 m_L_law (by decide), SH⟩
    · replace hf := (if_neg c1).symm.trans hf
      refine And.imp_left (rs_icF i_L_law_24 (cf_gt c1)) ?_
      refine And.imp_left (rs_aload_n i_L_law_27 rfl) ?_
      refine And.imp_left (rs_iload_n i_L_law_28 rfl) ?_
      obtain ⟨c2, hf⟩ := ite_some hf
      refine And.imp_left (rs_ialdS i_L_law_29 (sScrI SH c2)) ?_
      refine And.imp_left (rs_bipush i_L_law_30 (v := 63) (by decide)) ?_
      refine And.imp_left (rs_iand i_L_law_32) ?_
      by_cases c3 : ((X (ix v3)) &&& 63) = 0
      · replace hf := (if_pos c3).symm.trans hf
        refine And.imp_left (rs_tsw i_L_law_33 (off := 187) (by rw [c3]; decide) (tg := 220) (by decide)) ?_
        refine And.imp_left (rs_aload_n i_L_law_220 rfl) ?_
        refine And.imp_left (rs_aload_n i_L_law_221 rfl) ?_
        refine And.imp_left (rs_iload_n i_L_law_222 rfl) ?_
        refine And.imp_left (rs_iconst i_L_law_223 (v := 1) (by decide)) ?_
        refine And.imp_left (rs_iadd i_L_law_224) ?_
        obtain ⟨c225, hf⟩ := ite_some hf
        refine And.imp_left (rs_ialdS i_L_law_225 (sScrI SH c225)) ?_
        refine And.imp_left (rs_aload_n i_L_law_226 rfl) ?_
        refine And.imp_left (rs_iload_n i_L_law_227 rfl) ?_
        refine And.imp_left (rs_iconst i_L_law_228 (v := 2) (by decide)) ?_
        refine And.imp_left (rs_iadd i_L_law_229) ?_
        obtain ⟨c226, hf⟩ := ite_some hf
        refine And.imp_left (rs_ialdS i_L_law_230 (sScrI SH c226)) ?_
        refine And.imp_left (rs_aload_n i_L_law_231 rfl) ?_
        refine And.imp_left (rs_iload_n i_L_law_232 rfl) ?_
        refine And.imp_left (rs_iconst i_L_law_233 (v := 3) (by decide)) ?_
        refine And.imp_left (rs_iadd i_L_law_234) ?_
        obtain ⟨c227, hf⟩ := ite_some hf
        refine And.imp_left (rs_ialdS i_L_law_235 (sScrI SH c227)) ?_
        obtain ⟨o228, e228, hf⟩ := bind_some hf
        obtain ⟨u228, SH2⟩ := k_X7_roll (X := X) (d := d) (by omega) (by omega) SH e228
        refine And.imp_left (rs_inV i_L_law_236 m_X7_roll rfl (As := [.int (X (ix (v3 + 1))), .int (X (ix (v3 + 2))), .int (X (ix (v3 + 3)))]) (rest := []) rfl rfl (Nat.le_of_ble_eq_true rfl) (sO7 SH (by omega)) u228 (st' := [.int o228.1]) rfl) ?_
        clear SH; have SH := SH2; clear SH2
        refine And.imp_left (rs_pop i_L_law_239 rfl) ?_
        refine And.imp_left (rs_aload_n i_L_law_240 rfl) ?_
        refine And.imp_left (rs_aload_n i_L_law_241 rfl) ?_
        refine And.imp_left (rs_iload_n i_L_law_242 rfl) ?_
        refine And.imp_left (rs_iconst i_L_law_243 (v := 1) (by decide)) ?_
        refine And.imp_left (rs_iadd i_L_law_244) ?_
        refine And.imp_left (rs_ialdS i_L_law_245 (sScrI SH c225)) ?_
        refine And.imp_left (rs_aload_n i_L_law_246 rfl) ?_
        refine And.imp_left (rs_iload_n i_L_law_247 rfl) ?_
        refine And.imp_left (rs_iconst i_L_law_248 (v := 2) (by decide)) ?_
        refine And.imp_left (rs_iadd i_L_law_249) ?_
        refine And.imp_left (rs_ialdS i_L_law_250 (sScrI SH c226)) ?_
        refine And.imp_left (rs_aload_n i_L_law_251 rfl) ?_
        refine And.imp_left (rs_iload_n i_L_law_252 rfl) ?_
        refine And.imp_left (rs_iconst i_L_law_253 (v := 3) (by decide)) ?_
        refine And.imp_left (rs_iadd i_L_law_254) ?_
        refine And.imp_left (rs_ialdS i_L_law_255 (sScrI SH c227)) ?_
        obtain ⟨o229, e229, hf⟩ := bind_some hf
        obtain ⟨u229, SH2⟩ := k_X8_roll (X := X) (d := d) (by omega) (by omega) SH e229
        refine And.imp_left (rs_inV i_L_law_256 m_X8_roll rfl (As := [.int (X (ix (v3 + 1))), .int (X (ix (v3 + 2))), .int (X (ix (v3 + 3)))]) (rest := []) rfl rfl (Nat.le_of_ble_eq_true rfl) (sO8 SH hh) u229 (st' := [.int o229.1]) rfl) ?_
        clear SH; have SH := SH2; clear SH2
        refine And.imp_left (rs_pop i_L_law_259 rfl) ?_
        refine And.imp_left (rs_goto i_L_law_260 (tg := 1769) (by decide)) ?_
        exact q_L_law_1769 hd hh ih SH hf
      · replace hf := (if_neg c3).symm.trans hf
        by_cases c4 : ((X (ix v3)) &&& 63) = 1
        · replace hf := (if_pos c4).symm.trans hf
          refine And.imp_left (rs_tsw i_L_law_33 (off := 230) (by rw [c4]; decide) (tg := 263) (by decide)) ?_
          refine And.imp_left (rs_aload_n i_L_law_263 rfl) ?_
          refine And.imp_left (rs_aload_n i_L_law_264 rfl) ?_
          refine And.imp_left (rs_iload_n i_L_law_265 rfl) ?_
          refine And.imp_left (rs_iconst i_L_law_266 (v := 1) (by decide)) ?_
          refine And.imp_left (rs_iadd i_L_law_267) ?_
          obtain ⟨c221, hf⟩ := ite_some hf
          refine And.imp_left (rs_ialdS i_L_law_268 (sScrI SH c221)) ?_
          refine And.imp_left (rs_aload_n i_L_law_269 rfl) ?_
          refine And.imp_left (rs_iload_n i_L_law_270 rfl) ?_
          refine And.imp_left (rs_iconst i_L_law_271 (v := 2) (by decide)) ?_
          refine And.imp_left (rs_iadd i_L_law_272) ?_
          obtain ⟨c222, hf⟩ := ite_some hf
          refine And.imp_left (rs_ialdS i_L_law_273 (sScrI SH c222)) ?_
          obtain ⟨o223, e223, hf⟩ := bind_some hf
          obtain ⟨u223, SH2⟩ := k_X7_set (X := X) (d := d) (by omega) (by omega) SH e223
          refine And.imp_left (rs_inV i_L_law_274 m_X7_set rfl (As := [.int (X (ix (v3 + 1))), .int (X (ix (v3 + 2)))]) (rest := []) rfl rfl (Nat.le_of_ble_eq_true rfl) (sO7 SH (by omega)) u223 (st' := [.int o223.1]) rfl) ?_
          clear SH; have SH := SH2; clear SH2
          refine And.imp_left (rs_pop i_L_law_277 rfl) ?_
          refine And.imp_left (rs_aload_n i_L_law_278 rfl) ?_
          refine And.imp_left (rs_aload_n i_L_law_279 rfl) ?_
          refine And.imp_left (rs_iload_n i_L_law_280 rfl) ?_
          refine And.imp_left (rs_iconst i_L_law_281 (v := 1) (by decide)) ?_
          refine And.imp_left (rs_iadd i_L_law_282) ?_
          refine And.imp_left (rs_ialdS i_L_law_283 (sScrI SH c221)) ?_
          refine And.imp_left (rs_aload_n i_L_law_284 rfl) ?_
          refine And.imp_left (rs_iload_n i_L_law_285 rfl) ?_
          refine And.imp_left (rs_iconst i_L_law_286 (v := 2) (by decide)) ?_
          refine And.imp_left (rs_iadd i_L_law_287) ?_
          refine And.imp_left (rs_ialdS i_L_law_288 (sScrI SH c222)) ?_
          obtain ⟨o224, e224, hf⟩ := bind_some hf
          obtain ⟨u224, SH2⟩ := k_X8_set (X := X) (d := d) (by omega) (by omega) SH e224
          refine And.imp_left (rs_inV i_L_law_289 m_X8_set rfl (As := [.int (X (ix (v3 + 1))), .int (X (ix (v3 + 2)))]) (rest := []) rfl rfl (Nat.le_of_ble_eq_true rfl) (sO8 SH hh) u224 (st' := [.int o224.1]) rfl) ?_
          clear SH; have SH := SH2; clear SH2
          refine And.imp_left (rs_pop i_L_law_292 rfl) ?_
          refine And.imp_left (rs_goto i_L_law_293 (tg := 1769) (by decide)) ?_
          exact q_L_law_1769 hd hh ih SH hf
        · replace hf := (if_neg c4).symm.trans hf
          by_cases c5 : ((X (ix v3)) &&& 63) = 2
          · replace hf := (if_pos c5).symm.trans hf
            refine And.imp_left (rs_tsw i_L_law_33 (off := 263) (by rw [c5]; decide) (tg := 296) (by decide)) ?_
            refine And.imp_left (rs_aload_n i_L_law_296 rfl) ?_
            refine And.imp_left (rs_aload_n i_L_law_297 rfl) ?_
            refine And.imp_left (rs_iload_n i_L_law_298 rfl) ?_
            refine And.imp_left (rs_iconst i_L_law_299 (v := 1) (by decide)) ?_
            refine And.imp_left (rs_iadd i_L_law_300) ?_
            obtain ⟨c218, hf⟩ := ite_some hf
            refine And.imp_left (rs_ialdS i_L_law_301 (sScrI SH c218)) ?_
            obtain ⟨o219, e219, hf⟩ := bind_some hf
            obtain ⟨u219, SH2⟩ := k_X7_count (X := X) (d := d) (by omega) (by omega) SH e219
            refine And.imp_left (rs_inV i_L_law_302 m_X7_count rfl (As := [.int (X (ix (v3 + 1)))]) (rest := []) rfl rfl (Nat.le_of_ble_eq_true rfl) (sO7 SH (by omega)) u219 (st' := [.int o219.1]) rfl) ?_
            clear SH; have SH := SH2; clear SH2
            refine And.imp_left (rs_pop i_L_law_305 rfl) ?_
            refine And.imp_left (rs_aload_n i_L_law_306 rfl) ?_
            refine And.imp_left (rs_aload_n i_L_law_307 rfl) ?_
            refine And.imp_left (rs_iload_n i_L_law_308 rfl) ?_
            refine And.imp_left (rs_iconst i_L_law_309 (v := 1) (by decide)) ?_
            refine And.imp_left (rs_iadd i_L_law_310) ?_
            refine And.imp_left (rs_ialdS i_L_law_311 (sScrI SH c218)) ?_
            obtain ⟨o220, e220, hf⟩ := bind_some hf
            obtain ⟨u220, SH2⟩ := k_X8_count (X := X) (d := d) (by omega) (by omega) SH e220
            refine And.imp_left (rs_inV i_L_law_312 m_X8_count rfl (As := [.int (X (ix (v3 + 1)))]) (rest := []) rfl rfl (Nat.le_of_ble_eq_true rfl) (sO8 SH hh) u220 (st' := [.int o220.1]) rfl) ?_
            clear SH; have SH := SH2; clear SH2
            refine And.imp_left (rs_pop i_L_law_315 rfl) ?_
            refine And.imp_left (rs_goto i_L_law_316 (tg := 1769) (by decide)) ?_
            exact q_L_law_1769 hd hh ih SH hf
          · replace hf := (if_neg c5).symm.trans hf
            by_cases c6 : ((X (ix v3)) &&& 63) = 3
            · replace hf := (if_pos c6).symm.trans hf
              refine And.imp_left (rs_tsw i_L_law_33 (off := 286) (by rw [c6]; decide) (tg := 319) (by decide)) ?_
              refine And.imp_left (rs_aload_n i_L_law_319 rfl) ?_
              refine And.imp_left (rs_aload_n i_L_law_320 rfl) ?_
              refine And.imp_left (rs_iload_n i_L_law_321 rfl) ?_
              refine And.imp_left (rs_iconst i_L_law_322 (v := 1) (by decide)) ?_
              refine And.imp_left (rs_iadd i_L_law_323) ?_
              obtain ⟨c213, hf⟩ := ite_some hf
              refine And.imp_left (rs_ialdS i_L_law_324 (sScrI SH c213)) ?_
              refine And.imp_left (rs_i2l i_L_law_325) ?_
              refine And.imp_left (rs_bipush i_L_law_326 (v := 32) (by decide)) ?_
              refine And.imp_left (rs_lshl i_L_law_328) ?_
              refine And.imp_left (rs_aload_n i_L_law_329 rfl) ?_
              refine And.imp_left (rs_iload_n i_L_law_330 rfl) ?_
              refine And.imp_left (rs_iconst i_L_law_331 (v := 2) (by decide)) ?_
              refine And.imp_left (rs_iadd i_L_law_332) ?_
              obtain ⟨c214, hf⟩ := ite_some hf
              refine And.imp_left (rs_ialdS i_L_law_333 (sScrI SH c214)) ?_
              refine And.imp_left (rs_i2l i_L_law_334) ?_
              refine And.imp_left (rs_ldc2 i_L_law_335 (v := 4294967295) (by decide)) ?_
              refine And.imp_left (rs_land i_L_law_338) ?_
              refine And.imp_left (rs_lor i_L_law_339) ?_
              refine And.imp_left (rs_aload_n i_L_law_340 rfl) ?_
              refine And.imp_left (rs_iload_n i_L_law_341 rfl) ?_
              refine And.imp_left (rs_iconst i_L_law_342 (v := 3) (by decide)) ?_
              refine And.imp_left (rs_iadd i_L_law_343) ?_
              obtain ⟨c215, hf⟩ := ite_some hf
              refine And.imp_left (rs_ialdS i_L_law_344 (sScrI SH c215)) ?_
              obtain ⟨o216, e216, hf⟩ := bind_some hf
              obtain ⟨u216, SH2⟩ := k_X7_feed (X := X) (d := d) (by omega) (by omega) SH e216
              refine And.imp_left (rs_inV i_L_law_345 m_X7_feed rfl (As := [.long (((Int32.toInt64 (X (ix (v3 + 1)))) <<< (Int32.toInt64 32 &&& 63)) ||| ((Int32.toInt64 (X (ix (v3 + 2)))) &&& 4294967295)), .int (X (ix (v3 + 3)))]) (rest := []) rfl rfl (Nat.le_of_ble_eq_true rfl) (sO7 SH (by omega)) u216 (st' := [.int o216.1]) rfl) ?_
              clear SH; have SH := SH2; clear SH2
              refine And.imp_left (rs_pop i_L_law_348 rfl) ?_
              refine And.imp_left (rs_aload_n i_L_law_349 rfl) ?_
              refine And.imp_left (rs_aload_n i_L_law_350 rfl) ?_
              refine And.imp_left (rs_iload_n i_L_law_351 rfl) ?_
              refine And.imp_left (rs_iconst i_L_law_352 (v := 1) (by decide)) ?_
              refine And.imp_left (rs_iadd i_L_law_353) ?_
              refine And.imp_left (rs_ialdS i_L_law_354 (sScrI SH c213)) ?_
              refine And.imp_left (rs_i2l i_L_law_355) ?_
              refine And.imp_left (rs_bipush i_L_law_356 (v := 32) (by decide)) ?_
              refine And.imp_left (rs_lshl i_L_law_358) ?_
              refine And.imp_left (rs_aload_n i_L_law_359 rfl) ?_
              refine And.imp_left (rs_iload_n i_L_law_360 rfl) ?_
              refine And.imp_left (rs_iconst i_L_law_361 (v := 2) (by decide)) ?_
              refine And.imp_left (rs_iadd i_L_law_362) ?_
              refine And.imp_left (rs_ialdS i_L_law_363 (sScrI SH c214)) ?_
              refine And.imp_left (rs_i2l i_L_law_364) ?_
              refine And.imp_left (rs_ldc2 i_L_law_365 (v := 4294967295) (by decide)) ?_
              refine And.imp_left (rs_land i_L_law_368) ?_
              refine And.imp_left (rs_lor i_L_law_369) ?_
              refine And.imp_left (rs_aload_n i_L_law_370 rfl) ?_
              refine And.imp_left (rs_iload_n i_L_law_371 rfl) ?_
              refine And.imp_left (rs_iconst i_L_law_372 (v := 3) (by decide)) ?_
              refine And.imp_left (rs_iadd i_L_law_373) ?_
              refine And.imp_left (rs_ialdS i_L_law_374 (sScrI SH c215)) ?_
              obtain ⟨o217, e217, hf⟩ := bind_some hf
              obtain ⟨u217, SH2⟩ := k_X8_feed (X := X) (d := d) (by omega) (by omega) SH e217
              refine And.imp_left (rs_inV i_L_law_375 m_X8_feed rfl (As := [.long (((Int32.toInt64 (X (ix (v3 + 1)))) <<< (Int32.toInt64 32 &&& 63)) ||| ((Int32.toInt64 (X (ix (v3 + 2)))) &&& 4294967295)), .int (X (ix (v3 + 3)))]) (rest := []) rfl rfl (Nat.le_of_ble_eq_true rfl) (sO8 SH hh) u217 (st' := [.int o217.1]) rfl) ?_
              clear SH; have SH := SH2; clear SH2
              refine And.imp_left (rs_pop i_L_law_378 rfl) ?_
              refine And.imp_left (rs_goto i_L_law_379 (tg := 1769) (by decide)) ?_
              exact q_L_law_1769 hd hh ih SH hf
            · replace hf := (if_neg c6).symm.trans hf
              by_cases c7 : ((X (ix v3)) &&& 63) = 4
              · replace hf := (if_pos c7).symm.trans hf
                refine And.imp_left (rs_tsw i_L_law_33 (off := 349) (by rw [c7]; decide) (tg := 382) (by decide)) ?_
                refine And.imp_left (rs_aload_n i_L_law_382 rfl) ?_
                obtain ⟨o211, e211, hf⟩ := bind_some hf
                obtain ⟨u211, SH2⟩ := k_X7_text (X := X) (d := d) (by omega) (by omega) SH e211
                refine And.imp_left (rs_inV i_L_law_383 m_X7_text rfl (As := []) (rest := []) rfl rfl (Nat.le_of_ble_eq_true rfl) (sO7 SH (by omega)) u211 (st' := [.int o211.1]) rfl) ?_
                clear SH; have SH := SH2; clear SH2
                refine And.imp_left (rs_pop i_L_law_386 rfl) ?_
                refine And.imp_left (rs_aload_n i_L_law_387 rfl) ?_
                obtain ⟨o212, e212, hf⟩ := bind_some hf
                obtain ⟨u212, SH2⟩ := k_X8_text (X := X) (d := d) (by omega) (by omega) SH e212
                refine And.imp_left (rs_inV i_L_law_388 m_X8_text rfl (As := []) (rest := []) rfl rfl (Nat.le_of_ble_eq_true rfl) (sO8 SH hh) u212 (st' := [.int o212.1]) rfl) ?_
                clear SH; have SH := SH2; clear SH2
                refine And.imp_left (rs_pop i_L_law_391 rfl) ?_
                refine And.imp_left (rs_goto i_L_law_392 (tg := 1769) (by decide)) ?_
                exact q_L_law_1769 hd hh ih SH hf
              · replace hf := (if_neg c7).symm.trans hf
                by_cases c8 : ((X (ix v3)) &&& 63) = 5
                · replace hf := (if_pos c8).symm.trans hf
                  refine And.imp_left (rs_tsw i_L_law_33 (off := 362) (by rw [c8]; decide) (tg := 395) (by decide)) ?_
                  refine And.imp_left (rs_aload_n i_L_law_395 rfl) ?_
                  refine And.imp_left (rs_aload_n i_L_law_396 rfl) ?_
                  refine And.imp_left (rs_iload_n i_L_law_397 rfl) ?_
                  refine And.imp_left (rs_iconst i_L_law_398 (v := 1) (by decide)) ?_
                  refine And.imp_left (rs_iadd i_L_law_399) ?_
                  obtain ⟨c208, hf⟩ := ite_some hf
                  refine And.imp_left (rs_ialdS i_L_law_400 (sScrI SH c208)) ?_
                  obtain ⟨o209, e209, hf⟩ := bind_some hf
                  obtain ⟨u209, SH2⟩ := k_X7_force (X := X) (d := d) (by omega) (by omega) SH e209
                  refine And.imp_left (rs_inV i_L_law_401 m_X7_force rfl (As := [.int (X (ix (v3 + 1)))]) (rest := []) rfl rfl (Nat.le_of_ble_eq_true rfl) (sO7 SH (by omega)) u209 (st' := [.int o209.1]) rfl) ?_
                  clear SH; have SH := SH2; clear SH2
                  refine And.imp_left (rs_pop i_L_law_404 rfl) ?_
                  refine And.imp_left (rs_aload_n i_L_law_405 rfl) ?_
                  refine And.imp_left (rs_aload_n i_L_law_406 rfl) ?_
                  refine And.imp_left (rs_iload_n i_L_law_407 rfl) ?_
                  refine And.imp_left (rs_iconst i_L_law_408 (v := 1) (by decide)) ?_
                  refine And.imp_left (rs_iadd i_L_law_409) ?_
                  refine And.imp_left (rs_ialdS i_L_law_410 (sScrI SH c208)) ?_
                  obtain ⟨o210, e210, hf⟩ := bind_some hf
                  obtain ⟨u210, SH2⟩ := k_X8_force (X := X) (d := d) (by omega) (by omega) SH e210
                  refine And.imp_left (rs_inV i_L_law_411 m_X8_force rfl (As := [.int (X (ix (v3 + 1)))]) (rest := []) rfl rfl (Nat.le_of_ble_eq_true rfl) (sO8 SH hh) u210 (st' := [.int o210.1]) rfl) ?_
                  clear SH; have SH := SH2; clear SH2
                  refine And.imp_left (rs_pop i_L_law_414 rfl) ?_
                  refine And.imp_left (rs_goto i_L_law_415 (tg := 1769) (by decide)) ?_
                  exact q_L_law_1769 hd hh ih SH hf
                · replace hf := (if_neg c8).symm.trans hf
                  by_cases c9 : ((X (ix v3)) &&& 63) = 6
                  · replace hf := (if_pos c9).symm.trans hf
                    refine And.imp_left (rs_tsw i_L_law_33 (off := 385) (by rw [c9]; decide) (tg := 418) (by decide)) ?_
                    refine And.imp_left (rs_aload_n i_L_law_418 rfl) ?_
                    refine And.imp_left (rs_aload_n i_L_law_419 rfl) ?_
                    refine And.imp_left (rs_iload_n i_L_law_420 rfl) ?_
                    refine And.imp_left (rs_iconst i_L_law_421 (v := 1) (by decide)) ?_
                    refine And.imp_left (rs_iadd i_L_law_422) ?_
                    obtain ⟨c203, hf⟩ := ite_some hf
                    refine And.imp_left (rs_ialdS i_L_law_423 (sScrI SH c203)) ?_
                    refine And.imp_left (rs_aload_n i_L_law_424 rfl) ?_
                    refine And.imp_left (rs_iload_n i_L_law_425 rfl) ?_
                    refine And.imp_left (rs_iconst i_L_law_426 (v := 2) (by decide)) ?_
                    refine And.imp_left (rs_iadd i_L_law_427) ?_
                    obtain ⟨c204, hf⟩ := ite_some hf
                    refine And.imp_left (rs_ialdS i_L_law_428 (sScrI SH c204)) ?_
                    refine And.imp_left (rs_aload_n i_L_law_429 rfl) ?_
                    refine And.imp_left (rs_iload_n i_L_law_430 rfl) ?_
                    refine And.imp_left (rs_iconst i_L_law_431 (v := 3) (by decide)) ?_
                    refine And.imp_left (rs_iadd i_L_law_432) ?_
                    obtain ⟨c205, hf⟩ := ite_some hf
                    refine And.imp_left (rs_ialdS i_L_law_433 (sScrI SH c205)) ?_
                    obtain ⟨o206, e206, hf⟩ := bind_some hf
                    obtain ⟨u206, SH2⟩ := k_X7_step (X := X) (d := d) (by omega) (by omega) SH e206
                    refine And.imp_left (rs_inV i_L_law_434 m_X7_step rfl (As := [.int (X (ix (v3 + 1))), .int (X (ix (v3 + 2))), .int (X (ix (v3 + 3)))]) (rest := []) rfl rfl (Nat.le_of_ble_eq_true rfl) (sO7 SH (by omega)) u206 (st' := [.int o206.1]) rfl) ?_
                    clear SH; have SH := SH2; clear SH2
                    refine And.imp_left (rs_pop i_L_law_437 rfl) ?_
                    refine And.imp_left (rs_aload_n i_L_law_438 rfl) ?_
                    refine And.imp_left (rs_aload_n i_L_law_439 rfl) ?_
                    refine And.imp_left (rs_iload_n i_L_law_440 rfl) ?_
                    refine And.imp_left (rs_iconst i_L_law_441 (v := 1) (by decide)) ?_
                    refine And.imp_left (rs_iadd i_L_law_442) ?_
                    refine And.imp_left (rs_ialdS i_L_law_443 (sScrI SH c203)) ?_
                    refine And.imp_left (rs_aload_n i_L_law_444 rfl) ?_
                    refine And.imp_left (rs_iload_n i_L_law_445 rfl) ?_
                    refine And.imp_left (rs_iconst i_L_law_446 (v := 2) (by decide)) ?_
                    refine And.imp_left (rs_iadd i_L_law_447) ?_
                    refine And.imp_left (rs_ialdS i_L_law_448 (sScrI SH c204)) ?_
                    refine And.imp_left (rs_aload_n i_L_law_449 rfl) ?_
                    refine And.imp_left (rs_iload_n i_L_law_450 rfl) ?_
                    refine And.imp_left (rs_iconst i_L_law_451 (v := 3) (by decide)) ?_
                    refine And.imp_left (rs_iadd i_L_law_452) ?_
                    refine And.imp_left (rs_ialdS i_L_law_453 (sScrI SH c205)) ?_
                    obtain ⟨o207, e207, hf⟩ := bind_some hf
                    obtain ⟨u207, SH2⟩ := k_X8_step (X := X) (d := d) (by omega) (by omega) SH e207
                    refine And.imp_left (rs_inV i_L_law_454 m_X8_step rfl (As := [.int (X (ix (v3 + 1))), .int (X (ix (v3 + 2))), .int (X (ix (v3 + 3)))]) (rest := []) rfl rfl (Nat.le_of_ble_eq_true rfl) (sO8 SH hh) u207 (st' := [.int o207.1]) rfl) ?_
                    clear SH; have SH := SH2; clear SH2
                    refine And.imp_left (rs_pop i_L_law_457 rfl) ?_
                    refine And.imp_left (rs_goto i_L_law_458 (tg := 1769) (by decide)) ?_
                    exact q_L_law_1769 hd hh ih SH hf
                  · replace hf := (if_neg c9).symm.trans hf
                    by_cases c10 : ((X (ix v3)) &&& 63) = 7
                    · replace hf := (if_pos c10).symm.trans hf
                      refine And.imp_left (rs_tsw i_L_law_33 (off := 428) (by rw [c10]; decide) (tg := 461) (by decide)) ?_
                      refine And.imp_left (rs_aload_n i_L_law_461 rfl) ?_
                      obtain ⟨o201, e201, hf⟩ := bind_some hf
                      obtain ⟨u201, SH2⟩ := k_X7_forget (X := X) (d := d) (by omega) (by omega) SH e201
                      refine And.imp_left (rs_inV i_L_law_462 m_X7_forget rfl (As := []) (rest := []) rfl rfl (Nat.le_of_ble_eq_true rfl) (sO7 SH (by omega)) u201 (st' := [.int o201.1]) rfl) ?_
                      clear SH; have SH := SH2; clear SH2
                      refine And.imp_left (rs_pop i_L_law_465 rfl) ?_
                      refine And.imp_left (rs_aload_n i_L_law_466 rfl) ?_
                      obtain ⟨o202, e202, hf⟩ := bind_some hf
                      obtain ⟨u202, SH2⟩ := k_X8_forget (X := X) (d := d) (by omega) (by omega) SH e202
                      refine And.imp_left (rs_inV i_L_law_467 m_X8_forget rfl (As := []) (rest := []) rfl rfl (Nat.le_of_ble_eq_true rfl) (sO8 SH hh) u202 (st' := [.int o202.1]) rfl) ?_
                      clear SH; have SH := SH2; clear SH2
                      refine And.imp_left (rs_pop i_L_law_470 rfl) ?_
                      refine And.imp_left (rs_goto i_L_law_471 (tg := 1769) (by decide)) ?_
                      exact q_L_law_1769 hd hh ih SH hf
                    · replace hf := (if_neg c10).symm.trans hf
                      by_cases c11 : ((X (ix v3)) &&& 63) = 8
                      · replace hf := (if_pos c11).symm.trans hf
                        refine And.imp_left (rs_tsw i_L_law_33 (off := 441) (by rw [c11]; decide) (tg := 474) (by decide)) ?_
                        refine And.imp_left (rs_aload_n i_L_law_474 rfl) ?_
                        refine And.imp_left (rs_aload_n i_L_law_475 rfl) ?_
                        refine And.imp_left (rs_iload_n i_L_law_476 rfl) ?_
                        refine And.imp_left (rs_iconst i_L_law_477 (v := 1) (by decide)) ?_
                        refine And.imp_left (rs_iadd i_L_law_478) ?_
                        obtain ⟨c197, hf⟩ := ite_some hf
                        refine And.imp_left (rs_ialdS i_L_law_479 (sScrI SH c197)) ?_
                        refine And.imp_left (rs_aload_n i_L_law_480 rfl) ?_
                        refine And.imp_left (rs_iload_n i_L_law_481 rfl) ?_
                        refine And.imp_left (rs_iconst i_L_law_482 (v := 2) (by decide)) ?_
                        refine And.imp_left (rs_iadd i_L_law_483) ?_
                        obtain ⟨c198, hf⟩ := ite_some hf
                        refine And.imp_left (rs_ialdS i_L_law_484 (sScrI SH c198)) ?_
                        obtain ⟨o199, e199, hf⟩ := bind_some hf
                        obtain ⟨u199, SH2⟩ := k_X7_stepTold (X := X) (d := d) (by omega) (by omega) SH e199
                        refine And.imp_left (rs_inV i_L_law_485 m_X7_stepTold rfl (As := [.int (X (ix (v3 + 1))), .int (X (ix (v3 + 2)))]) (rest := []) rfl rfl (Nat.le_of_ble_eq_true rfl) (sO7 SH (by omega)) u199 (st' := [.int o199.1]) rfl) ?_
                        clear SH; have SH := SH2; clear SH2
                        refine And.imp_left (rs_pop i_L_law_488 rfl) ?_
                        refine And.imp_left (rs_aload_n i_L_law_489 rfl) ?_
                        refine And.imp_left (rs_aload_n i_L_law_490 rfl) ?_
                        refine And.imp_left (rs_iload_n i_L_law_491 rfl) ?_
                        refine And.imp_left (rs_iconst i_L_law_492 (v := 1) (by decide)) ?_
                        refine And.imp_left (rs_iadd i_L_law_493) ?_
                        refine And.imp_left (rs_ialdS i_L_law_494 (sScrI SH c197)) ?_
                        refine And.imp_left (rs_aload_n i_L_law_495 rfl) ?_
                        refine And.imp_left (rs_iload_n i_L_law_496 rfl) ?_
                        refine And.imp_left (rs_iconst i_L_law_497 (v := 2) (by decide)) ?_
                        refine And.imp_left (rs_iadd i_L_law_498) ?_
                        refine And.imp_left (rs_ialdS i_L_law_499 (sScrI SH c198)) ?_
                        obtain ⟨o200, e200, hf⟩ := bind_some hf
                        obtain ⟨u200, SH2⟩ := k_X8_stepTold (X := X) (d := d) (by omega) (by omega) SH e200
                        refine And.imp_left (rs_inV i_L_law_500 m_X8_stepTold rfl (As := [.int (X (ix (v3 + 1))), .int (X (ix (v3 + 2)))]) (rest := []) rfl rfl (Nat.le_of_ble_eq_true rfl) (sO8 SH hh) u200 (st' := [.int o200.1]) rfl) ?_
                        clear SH; have SH := SH2; clear SH2
                        refine And.imp_left (rs_pop i_L_law_503 rfl) ?_
                        refine And.imp_left (rs_goto i_L_law_504 (tg := 1769) (by decide)) ?_
                        exact q_L_law_1769 hd hh ih SH hf
                      · replace hf := (if_neg c11).symm.trans hf
                        by_cases c12 : ((X (ix v3)) &&& 63) = 9
                        · replace hf := (if_pos c12).symm.trans hf
                          refine And.imp_left (rs_tsw i_L_law_33 (off := 474) (by rw [c12]; decide) (tg := 507) (by decide)) ?_
                          refine And.imp_left (rs_aload_n i_L_law_507 rfl) ?_
                          refine And.imp_left (rs_aload_n i_L_law_508 rfl) ?_
                          refine And.imp_left (rs_iload_n i_L_law_509 rfl) ?_
                          refine And.imp_left (rs_iconst i_L_law_510 (v := 1) (by decide)) ?_
                          refine And.imp_left (rs_iadd i_L_law_511) ?_
                          obtain ⟨c192, hf⟩ := ite_some hf
                          refine And.imp_left (rs_ialdS i_L_law_512 (sScrI SH c192)) ?_
                          refine And.imp_left (rs_aload_n i_L_law_513 rfl) ?_
                          refine And.imp_left (rs_iload_n i_L_law_514 rfl) ?_
                          refine And.imp_left (rs_iconst i_L_law_515 (v := 2) (by decide)) ?_
                          refine And.imp_left (rs_iadd i_L_law_516) ?_
                          obtain ⟨c193, hf⟩ := ite_some hf
                          refine And.imp_left (rs_ialdS i_L_law_517 (sScrI SH c193)) ?_
                          refine And.imp_left (rs_aload_n i_L_law_518 rfl) ?_
                          refine And.imp_left (rs_iload_n i_L_law_519 rfl) ?_
                          refine And.imp_left (rs_iconst i_L_law_520 (v := 3) (by decide)) ?_
                          refine And.imp_left (rs_iadd i_L_law_521) ?_
                          obtain ⟨c194, hf⟩ := ite_some hf
                          refine And.imp_left (rs_ialdS i_L_law_522 (sScrI SH c194)) ?_
                          obtain ⟨o195, e195, hf⟩ := bind_some hf
                          obtain ⟨u195, SH2⟩ := k_X7_rope (X := X) (d := d) (by omega) (by omega) SH e195
                          refine And.imp_left (rs_inV i_L_law_523 m_X7_rope rfl (As := [.int (X (ix (v3 + 1))), .int (X (ix (v3 + 2))), .int (X (ix (v3 + 3)))]) (rest := []) rfl rfl (Nat.le_of_ble_eq_true rfl) (sO7 SH (by omega)) u195 (st' := [.int o195.1]) rfl) ?_
                          clear SH; have SH := SH2; clear SH2
                          refine And.imp_left (rs_pop i_L_law_526 rfl) ?_
                          refine And.imp_left (rs_aload_n i_L_law_527 rfl) ?_
                          refine And.imp_left (rs_aload_n i_L_law_528 rfl) ?_
                          refine And.imp_left (rs_iload_n i_L_law_529 rfl) ?_
                          refine And.imp_left (rs_iconst i_L_law_530 (v := 1) (by decide)) ?_
                          refine And.imp_left (rs_iadd i_L_law_531) ?_
                          refine And.imp_left (rs_ialdS i_L_law_532 (sScrI SH c192)) ?_
                          refine And.imp_left (rs_aload_n i_L_law_533 rfl) ?_
                          refine And.imp_left (rs_iload_n i_L_law_534 rfl) ?_
                          refine And.imp_left (rs_iconst i_L_law_535 (v := 2) (by decide)) ?_
                          refine And.imp_left (rs_iadd i_L_law_536) ?_
                          refine And.imp_left (rs_ialdS i_L_law_537 (sScrI SH c193)) ?_
                          refine And.imp_left (rs_aload_n i_L_law_538 rfl) ?_
                          refine And.imp_left (rs_iload_n i_L_law_539 rfl) ?_
                          refine And.imp_left (rs_iconst i_L_law_540 (v := 3) (by decide)) ?_
                          refine And.imp_left (rs_iadd i_L_law_541) ?_
                          refine And.imp_left (rs_ialdS i_L_law_542 (sScrI SH c194)) ?_
                          obtain ⟨o196, e196, hf⟩ := bind_some hf
                          obtain ⟨u196, SH2⟩ := k_X8_rope (X := X) (d := d) (by omega) (by omega) SH e196
                          refine And.imp_left (rs_inV i_L_law_543 m_X8_rope rfl (As := [.int (X (ix (v3 + 1))), .int (X (ix (v3 + 2))), .int (X (ix (v3 + 3)))]) (rest := []) rfl rfl (Nat.le_of_ble_eq_true rfl) (sO8 SH hh) u196 (st' := [.int o196.1]) rfl) ?_
                          clear SH; have SH := SH2; clear SH2
                          refine And.imp_left (rs_pop i_L_law_546 rfl) ?_
                          refine And.imp_left (rs_goto i_L_law_547 (tg := 1769) (by decide)) ?_
                          exact q_L_law_1769 hd hh ih SH hf
                        · replace hf := (if_neg c12).symm.trans hf
                          by_cases c13 : ((X (ix v3)) &&& 63) = 10
                          · replace hf := (if_pos c13).symm.trans hf
                            refine And.imp_left (rs_tsw i_L_law_33 (off := 517) (by rw [c13]; decide) (tg := 550) (by decide)) ?_
                            refine And.imp_left (rs_aload_n i_L_law_550 rfl) ?_
                            refine And.imp_left (rs_aload_n i_L_law_551 rfl) ?_
                            refine And.imp_left (rs_iload_n i_L_law_552 rfl) ?_
                            refine And.imp_left (rs_iconst i_L_law_553 (v := 1) (by decide)) ?_
                            refine And.imp_left (rs_iadd i_L_law_554) ?_
                            obtain ⟨c188, hf⟩ := ite_some hf
                            refine And.imp_left (rs_ialdS i_L_law_555 (sScrI SH c188)) ?_
                            refine And.imp_left (rs_aload_n i_L_law_556 rfl) ?_
                            refine And.imp_left (rs_iload_n i_L_law_557 rfl) ?_
                            refine And.imp_left (rs_iconst i_L_law_558 (v := 2) (by decide)) ?_
                            refine And.imp_left (rs_iadd i_L_law_559) ?_
                            obtain ⟨c189, hf⟩ := ite_some hf
                            refine And.imp_left (rs_ialdS i_L_law_560 (sScrI SH c189)) ?_
                            obtain ⟨o190, e190, hf⟩ := bind_some hf
                            obtain ⟨u190, SH2⟩ := k_X7_state (X := X) (d := d) (by omega) (by omega) SH e190
                            refine And.imp_left (rs_inV i_L_law_561 m_X7_state rfl (As := [.int (X (ix (v3 + 1))), .int (X (ix (v3 + 2)))]) (rest := []) rfl rfl (Nat.le_of_ble_eq_true rfl) (sO7 SH (by omega)) u190 (st' := [.long o190.1]) rfl) ?_
                            clear SH; have SH := SH2; clear SH2
                            refine And.imp_left (rs_pop2 i_L_law_564 rfl) ?_
                            refine And.imp_left (rs_aload_n i_L_law_565 rfl) ?_
                            refine And.imp_left (rs_aload_n i_L_law_566 rfl) ?_
                            refine And.imp_left (rs_iload_n i_L_law_567 rfl) ?_
                            refine And.imp_left (rs_iconst i_L_law_568 (v := 1) (by decide)) ?_
                            refine And.imp_left (rs_iadd i_L_law_569) ?_
                            refine And.imp_left (rs_ialdS i_L_law_570 (sScrI SH c188)) ?_
                            refine And.imp_left (rs_aload_n i_L_law_571 rfl) ?_
                            refine And.imp_left (rs_iload_n i_L_law_572 rfl) ?_
                            refine And.imp_left (rs_iconst i_L_law_573 (v := 2) (by decide)) ?_
                            refine And.imp_left (rs_iadd i_L_law_574) ?_
                            refine And.imp_left (rs_ialdS i_L_law_575 (sScrI SH c189)) ?_
                            obtain ⟨o191, e191, hf⟩ := bind_some hf
                            obtain ⟨u191, SH2⟩ := k_X8_state (X := X) (d := d) (by omega) (by omega) SH e191
                            refine And.imp_left (rs_inV i_L_law_576 m_X8_state rfl (As := [.int (X (ix (v3 + 1))), .int (X (ix (v3 + 2)))]) (rest := []) rfl rfl (Nat.le_of_ble_eq_true rfl) (sO8 SH hh) u191 (st' := [.long o191.1]) rfl) ?_
                            clear SH; have SH := SH2; clear SH2
                            refine And.imp_left (rs_pop2 i_L_law_579 rfl) ?_
                            refine And.imp_left (rs_goto i_L_law_580 (tg := 1769) (by decide)) ?_
                            exact q_L_law_1769 hd hh ih SH hf
                          · replace hf := (if_neg c13).symm.trans hf
                            by_cases c14 : ((X (ix v3)) &&& 63) = 11
                            · replace hf := (if_pos c14).symm.trans hf
                              refine And.imp_left (rs_tsw i_L_law_33 (off := 550) (by rw [c14]; decide) (tg := 583) (by decide)) ?_
                              refine And.imp_left (rs_aload_n i_L_law_583 rfl) ?_
                              refine And.imp_left (rs_aload_n i_L_law_584 rfl) ?_
                              refine And.imp_left (rs_iload_n i_L_law_585 rfl) ?_
                              refine And.imp_left (rs_iconst i_L_law_586 (v := 1) (by decide)) ?_
                              refine And.imp_left (rs_iadd i_L_law_587) ?_
                              obtain ⟨c184, hf⟩ := ite_some hf
                              refine And.imp_left (rs_ialdS i_L_law_588 (sScrI SH c184)) ?_
                              refine And.imp_left (rs_aload_n i_L_law_589 rfl) ?_
                              refine And.imp_left (rs_iload_n i_L_law_590 rfl) ?_
                              refine And.imp_left (rs_iconst i_L_law_591 (v := 2) (by decide)) ?_
                              refine And.imp_left (rs_iadd i_L_law_592) ?_
                              obtain ⟨c185, hf⟩ := ite_some hf
                              refine And.imp_left (rs_ialdS i_L_law_593 (sScrI SH c185)) ?_
                              obtain ⟨o186, e186, hf⟩ := bind_some hf
                              obtain ⟨u186, SH2⟩ := k_X7_whole (X := X) (d := d) (by omega) (by omega) SH e186
                              refine And.imp_left (rs_inV i_L_law_594 m_X7_whole rfl (As := [.int (X (ix (v3 + 1))), .int (X (ix (v3 + 2)))]) (rest := []) rfl rfl (Nat.le_of_ble_eq_true rfl) (sO7 SH (by omega)) u186 (st' := [.long o186.1]) rfl) ?_
                              clear SH; have SH := SH2; clear SH2
                              refine And.imp_left (rs_pop2 i_L_law_597 rfl) ?_
                              refine And.imp_left (rs_aload_n i_L_law_598 rfl) ?_
                              refine And.imp_left (rs_aload_n i_L_law_599 rfl) ?_
                              refine And.imp_left (rs_iload_n i_L_law_600 rfl) ?_
                              refine And.imp_left (rs_iconst i_L_law_601 (v := 1) (by decide)) ?_
                              refine And.imp_left (rs_iadd i_L_law_602) ?_
                              refine And.imp_left (rs_ialdS i_L_law_603 (sScrI SH c184)) ?_
                              refine And.imp_left (rs_aload_n i_L_law_604 rfl) ?_
                              refine And.imp_left (rs_iload_n i_L_law_605 rfl) ?_
                              refine And.imp_left (rs_iconst i_L_law_606 (v := 2) (by decide)) ?_
                              refine And.imp_left (rs_iadd i_L_law_607) ?_
                              refine And.imp_left (rs_ialdS i_L_law_608 (sScrI SH c185)) ?_
                              obtain ⟨o187, e187, hf⟩ := bind_some hf
                              obtain ⟨u187, SH2⟩ := k_X8_whole (X := X) (d := d) (by omega) (by omega) SH e187
                              refine And.imp_left (rs_inV i_L_law_609 m_X8_whole rfl (As := [.int (X (ix (v3 + 1))), .int (X (ix (v3 + 2)))]) (rest := []) rfl rfl (Nat.le_of_ble_eq_true rfl) (sO8 SH hh) u187 (st' := [.long o187.1]) rfl) ?_
                              clear SH; have SH := SH2; clear SH2
                              refine And.imp_left (rs_pop2 i_L_law_612 rfl) ?_
                              refine And.imp_left (rs_goto i_L_law_613 (tg := 1769) (by decide)) ?_
                              exact q_L_law_1769 hd hh ih SH hf
                            · replace hf := (if_neg c14).symm.trans hf
                              by_cases c15 : ((X (ix v3)) &&& 63) = 12
                              · replace hf := (if_pos c15).symm.trans hf
                                refine And.imp_left (rs_tsw i_L_law_33 (off := 583) (by rw [c15]; decide) (tg := 616) (by decide)) ?_
                                refine And.imp_left (rs_aload_n i_L_law_616 rfl) ?_
                                refine And.imp_left (rs_aload_n i_L_law_617 rfl) ?_
                                refine And.imp_left (rs_iload_n i_L_law_618 rfl) ?_
                                refine And.imp_left (rs_iconst i_L_law_619 (v := 1) (by decide)) ?_
                                refine And.imp_left (rs_iadd i_L_law_620) ?_
                                obtain ⟨c181, hf⟩ := ite_some hf
                                refine And.imp_left (rs_ialdS i_L_law_621 (sScrI SH c181)) ?_
                                obtain ⟨o182, e182, hf⟩ := bind_some hf
                                obtain ⟨u182, SH2⟩ := k_X7_stop (X := X) (d := d) (by omega) (by omega) SH e182
                                refine And.imp_left (rs_inV i_L_law_622 m_X7_stop rfl (As := [.int (X (ix (v3 + 1)))]) (rest := []) rfl rfl (Nat.le_of_ble_eq_true rfl) (sO7 SH (by omega)) u182 (st' := [.int o182.1]) rfl) ?_
                                clear SH; have SH := SH2; clear SH2
                                refine And.imp_left (rs_pop i_L_law_625 rfl) ?_
                                refine And.imp_left (rs_aload_n i_L_law_626 rfl) ?_
                                refine And.imp_left (rs_aload_n i_L_law_627 rfl) ?_
                                refine And.imp_left (rs_iload_n i_L_law_628 rfl) ?_
                                refine And.imp_left (rs_iconst i_L_law_629 (v := 1) (by decide)) ?_
                                refine And.imp_left (rs_iadd i_L_law_630) ?_
                                refine And.imp_left (rs_ialdS i_L_law_631 (sScrI SH c181)) ?_
                                obtain ⟨o183, e183, hf⟩ := bind_some hf
                                obtain ⟨u183, SH2⟩ := k_X8_stop (X := X) (d := d) (by omega) (by omega) SH e183
                                refine And.imp_left (rs_inV i_L_law_632 m_X8_stop rfl (As := [.int (X (ix (v3 + 1)))]) (rest := []) rfl rfl (Nat.le_of_ble_eq_true rfl) (sO8 SH hh) u183 (st' := [.int o183.1]) rfl) ?_
                                clear SH; have SH := SH2; clear SH2
                                refine And.imp_left (rs_pop i_L_law_635 rfl) ?_
                                refine And.imp_left (rs_goto i_L_law_636 (tg := 1769) (by decide)) ?_
                                exact q_L_law_1769 hd hh ih SH hf
                              · replace hf := (if_neg c15).symm.trans hf
                                by_cases c16 : ((X (ix v3)) &&& 63) = 13
                                · replace hf := (if_pos c16).symm.trans hf
                                  refine And.imp_left (rs_tsw i_L_law_33 (off := 606) (by rw [c16]; decide) (tg := 639) (by decide)) ?_
                                  refine And.imp_left (rs_aload_n i_L_law_639 rfl) ?_
                                  obtain ⟨o179, e179, hf⟩ := bind_some hf
                                  obtain ⟨u179, SH2⟩ := k_X7_worst (X := X) (d := d) (by omega) (by omega) SH e179
                                  refine And.imp_left (rs_inV i_L_law_640 m_X7_worst rfl (As := []) (rest := []) rfl rfl (Nat.le_of_ble_eq_true rfl) (sO7 SH (by omega)) u179 (st' := [.int o179.1]) rfl) ?_
                                  clear SH; have SH := SH2; clear SH2
                                  refine And.imp_left (rs_pop i_L_law_643 rfl) ?_
                                  refine And.imp_left (rs_aload_n i_L_law_644 rfl) ?_
                                  obtain ⟨o180, e180, hf⟩ := bind_some hf
                                  obtain ⟨u180, SH2⟩ := k_X8_worst (X := X) (d := d) (by omega) (by omega) SH e180
                                  refine And.imp_left (rs_inV i_L_law_645 m_X8_worst rfl (As := []) (rest := []) rfl rfl (Nat.le_of_ble_eq_true rfl) (sO8 SH hh) u180 (st' := [.int o180.1]) rfl) ?_
                                  clear SH; have SH := SH2; clear SH2
                                  refine And.imp_left (rs_pop i_L_law_648 rfl) ?_
                                  refine And.imp_left (rs_goto i_L_law_649 (tg := 1769) (by decide)) ?_
                                  exact q_L_law_1769 hd hh ih SH hf
                                · replace hf := (if_neg c16).symm.trans hf
                                  by_cases c17 : ((X (ix v3)) &&& 63) = 14
                                  · replace hf := (if_pos c17).symm.trans hf
                                    refine And.imp_left (rs_tsw i_L_law_33 (off := 619) (by rw [c17]; decide) (tg := 652) (by decide)) ?_
                                    refine And.imp_left (rs_aload_n i_L_law_652 rfl) ?_
                                    refine And.imp_left (rs_aload_n i_L_law_653 rfl) ?_
                                    refine And.imp_left (rs_iload_n i_L_law_654 rfl) ?_
                                    refine And.imp_left (rs_iconst i_L_law_655 (v := 1) (by decide)) ?_
                                    refine And.imp_left (rs_iadd i_L_law_656) ?_
                                    obtain ⟨c175, hf⟩ := ite_some hf
                                    refine And.imp_left (rs_ialdS i_L_law_657 (sScrI SH c175)) ?_
                                    refine And.imp_left (rs_aload_n i_L_law_658 rfl) ?_
                                    refine And.imp_left (rs_iload_n i_L_law_659 rfl) ?_
                                    refine And.imp_left (rs_iconst i_L_law_660 (v := 2) (by decide)) ?_
                                    refine And.imp_left (rs_iadd i_L_law_661) ?_
                                    obtain ⟨c176, hf⟩ := ite_some hf
                                    refine And.imp_left (rs_ialdS i_L_law_662 (sScrI SH c176)) ?_
                                    obtain ⟨o177, e177, hf⟩ := bind_some hf
                                    obtain ⟨u177, SH2⟩ := k_X7_window (X := X) (d := d) (by omega) (by omega) SH e177
                                    refine And.imp_left (rs_inV i_L_law_663 m_X7_window rfl (As := [.int (X (ix (v3 + 1))), .int (X (ix (v3 + 2)))]) (rest := []) rfl rfl (Nat.le_of_ble_eq_true rfl) (sO7 SH (by omega)) u177 (st' := [.int o177.1]) rfl) ?_
                                    clear SH; have SH := SH2; clear SH2
                                    refine And.imp_left (rs_pop i_L_law_666 rfl) ?_
                                    refine And.imp_left (rs_aload_n i_L_law_667 rfl) ?_
                                    refine And.imp_left (rs_aload_n i_L_law_668 rfl) ?_
                                    refine And.imp_left (rs_iload_n i_L_law_669 rfl) ?_
                                    refine And.imp_left (rs_iconst i_L_law_670 (v := 1) (by decide)) ?_
                                    refine And.imp_left (rs_iadd i_L_law_671) ?_
                                    refine And.imp_left (rs_ialdS i_L_law_672 (sScrI SH c175)) ?_
                                    refine And.imp_left (rs_aload_n i_L_law_673 rfl) ?_
                                    refine And.imp_left (rs_iload_n i_L_law_674 rfl) ?_
                                    refine And.imp_left (rs_iconst i_L_law_675 (v := 2) (by decide)) ?_
                                    refine And.imp_left (rs_iadd i_L_law_676) ?_
                                    refine And.imp_left (rs_ialdS i_L_law_677 (sScrI SH c176)) ?_
                                    obtain ⟨o178, e178, hf⟩ := bind_some hf
                                    obtain ⟨u178, SH2⟩ := k_X8_window (X := X) (d := d) (by omega) (by omega) SH e178
                                    refine And.imp_left (rs_inV i_L_law_678 m_X8_window rfl (As := [.int (X (ix (v3 + 1))), .int (X (ix (v3 + 2)))]) (rest := []) rfl rfl (Nat.le_of_ble_eq_true rfl) (sO8 SH hh) u178 (st' := [.int o178.1]) rfl) ?_
                                    clear SH; have SH := SH2; clear SH2
                                    refine And.imp_left (rs_pop i_L_law_681 rfl) ?_
                                    refine And.imp_left (rs_goto i_L_law_682 (tg := 1769) (by decide)) ?_
                                    exact q_L_law_1769 hd hh ih SH hf
                                  · replace hf := (if_neg c17).symm.trans hf
                                    by_cases c18 : ((X (ix v3)) &&& 63) = 15
                                    · replace hf := (if_pos c18).symm.trans hf
                                      refine And.imp_left (rs_tsw i_L_law_33 (off := 652) (by rw [c18]; decide) (tg := 685) (by decide)) ?_
                                      refine And.imp_left (rs_aload_n i_L_law_685 rfl) ?_
                                      refine And.imp_left (rs_aload_n i_L_law_686 rfl) ?_
                                      refine And.imp_left (rs_iload_n i_L_law_687 rfl) ?_
                                      refine And.imp_left (rs_iconst i_L_law_688 (v := 1) (by decide)) ?_
                                      refine And.imp_left (rs_iadd i_L_law_689) ?_
                                      obtain ⟨c170, hf⟩ := ite_some hf
                                      refine And.imp_left (rs_ialdS i_L_law_690 (sScrI SH c170)) ?_
                                      refine And.imp_left (rs_aload_n i_L_law_691 rfl) ?_
                                      refine And.imp_left (rs_iload_n i_L_law_692 rfl) ?_
                                      refine And.imp_left (rs_iconst i_L_law_693 (v := 2) (by decide)) ?_
                                      refine And.imp_left (rs_iadd i_L_law_694) ?_
                                      obtain ⟨c171, hf⟩ := ite_some hf
                                      refine And.imp_left (rs_ialdS i_L_law_695 (sScrI SH c171)) ?_
                                      refine And.imp_left (rs_aload_n i_L_law_696 rfl) ?_
                                      refine And.imp_left (rs_iload_n i_L_law_697 rfl) ?_
                                      refine And.imp_left (rs_iconst i_L_law_698 (v := 3) (by decide)) ?_
                                      refine And.imp_left (rs_iadd i_L_law_699) ?_
                                      obtain ⟨c172, hf⟩ := ite_some hf
                                      refine And.imp_left (rs_ialdS i_L_law_700 (sScrI SH c172)) ?_
                                      obtain ⟨o173, e173, hf⟩ := bind_some hf
                                      obtain ⟨u173, SH2⟩ := k_X7_pace (X := X) (d := d) (by omega) (by omega) SH e173
                                      refine And.imp_left (rs_inV i_L_law_701 m_X7_pace rfl (As := [.int (X (ix (v3 + 1))), .int (X (ix (v3 + 2))), .int (X (ix (v3 + 3)))]) (rest := []) rfl rfl (Nat.le_of_ble_eq_true rfl) (sO7 SH (by omega)) u173 (st' := [.int o173.1]) rfl) ?_
                                      clear SH; have SH := SH2; clear SH2
                                      refine And.imp_left (rs_pop i_L_law_704 rfl) ?_
                                      refine And.imp_left (rs_aload_n i_L_law_705 rfl) ?_
                                      refine And.imp_left (rs_aload_n i_L_law_706 rfl) ?_
                                      refine And.imp_left (rs_iload_n i_L_law_707 rfl) ?_
                                      refine And.imp_left (rs_iconst i_L_law_708 (v := 1) (by decide)) ?_
                                      refine And.imp_left (rs_iadd i_L_law_709) ?_
                                      refine And.imp_left (rs_ialdS i_L_law_710 (sScrI SH c170)) ?_
                                      refine And.imp_left (rs_aload_n i_L_law_711 rfl) ?_
                                      refine And.imp_left (rs_iload_n i_L_law_712 rfl) ?_
                                      refine And.imp_left (rs_iconst i_L_law_713 (v := 2) (by decide)) ?_
                                      refine And.imp_left (rs_iadd i_L_law_714) ?_
                                      refine And.imp_left (rs_ialdS i_L_law_715 (sScrI SH c171)) ?_
                                      refine And.imp_left (rs_aload_n i_L_law_716 rfl) ?_
                                      refine And.imp_left (rs_iload_n i_L_law_717 rfl) ?_
                                      refine And.imp_left (rs_iconst i_L_law_718 (v := 3) (by decide)) ?_
                                      refine And.imp_left (rs_iadd i_L_law_719) ?_
                                      refine And.imp_left (rs_ialdS i_L_law_720 (sScrI SH c172)) ?_
                                      obtain ⟨o174, e174, hf⟩ := bind_some hf
                                      obtain ⟨u174, SH2⟩ := k_X8_pace (X := X) (d := d) (by omega) (by omega) SH e174
                                      refine And.imp_left (rs_inV i_L_law_721 m_X8_pace rfl (As := [.int (X (ix (v3 + 1))), .int (X (ix (v3 + 2))), .int (X (ix (v3 + 3)))]) (rest := []) rfl rfl (Nat.le_of_ble_eq_true rfl) (sO8 SH hh) u174 (st' := [.int o174.1]) rfl) ?_
                                      clear SH; have SH := SH2; clear SH2
                                      refine And.imp_left (rs_pop i_L_law_724 rfl) ?_
                                      refine And.imp_left (rs_goto i_L_law_725 (tg := 1769) (by decide)) ?_
                                      exact q_L_law_1769 hd hh ih SH hf
                                    · replace hf := (if_neg c18).symm.trans hf
                                      by_cases c19 : ((X (ix v3)) &&& 63) = 16
                                      · replace hf := (if_pos c19).symm.trans hf
                                        refine And.imp_left (rs_tsw i_L_law_33 (off := 695) (by rw [c19]; decide) (tg := 728) (by decide)) ?_
                                        refine And.imp_left (rs_aload_n i_L_law_728 rfl) ?_
                                        refine And.imp_left (rs_aload_n i_L_law_729 rfl) ?_
                                        refine And.imp_left (rs_iload_n i_L_law_730 rfl) ?_
                                        refine And.imp_left (rs_iconst i_L_law_731 (v := 1) (by decide)) ?_
                                        refine And.imp_left (rs_iadd i_L_law_732) ?_
                                        obtain ⟨c165, hf⟩ := ite_some hf
                                        refine And.imp_left (rs_ialdS i_L_law_733 (sScrI SH c165)) ?_
                                        refine And.imp_left (rs_aload_n i_L_law_734 rfl) ?_
                                        refine And.imp_left (rs_iload_n i_L_law_735 rfl) ?_
                                        refine And.imp_left (rs_iconst i_L_law_736 (v := 2) (by decide)) ?_
                                        refine And.imp_left (rs_iadd i_L_law_737) ?_
                                        obtain ⟨c166, hf⟩ := ite_some hf
                                        refine And.imp_left (rs_ialdS i_L_law_738 (sScrI SH c166)) ?_
                                        refine And.imp_left (rs_aload_n i_L_law_739 rfl) ?_
                                        refine And.imp_left (rs_iload_n i_L_law_740 rfl) ?_
                                        refine And.imp_left (rs_iconst i_L_law_741 (v := 3) (by decide)) ?_
                                        refine And.imp_left (rs_iadd i_L_law_742) ?_
                                        obtain ⟨c167, hf⟩ := ite_some hf
                                        refine And.imp_left (rs_ialdS i_L_law_743 (sScrI SH c167)) ?_
                                        obtain ⟨o168, e168, hf⟩ := bind_some hf
                                        obtain ⟨u168, SH2⟩ := k_X7_rest (X := X) (d := d) (by omega) (by omega) SH e168
                                        refine And.imp_left (rs_inV i_L_law_744 m_X7_rest rfl (As := [.int (X (ix (v3 + 1))), .int (X (ix (v3 + 2))), .int (X (ix (v3 + 3)))]) (rest := []) rfl rfl (Nat.le_of_ble_eq_true rfl) (sO7 SH (by omega)) u168 (st' := [.int o168.1]) rfl) ?_
                                        clear SH; have SH := SH2; clear SH2
                                        refine And.imp_left (rs_pop i_L_law_747 rfl) ?_
                                        refine And.imp_left (rs_aload_n i_L_law_748 rfl) ?_
                                        refine And.imp_left (rs_aload_n i_L_law_749 rfl) ?_
                                        refine And.imp_left (rs_iload_n i_L_law_750 rfl) ?_
                                        refine And.imp_left (rs_iconst i_L_law_751 (v := 1) (by decide)) ?_
                                        refine And.imp_left (rs_iadd i_L_law_752) ?_
                                        refine And.imp_left (rs_ialdS i_L_law_753 (sScrI SH c165)) ?_
                                        refine And.imp_left (rs_aload_n i_L_law_754 rfl) ?_
                                        refine And.imp_left (rs_iload_n i_L_law_755 rfl) ?_
                                        refine And.imp_left (rs_iconst i_L_law_756 (v := 2) (by decide)) ?_
                                        refine And.imp_left (rs_iadd i_L_law_757) ?_
                                        refine And.imp_left (rs_ialdS i_L_law_758 (sScrI SH c166)) ?_
                                        refine And.imp_left (rs_aload_n i_L_law_759 rfl) ?_
                                        refine And.imp_left (rs_iload_n i_L_law_760 rfl) ?_
                                        refine And.imp_left (rs_iconst i_L_law_761 (v := 3) (by decide)) ?_
                                        refine And.imp_left (rs_iadd i_L_law_762) ?_
                                        refine And.imp_left (rs_ialdS i_L_law_763 (sScrI SH c167)) ?_
                                        obtain ⟨o169, e169, hf⟩ := bind_some hf
                                        obtain ⟨u169, SH2⟩ := k_X8_rest (X := X) (d := d) (by omega) (by omega) SH e169
                                        refine And.imp_left (rs_inV i_L_law_764 m_X8_rest rfl (As := [.int (X (ix (v3 + 1))), .int (X (ix (v3 + 2))), .int (X (ix (v3 + 3)))]) (rest := []) rfl rfl (Nat.le_of_ble_eq_true rfl) (sO8 SH hh) u169 (st' := [.int o169.1]) rfl) ?_
                                        clear SH; have SH := SH2; clear SH2
                                        refine And.imp_left (rs_pop i_L_law_767 rfl) ?_
                                        refine And.imp_left (rs_goto i_L_law_768 (tg := 1769) (by decide)) ?_
                                        exact q_L_law_1769 hd hh ih SH hf
                                      · replace hf := (if_neg c19).symm.trans hf
                                        by_cases c20 : ((X (ix v3)) &&& 63) = 17
                                        · replace hf := (if_pos c20).symm.trans hf
                                          refine And.imp_left (rs_tsw i_L_law_33 (off := 738) (by rw [c20]; decide) (tg := 771) (by decide)) ?_
                                          refine And.imp_left (rs_aload_n i_L_law_771 rfl) ?_
                                          refine And.imp_left (rs_aload_n i_L_law_772 rfl) ?_
                                          refine And.imp_left (rs_iload_n i_L_law_773 rfl) ?_
                                          refine And.imp_left (rs_iconst i_L_law_774 (v := 1) (by decide)) ?_
                                          refine And.imp_left (rs_iadd i_L_law_775) ?_
                                          obtain ⟨c161, hf⟩ := ite_some hf
                                          refine And.imp_left (rs_ialdS i_L_law_776 (sScrI SH c161)) ?_
                                          refine And.imp_left (rs_aload_n i_L_law_777 rfl) ?_
                                          refine And.imp_left (rs_iload_n i_L_law_778 rfl) ?_
                                          refine And.imp_left (rs_iconst i_L_law_779 (v := 2) (by decide)) ?_
                                          refine And.imp_left (rs_iadd i_L_law_780) ?_
                                          obtain ⟨c162, hf⟩ := ite_some hf
                                          refine And.imp_left (rs_ialdS i_L_law_781 (sScrI SH c162)) ?_
                                          obtain ⟨o163, e163, hf⟩ := bind_some hf
                                          obtain ⟨u163, SH2⟩ := k_X7_dust (X := X) (d := d) (by omega) (by omega) SH e163
                                          refine And.imp_left (rs_inV i_L_law_782 m_X7_dust rfl (As := [.int (X (ix (v3 + 1))), .int (X (ix (v3 + 2)))]) (rest := []) rfl rfl (Nat.le_of_ble_eq_true rfl) (sO7 SH (by omega)) u163 (st' := [.int o163.1]) rfl) ?_
                                          clear SH; have SH := SH2; clear SH2
                                          refine And.imp_left (rs_pop i_L_law_785 rfl) ?_
                                          refine And.imp_left (rs_aload_n i_L_law_786 rfl) ?_
                                          refine And.imp_left (rs_aload_n i_L_law_787 rfl) ?_
                                          refine And.imp_left (rs_iload_n i_L_law_788 rfl) ?_
                                          refine And.imp_left (rs_iconst i_L_law_789 (v := 1) (by decide)) ?_
                                          refine And.imp_left (rs_iadd i_L_law_790) ?_
                                          refine And.imp_left (rs_ialdS i_L_law_791 (sScrI SH c161)) ?_
                                          refine And.imp_left (rs_aload_n i_L_law_792 rfl) ?_
                                          refine And.imp_left (rs_iload_n i_L_law_793 rfl) ?_
                                          refine And.imp_left (rs_iconst i_L_law_794 (v := 2) (by decide)) ?_
                                          refine And.imp_left (rs_iadd i_L_law_795) ?_
                                          refine And.imp_left (rs_ialdS i_L_law_796 (sScrI SH c162)) ?_
                                          obtain ⟨o164, e164, hf⟩ := bind_some hf
                                          obtain ⟨u164, SH2⟩ := k_X8_dust (X := X) (d := d) (by omega) (by omega) SH e164
                                          refine And.imp_left (rs_inV i_L_law_797 m_X8_dust rfl (As := [.int (X (ix (v3 + 1))), .int (X (ix (v3 + 2)))]) (rest := []) rfl rfl (Nat.le_of_ble_eq_true rfl) (sO8 SH hh) u164 (st' := [.int o164.1]) rfl) ?_
                                          clear SH; have SH := SH2; clear SH2
                                          refine And.imp_left (rs_pop i_L_law_800 rfl) ?_
                                          refine And.imp_left (rs_goto i_L_law_801 (tg := 1769) (by decide)) ?_
                                          exact q_L_law_1769 hd hh ih SH hf
                                        · replace hf := (if_neg c20).symm.trans hf
                                          by_cases c21 : ((X (ix v3)) &&& 63) = 18
                                          · replace hf := (if_pos c21).symm.trans hf
                                            refine And.imp_left (rs_tsw i_L_law_33 (off := 771) (by rw [c21]; decide) (tg := 804) (by decide)) ?_
                                            refine And.imp_left (rs_aload_n i_L_law_804 rfl) ?_
                                            refine And.imp_left (rs_aload_n i_L_law_805 rfl) ?_
                                            refine And.imp_left (rs_iload_n i_L_law_806 rfl) ?_
                                            refine And.imp_left (rs_iconst i_L_law_807 (v := 1) (by decide)) ?_
                                            refine And.imp_left (rs_iadd i_L_law_808) ?_
                                            obtain ⟨c156, hf⟩ := ite_some hf
                                            refine And.imp_left (rs_ialdS i_L_law_809 (sScrI SH c156)) ?_
                                            refine And.imp_left (rs_aload_n i_L_law_810 rfl) ?_
                                            refine And.imp_left (rs_iload_n i_L_law_811 rfl) ?_
                                            refine And.imp_left (rs_iconst i_L_law_812 (v := 2) (by decide)) ?_
                                            refine And.imp_left (rs_iadd i_L_law_813) ?_
                                            obtain ⟨c157, hf⟩ := ite_some hf
                                            refine And.imp_left (rs_ialdS i_L_law_814 (sScrI SH c157)) ?_
                                            refine And.imp_left (rs_aload_n i_L_law_815 rfl) ?_
                                            refine And.imp_left (rs_iload_n i_L_law_816 rfl) ?_
                                            refine And.imp_left (rs_iconst i_L_law_817 (v := 3) (by decide)) ?_
                                            refine And.imp_left (rs_iadd i_L_law_818) ?_
                                            obtain ⟨c158, hf⟩ := ite_some hf
                                            refine And.imp_left (rs_ialdS i_L_law_819 (sScrI SH c158)) ?_
                                            obtain ⟨o159, e159, hf⟩ := bind_some hf
                                            obtain ⟨u159, SH2⟩ := k_X7_doublings (X := X) (d := d) (by omega) (by omega) SH e159
                                            refine And.imp_left (rs_inV i_L_law_820 m_X7_doublings rfl (As := [.int (X (ix (v3 + 1))), .int (X (ix (v3 + 2))), .int (X (ix (v3 + 3)))]) (rest := []) rfl rfl (Nat.le_of_ble_eq_true rfl) (sO7 SH (by omega)) u159 (st' := [.int o159.1]) rfl) ?_
                                            clear SH; have SH := SH2; clear SH2
                                            refine And.imp_left (rs_pop i_L_law_823 rfl) ?_
                                            refine And.imp_left (rs_aload_n i_L_law_824 rfl) ?_
                                            refine And.imp_left (rs_aload_n i_L_law_825 rfl) ?_
                                            refine And.imp_left (rs_iload_n i_L_law_826 rfl) ?_
                                            refine And.imp_left (rs_iconst i_L_law_827 (v := 1) (by decide)) ?_
                                            refine And.imp_left (rs_iadd i_L_law_828) ?_
                                            refine And.imp_left (rs_ialdS i_L_law_829 (sScrI SH c156)) ?_
                                            refine And.imp_left (rs_aload_n i_L_law_830 rfl) ?_
                                            refine And.imp_left (rs_iload_n i_L_law_831 rfl) ?_
                                            refine And.imp_left (rs_iconst i_L_law_832 (v := 2) (by decide)) ?_
                                            refine And.imp_left (rs_iadd i_L_law_833) ?_
                                            refine And.imp_left (rs_ialdS i_L_law_834 (sScrI SH c157)) ?_
                                            refine And.imp_left (rs_aload_n i_L_law_835 rfl) ?_
                                            refine And.imp_left (rs_iload_n i_L_law_836 rfl) ?_
                                            refine And.imp_left (rs_iconst i_L_law_837 (v := 3) (by decide)) ?_
                                            refine And.imp_left (rs_iadd i_L_law_838) ?_
                                            refine And.imp_left (rs_ialdS i_L_law_839 (sScrI SH c158)) ?_
                                            obtain ⟨o160, e160, hf⟩ := bind_some hf
                                            obtain ⟨u160, SH2⟩ := k_X8_doublings (X := X) (d := d) (by omega) (by omega) SH e160
                                            refine And.imp_left (rs_inV i_L_law_840 m_X8_doublings rfl (As := [.int (X (ix (v3 + 1))), .int (X (ix (v3 + 2))), .int (X (ix (v3 + 3)))]) (rest := []) rfl rfl (Nat.le_of_ble_eq_true rfl) (sO8 SH hh) u160 (st' := [.int o160.1]) rfl) ?_
                                            clear SH; have SH := SH2; clear SH2
                                            refine And.imp_left (rs_pop i_L_law_843 rfl) ?_
                                            refine And.imp_left (rs_goto i_L_law_844 (tg := 1769) (by decide)) ?_
                                            exact q_L_law_1769 hd hh ih SH hf
                                          · replace hf := (if_neg c21).symm.trans hf
                                            by_cases c22 : ((X (ix v3)) &&& 63) = 19
                                            · replace hf := (if_pos c22).symm.trans hf
                                              refine And.imp_left (rs_tsw i_L_law_33 (off := 814) (by rw [c22]; decide) (tg := 847) (by decide)) ?_
                                              refine And.imp_left (rs_aload_n i_L_law_847 rfl) ?_
                                              refine And.imp_left (rs_aload_n i_L_law_848 rfl) ?_
                                              refine And.imp_left (rs_iload_n i_L_law_849 rfl) ?_
                                              refine And.imp_left (rs_iconst i_L_law_850 (v := 1) (by decide)) ?_
                                              refine And.imp_left (rs_iadd i_L_law_851) ?_
                                              obtain ⟨c151, hf⟩ := ite_some hf
                                              refine And.imp_left (rs_ialdS i_L_law_852 (sScrI SH c151)) ?_
                                              refine And.imp_left (rs_aload_n i_L_law_853 rfl) ?_
                                              refine And.imp_left (rs_iload_n i_L_law_854 rfl) ?_
                                              refine And.imp_left (rs_iconst i_L_law_855 (v := 2) (by decide)) ?_
                                              refine And.imp_left (rs_iadd i_L_law_856) ?_
                                              obtain ⟨c152, hf⟩ := ite_some hf
                                              refine And.imp_left (rs_ialdS i_L_law_857 (sScrI SH c152)) ?_
                                              refine And.imp_left (rs_aload_n i_L_law_858 rfl) ?_
                                              refine And.imp_left (rs_iload_n i_L_law_859 rfl) ?_
                                              refine And.imp_left (rs_iconst i_L_law_860 (v := 3) (by decide)) ?_
                                              refine And.imp_left (rs_iadd i_L_law_861) ?_
                                              obtain ⟨c153, hf⟩ := ite_some hf
                                              refine And.imp_left (rs_ialdS i_L_law_862 (sScrI SH c153)) ?_
                                              obtain ⟨o154, e154, hf⟩ := bind_some hf
                                              obtain ⟨u154, SH2⟩ := k_X7_judge (X := X) (d := d) (by omega) (by omega) SH e154
                                              refine And.imp_left (rs_inV i_L_law_863 m_X7_judge rfl (As := [.int (X (ix (v3 + 1))), .int (X (ix (v3 + 2))), .int (X (ix (v3 + 3)))]) (rest := []) rfl rfl (Nat.le_of_ble_eq_true rfl) (sO7 SH (by omega)) u154 (st' := [.int o154.1]) rfl) ?_
                                              clear SH; have SH := SH2; clear SH2
                                              refine And.imp_left (rs_pop i_L_law_866 rfl) ?_
                                              refine And.imp_left (rs_aload_n i_L_law_867 rfl) ?_
                                              refine And.imp_left (rs_aload_n i_L_law_868 rfl) ?_
                                              refine And.imp_left (rs_iload_n i_L_law_869 rfl) ?_
                                              refine And.imp_left (rs_iconst i_L_law_870 (v := 1) (by decide)) ?_
                                              refine And.imp_left (rs_iadd i_L_law_871) ?_
                                              refine And.imp_left (rs_ialdS i_L_law_872 (sScrI SH c151)) ?_
                                              refine And.imp_left (rs_aload_n i_L_law_873 rfl) ?_
                                              refine And.imp_left (rs_iload_n i_L_law_874 rfl) ?_
                                              refine And.imp_left (rs_iconst i_L_law_875 (v := 2) (by decide)) ?_
                                              refine And.imp_left (rs_iadd i_L_law_876) ?_
                                              refine And.imp_left (rs_ialdS i_L_law_877 (sScrI SH c152)) ?_
                                              refine And.imp_left (rs_aload_n i_L_law_878 rfl) ?_
                                              refine And.imp_left (rs_iload_n i_L_law_879 rfl) ?_
                                              refine And.imp_left (rs_iconst i_L_law_880 (v := 3) (by decide)) ?_
                                              refine And.imp_left (rs_iadd i_L_law_881) ?_
                                              refine And.imp_left (rs_ialdS i_L_law_882 (sScrI SH c153)) ?_
                                              obtain ⟨o155, e155, hf⟩ := bind_some hf
                                              obtain ⟨u155, SH2⟩ := k_X8_judge (X := X) (d := d) (by omega) (by omega) SH e155
                                              refine And.imp_left (rs_inV i_L_law_883 m_X8_judge rfl (As := [.int (X (ix (v3 + 1))), .int (X (ix (v3 + 2))), .int (X (ix (v3 + 3)))]) (rest := []) rfl rfl (Nat.le_of_ble_eq_true rfl) (sO8 SH hh) u155 (st' := [.int o155.1]) rfl) ?_
                                              clear SH; have SH := SH2; clear SH2
                                              refine And.imp_left (rs_pop i_L_law_886 rfl) ?_
                                              refine And.imp_left (rs_goto i_L_law_887 (tg := 1769) (by decide)) ?_
                                              exact q_L_law_1769 hd hh ih SH hf
                                            · replace hf := (if_neg c22).symm.trans hf
                                              by_cases c23 : ((X (ix v3)) &&& 63) = 20
                                              · replace hf := (if_pos c23).symm.trans hf
                                                refine And.imp_left (rs_tsw i_L_law_33 (off := 857) (by rw [c23]; decide) (tg := 890) (by decide)) ?_
                                                refine And.imp_left (rs_aload_n i_L_law_890 rfl) ?_
                                                refine And.imp_left (rs_aload_n i_L_law_891 rfl) ?_
                                                refine And.imp_left (rs_iload_n i_L_law_892 rfl) ?_
                                                refine And.imp_left (rs_iconst i_L_law_893 (v := 1) (by decide)) ?_
                                                refine And.imp_left (rs_iadd i_L_law_894) ?_
                                                obtain ⟨c147, hf⟩ := ite_some hf
                                                refine And.imp_left (rs_ialdS i_L_law_895 (sScrI SH c147)) ?_
                                                refine And.imp_left (rs_aload_n i_L_law_896 rfl) ?_
                                                refine And.imp_left (rs_iload_n i_L_law_897 rfl) ?_
                                                refine And.imp_left (rs_iconst i_L_law_898 (v := 2) (by decide)) ?_
                                                refine And.imp_left (rs_iadd i_L_law_899) ?_
                                                obtain ⟨c148, hf⟩ := ite_some hf
                                                refine And.imp_left (rs_ialdS i_L_law_900 (sScrI SH c148)) ?_
                                                obtain ⟨o149, e149, hf⟩ := bind_some hf
                                                obtain ⟨u149, SH2⟩ := k_X7_film (X := X) (d := d) (by omega) (by omega) SH e149
                                                refine And.imp_left (rs_inV i_L_law_901 m_X7_film rfl (As := [.int (X (ix (v3 + 1))), .int (X (ix (v3 + 2)))]) (rest := []) rfl rfl (Nat.le_of_ble_eq_true rfl) (sO7 SH (by omega)) u149 (st' := [.int o149.1]) rfl) ?_
                                                clear SH; have SH := SH2; clear SH2
                                                refine And.imp_left (rs_pop i_L_law_904 rfl) ?_
                                                refine And.imp_left (rs_aload_n i_L_law_905 rfl) ?_
                                                refine And.imp_left (rs_aload_n i_L_law_906 rfl) ?_
                                                refine And.imp_left (rs_iload_n i_L_law_907 rfl) ?_
                                                refine And.imp_left (rs_iconst i_L_law_908 (v := 1) (by decide)) ?_
                                                refine And.imp_left (rs_iadd i_L_law_909) ?_
                                                refine And.imp_left (rs_ialdS i_L_law_910 (sScrI SH c147)) ?_
                                                refine And.imp_left (rs_aload_n i_L_law_911 rfl) ?_
                                                refine And.imp_left (rs_iload_n i_L_law_912 rfl) ?_
                                                refine And.imp_left (rs_iconst i_L_law_913 (v := 2) (by decide)) ?_
                                                refine And.imp_left (rs_iadd i_L_law_914) ?_
                                                refine And.imp_left (rs_ialdS i_L_law_915 (sScrI SH c148)) ?_
                                                obtain ⟨o150, e150, hf⟩ := bind_some hf
                                                obtain ⟨u150, SH2⟩ := k_X8_film (X := X) (d := d) (by omega) (by omega) SH e150
                                                refine And.imp_left (rs_inV i_L_law_916 m_X8_film rfl (As := [.int (X (ix (v3 + 1))), .int (X (ix (v3 + 2)))]) (rest := []) rfl rfl (Nat.le_of_ble_eq_true rfl) (sO8 SH hh) u150 (st' := [.int o150.1]) rfl) ?_
                                                clear SH; have SH := SH2; clear SH2
                                                refine And.imp_left (rs_pop i_L_law_919 rfl) ?_
                                                refine And.imp_left (rs_goto i_L_law_920 (tg := 1769) (by decide)) ?_
                                                exact q_L_law_1769 hd hh ih SH hf
                                              · replace hf := (if_neg c23).symm.trans hf
                                                by_cases c24 : ((X (ix v3)) &&& 63) = 21
                                                · replace hf := (if_pos c24).symm.trans hf
                                                  refine And.imp_left (rs_tsw i_L_law_33 (off := 890) (by rw [c24]; decide) (tg := 923) (by decide)) ?_
                                                  refine And.imp_left (rs_aload_n i_L_law_923 rfl) ?_
                                                  refine And.imp_left (rs_aload_n i_L_law_924 rfl) ?_
                                                  refine And.imp_left (rs_iload_n i_L_law_925 rfl) ?_
                                                  refine And.imp_left (rs_iconst i_L_law_926 (v := 1) (by decide)) ?_
                                                  refine And.imp_left (rs_iadd i_L_law_927) ?_
                                                  obtain ⟨c142, hf⟩ := ite_some hf
                                                  refine And.imp_left (rs_ialdS i_L_law_928 (sScrI SH c142)) ?_
                                                  refine And.imp_left (rs_aload_n i_L_law_929 rfl) ?_
                                                  refine And.imp_left (rs_iload_n i_L_law_930 rfl) ?_
                                                  refine And.imp_left (rs_iconst i_L_law_931 (v := 2) (by decide)) ?_
                                                  refine And.imp_left (rs_iadd i_L_law_932) ?_
                                                  obtain ⟨c143, hf⟩ := ite_some hf
                                                  refine And.imp_left (rs_ialdS i_L_law_933 (sScrI SH c143)) ?_
                                                  refine And.imp_left (rs_aload_n i_L_law_934 rfl) ?_
                                                  refine And.imp_left (rs_iload_n i_L_law_935 rfl) ?_
                                                  refine And.imp_left (rs_iconst i_L_law_936 (v := 3) (by decide)) ?_
                                                  refine And.imp_left (rs_iadd i_L_law_937) ?_
                                                  obtain ⟨c144, hf⟩ := ite_some hf
                                                  refine And.imp_left (rs_ialdS i_L_law_938 (sScrI SH c144)) ?_
                                                  obtain ⟨o145, e145, hf⟩ := bind_some hf
                                                  obtain ⟨u145, SH2⟩ := k_X7_serves (X := X) (d := d) (by omega) (by omega) SH e145
                                                  refine And.imp_left (rs_inV i_L_law_939 m_X7_serves rfl (As := [.int (X (ix (v3 + 1))), .int (X (ix (v3 + 2))), .int (X (ix (v3 + 3)))]) (rest := []) rfl rfl (Nat.le_of_ble_eq_true rfl) (sO7 SH (by omega)) u145 (st' := [.int o145.1]) rfl) ?_
                                                  clear SH; have SH := SH2; clear SH2
                                                  refine And.imp_left (rs_pop i_L_law_942 rfl) ?_
                                                  refine And.imp_left (rs_aload_n i_L_law_943 rfl) ?_
                                                  refine And.imp_left (rs_aload_n i_L_law_944 rfl) ?_
                                                  refine And.imp_left (rs_iload_n i_L_law_945 rfl) ?_
                                                  refine And.imp_left (rs_iconst i_L_law_946 (v := 1) (by decide)) ?_
                                                  refine And.imp_left (rs_iadd i_L_law_947) ?_
                                                  refine And.imp_left (rs_ialdS i_L_law_948 (sScrI SH c142)) ?_
                                                  refine And.imp_left (rs_aload_n i_L_law_949 rfl) ?_
                                                  refine And.imp_left (rs_iload_n i_L_law_950 rfl) ?_
                                                  refine And.imp_left (rs_iconst i_L_law_951 (v := 2) (by decide)) ?_
                                                  refine And.imp_left (rs_iadd i_L_law_952) ?_
                                                  refine And.imp_left (rs_ialdS i_L_law_953 (sScrI SH c143)) ?_
                                                  refine And.imp_left (rs_aload_n i_L_law_954 rfl) ?_
                                                  refine And.imp_left (rs_iload_n i_L_law_955 rfl) ?_
                                                  refine And.imp_left (rs_iconst i_L_law_956 (v := 3) (by decide)) ?_
                                                  refine And.imp_left (rs_iadd i_L_law_957) ?_
                                                  refine And.imp_left (rs_ialdS i_L_law_958 (sScrI SH c144)) ?_
                                                  obtain ⟨o146, e146, hf⟩ := bind_some hf
                                                  obtain ⟨u146, SH2⟩ := k_X8_serves (X := X) (d := d) (by omega) (by omega) SH e146
                                                  refine And.imp_left (rs_inV i_L_law_959 m_X8_serves rfl (As := [.int (X (ix (v3 + 1))), .int (X (ix (v3 + 2))), .int (X (ix (v3 + 3)))]) (rest := []) rfl rfl (Nat.le_of_ble_eq_true rfl) (sO8 SH hh) u146 (st' := [.int o146.1]) rfl) ?_
                                                  clear SH; have SH := SH2; clear SH2
                                                  refine And.imp_left (rs_pop i_L_law_962 rfl) ?_
                                                  refine And.imp_left (rs_goto i_L_law_963 (tg := 1769) (by decide)) ?_
                                                  exact q_L_law_1769 hd hh ih SH hf
                                                · replace hf := (if_neg c24).symm.trans hf
                                                  by_cases c25 : ((X (ix v3)) &&& 63) = 22
                                                  · replace hf := (if_pos c25).symm.trans hf
                                                    refine And.imp_left (rs_tsw i_L_law_33 (off := 933) (by rw [c25]; decide) (tg := 966) (by decide)) ?_
                                                    refine And.imp_left (rs_aload_n i_L_law_966 rfl) ?_
                                                    refine And.imp_left (rs_aload_n i_L_law_967 rfl) ?_
                                                    refine And.imp_left (rs_iload_n i_L_law_968 rfl) ?_
                                                    refine And.imp_left (rs_iconst i_L_law_969 (v := 1) (by decide)) ?_
                                                    refine And.imp_left (rs_iadd i_L_law_970) ?_
                                                    obtain ⟨c138, hf⟩ := ite_some hf
                                                    refine And.imp_left (rs_ialdS i_L_law_971 (sScrI SH c138)) ?_
                                                    refine And.imp_left (rs_aload_n i_L_law_972 rfl) ?_
                                                    refine And.imp_left (rs_iload_n i_L_law_973 rfl) ?_
                                                    refine And.imp_left (rs_iconst i_L_law_974 (v := 2) (by decide)) ?_
                                                    refine And.imp_left (rs_iadd i_L_law_975) ?_
                                                    obtain ⟨c139, hf⟩ := ite_some hf
                                                    refine And.imp_left (rs_ialdS i_L_law_976 (sScrI SH c139)) ?_
                                                    obtain ⟨o140, e140, hf⟩ := bind_some hf
                                                    obtain ⟨u140, SH2⟩ := k_X7_which (X := X) (d := d) (by omega) (by omega) SH e140
                                                    refine And.imp_left (rs_inV i_L_law_977 m_X7_which rfl (As := [.int (X (ix (v3 + 1))), .int (X (ix (v3 + 2)))]) (rest := []) rfl rfl (Nat.le_of_ble_eq_true rfl) (sO7 SH (by omega)) u140 (st' := [.int o140.1]) rfl) ?_
                                                    clear SH; have SH := SH2; clear SH2
                                                    refine And.imp_left (rs_pop i_L_law_980 rfl) ?_
                                                    refine And.imp_left (rs_aload_n i_L_law_981 rfl) ?_
                                                    refine And.imp_left (rs_aload_n i_L_law_982 rfl) ?_
                                                    refine And.imp_left (rs_iload_n i_L_law_983 rfl) ?_
                                                    refine And.imp_left (rs_iconst i_L_law_984 (v := 1) (by decide)) ?_
                                                    refine And.imp_left (rs_iadd i_L_law_985) ?_
                                                    refine And.imp_left (rs_ialdS i_L_law_986 (sScrI SH c138)) ?_
                                                    refine And.imp_left (rs_aload_n i_L_law_987 rfl) ?_
                                                    refine And.imp_left (rs_iload_n i_L_law_988 rfl) ?_
                                                    refine And.imp_left (rs_iconst i_L_law_989 (v := 2) (by decide)) ?_
                                                    refine And.imp_left (rs_iadd i_L_law_990) ?_
                                                    refine And.imp_left (rs_ialdS i_L_law_991 (sScrI SH c139)) ?_
                                                    obtain ⟨o141, e141, hf⟩ := bind_some hf
                                                    obtain ⟨u141, SH2⟩ := k_X8_which (X := X) (d := d) (by omega) (by omega) SH e141
                                                    refine And.imp_left (rs_inV i_L_law_992 m_X8_which rfl (As := [.int (X (ix (v3 + 1))), .int (X (ix (v3 + 2)))]) (rest := []) rfl rfl (Nat.le_of_ble_eq_true rfl) (sO8 SH hh) u141 (st' := [.int o141.1]) rfl) ?_
                                                    clear SH; have SH := SH2; clear SH2
                                                    refine And.imp_left (rs_pop i_L_law_995 rfl) ?_
                                                    refine And.imp_left (rs_goto i_L_law_996 (tg := 1769) (by decide)) ?_
                                                    exact q_L_law_1769 hd hh ih SH hf
                                                  · replace hf := (if_neg c25).symm.trans hf
                                                    by_cases c26 : ((X (ix v3)) &&& 63) = 23
                                                    · replace hf := (if_pos c26).symm.trans hf
                                                      refine And.imp_left (rs_tsw i_L_law_33 (off := 966) (by rw [c26]; decide) (tg := 999) (by decide)) ?_
                                                      refine And.imp_left (rs_aload_n i_L_law_999 rfl) ?_
                                                      refine And.imp_left (rs_aload_n i_L_law_1000 rfl) ?_
                                                      refine And.imp_left (rs_iload_n i_L_law_1001 rfl) ?_
                                                      refine And.imp_left (rs_iconst i_L_law_1002 (v := 1) (by decide)) ?_
                                                      refine And.imp_left (rs_iadd i_L_law_1003) ?_
                                                      obtain ⟨c134, hf⟩ := ite_some hf
                                                      refine And.imp_left (rs_ialdS i_L_law_1004 (sScrI SH c134)) ?_
                                                      refine And.imp_left (rs_aload_n i_L_law_1005 rfl) ?_
                                                      refine And.imp_left (rs_iload_n i_L_law_1006 rfl) ?_
                                                      refine And.imp_left (rs_iconst i_L_law_1007 (v := 2) (by decide)) ?_
                                                      refine And.imp_left (rs_iadd i_L_law_1008) ?_
                                                      obtain ⟨c135, hf⟩ := ite_some hf
                                                      refine And.imp_left (rs_ialdS i_L_law_1009 (sScrI SH c135)) ?_
                                                      obtain ⟨o136, e136, hf⟩ := bind_some hf
                                                      obtain ⟨u136, SH2⟩ := k_X7_fault (X := X) (d := d) (by omega) (by omega) SH e136
                                                      refine And.imp_left (rs_inV i_L_law_1010 m_X7_fault rfl (As := [.int (X (ix (v3 + 1))), .int (X (ix (v3 + 2)))]) (rest := []) rfl rfl (Nat.le_of_ble_eq_true rfl) (sO7 SH (by omega)) u136 (st' := [.int o136.1]) rfl) ?_
                                                      clear SH; have SH := SH2; clear SH2
                                                      refine And.imp_left (rs_pop i_L_law_1013 rfl) ?_
                                                      refine And.imp_left (rs_aload_n i_L_law_1014 rfl) ?_
                                                      refine And.imp_left (rs_aload_n i_L_law_1015 rfl) ?_
                                                      refine And.imp_left (rs_iload_n i_L_law_1016 rfl) ?_
                                                      refine And.imp_left (rs_iconst i_L_law_1017 (v := 1) (by decide)) ?_
                                                      refine And.imp_left (rs_iadd i_L_law_1018) ?_
                                                      refine And.imp_left (rs_ialdS i_L_law_1019 (sScrI SH c134)) ?_
                                                      refine And.imp_left (rs_aload_n i_L_law_1020 rfl) ?_
                                                      refine And.imp_left (rs_iload_n i_L_law_1021 rfl) ?_
                                                      refine And.imp_left (rs_iconst i_L_law_1022 (v := 2) (by decide)) ?_
                                                      refine And.imp_left (rs_iadd i_L_law_1023) ?_
                                                      refine And.imp_left (rs_ialdS i_L_law_1024 (sScrI SH c135)) ?_
                                                      obtain ⟨o137, e137, hf⟩ := bind_some hf
                                                      obtain ⟨u137, SH2⟩ := k_X8_fault (X := X) (d := d) (by omega) (by omega) SH e137
                                                      refine And.imp_left (rs_inV i_L_law_1025 m_X8_fault rfl (As := [.int (X (ix (v3 + 1))), .int (X (ix (v3 + 2)))]) (rest := []) rfl rfl (Nat.le_of_ble_eq_true rfl) (sO8 SH hh) u137 (st' := [.int o137.1]) rfl) ?_
                                                      clear SH; have SH := SH2; clear SH2
                                                      refine And.imp_left (rs_pop i_L_law_1028 rfl) ?_
                                                      refine And.imp_left (rs_goto i_L_law_1029 (tg := 1769) (by decide)) ?_
                                                      exact q_L_law_1769 hd hh ih SH hf
                                                    · replace hf := (if_neg c26).symm.trans hf
                                                      by_cases c27 : ((X (ix v3)) &&& 63) = 24
                                                      · replace hf := (if_pos c27).symm.trans hf
                                                        refine And.imp_left (rs_tsw i_L_law_33 (off := 999) (by rw [c27]; decide) (tg := 1032) (by decide)) ?_
                                                        refine And.imp_left (rs_aload_n i_L_law_1032 rfl) ?_
                                                        refine And.imp_left (rs_aload_n i_L_law_1033 rfl) ?_
                                                        refine And.imp_left (rs_iload_n i_L_law_1034 rfl) ?_
                                                        refine And.imp_left (rs_iconst i_L_law_1035 (v := 1) (by decide)) ?_
                                                        refine And.imp_left (rs_iadd i_L_law_1036) ?_
                                                        obtain ⟨c130, hf⟩ := ite_some hf
                                                        refine And.imp_left (rs_ialdS i_L_law_1037 (sScrI SH c130)) ?_
                                                        refine And.imp_left (rs_aload_n i_L_law_1038 rfl) ?_
                                                        refine And.imp_left (rs_iload_n i_L_law_1039 rfl) ?_
                                                        refine And.imp_left (rs_iconst i_L_law_1040 (v := 2) (by decide)) ?_
                                                        refine And.imp_left (rs_iadd i_L_law_1041) ?_
                                                        obtain ⟨c131, hf⟩ := ite_some hf
                                                        refine And.imp_left (rs_ialdS i_L_law_1042 (sScrI SH c131)) ?_
                                                        obtain ⟨o132, e132, hf⟩ := bind_some hf
                                                        obtain ⟨u132, SH2⟩ := k_X7_uneven (X := X) (d := d) (by omega) (by omega) SH e132
                                                        refine And.imp_left (rs_inV i_L_law_1043 m_X7_uneven rfl (As := [.int (X (ix (v3 + 1))), .int (X (ix (v3 + 2)))]) (rest := []) rfl rfl (Nat.le_of_ble_eq_true rfl) (sO7 SH (by omega)) u132 (st' := [.int o132.1]) rfl) ?_
                                                        clear SH; have SH := SH2; clear SH2
                                                        refine And.imp_left (rs_pop i_L_law_1046 rfl) ?_
                                                        refine And.imp_left (rs_aload_n i_L_law_1047 rfl) ?_
                                                        refine And.imp_left (rs_aload_n i_L_law_1048 rfl) ?_
                                                        refine And.imp_left (rs_iload_n i_L_law_1049 rfl) ?_
                                                        refine And.imp_left (rs_iconst i_L_law_1050 (v := 1) (by decide)) ?_
                                                        refine And.imp_left (rs_iadd i_L_law_1051) ?_
                                                        refine And.imp_left (rs_ialdS i_L_law_1052 (sScrI SH c130)) ?_
                                                        refine And.imp_left (rs_aload_n i_L_law_1053 rfl) ?_
                                                        refine And.imp_left (rs_iload_n i_L_law_1054 rfl) ?_
                                                        refine And.imp_left (rs_iconst i_L_law_1055 (v := 2) (by decide)) ?_
                                                        refine And.imp_left (rs_iadd i_L_law_1056) ?_
                                                        refine And.imp_left (rs_ialdS i_L_law_1057 (sScrI SH c131)) ?_
                                                        obtain ⟨o133, e133, hf⟩ := bind_some hf
                                                        obtain ⟨u133, SH2⟩ := k_X8_uneven (X := X) (d := d) (by omega) (by omega) SH e133
                                                        refine And.imp_left (rs_inV i_L_law_1058 m_X8_uneven rfl (As := [.int (X (ix (v3 + 1))), .int (X (ix (v3 + 2)))]) (rest := []) rfl rfl (Nat.le_of_ble_eq_true rfl) (sO8 SH hh) u133 (st' := [.int o133.1]) rfl) ?_
                                                        clear SH; have SH := SH2; clear SH2
                                                        refine And.imp_left (rs_pop i_L_law_1061 rfl) ?_
                                                        refine And.imp_left (rs_goto i_L_law_1062 (tg := 1769) (by decide)) ?_
                                                        exact q_L_law_1769 hd hh ih SH hf
                                                      · replace hf := (if_neg c27).symm.trans hf
                                                        by_cases c28 : ((X (ix v3)) &&& 63) = 25
                                                        · replace hf := (if_pos c28).symm.trans hf
                                                          refine And.imp_left (rs_tsw i_L_law_33 (off := 1032) (by rw [c28]; decide) (tg := 1065) (by decide)) ?_
                                                          refine And.imp_left (rs_aload_n i_L_law_1065 rfl) ?_
                                                          refine And.imp_left (rs_aload_n i_L_law_1066 rfl) ?_
                                                          refine And.imp_left (rs_iload_n i_L_law_1067 rfl) ?_
                                                          refine And.imp_left (rs_iconst i_L_law_1068 (v := 1) (by decide)) ?_
                                                          refine And.imp_left (rs_iadd i_L_law_1069) ?_
                                                          obtain ⟨c125, hf⟩ := ite_some hf
                                                          refine And.imp_left (rs_ialdS i_L_law_1070 (sScrI SH c125)) ?_
                                                          refine And.imp_left (rs_aload_n i_L_law_1071 rfl) ?_
                                                          refine And.imp_left (rs_iload_n i_L_law_1072 rfl) ?_
                                                          refine And.imp_left (rs_iconst i_L_law_1073 (v := 2) (by decide)) ?_
                                                          refine And.imp_left (rs_iadd i_L_law_1074) ?_
                                                          obtain ⟨c126, hf⟩ := ite_some hf
                                                          refine And.imp_left (rs_ialdS i_L_law_1075 (sScrI SH c126)) ?_
                                                          refine And.imp_left (rs_aload_n i_L_law_1076 rfl) ?_
                                                          refine And.imp_left (rs_iload_n i_L_law_1077 rfl) ?_
                                                          refine And.imp_left (rs_iconst i_L_law_1078 (v := 3) (by decide)) ?_
                                                          refine And.imp_left (rs_iadd i_L_law_1079) ?_
                                                          obtain ⟨c127, hf⟩ := ite_some hf
                                                          refine And.imp_left (rs_ialdS i_L_law_1080 (sScrI SH c127)) ?_
                                                          obtain ⟨o128, e128, hf⟩ := bind_some hf
                                                          obtain ⟨u128, SH2⟩ := k_X7_cooks (X := X) (d := d) (by omega) (by omega) SH e128
                                                          refine And.imp_left (rs_inV i_L_law_1081 m_X7_cooks rfl (As := [.int (X (ix (v3 + 1))), .int (X (ix (v3 + 2))), .int (X (ix (v3 + 3)))]) (rest := []) rfl rfl (Nat.le_of_ble_eq_true rfl) (sO7 SH (by omega)) u128 (st' := [.int o128.1]) rfl) ?_
                                                          clear SH; have SH := SH2; clear SH2
                                                          refine And.imp_left (rs_pop i_L_law_1084 rfl) ?_
                                                          refine And.imp_left (rs_aload_n i_L_law_1085 rfl) ?_
                                                          refine And.imp_left (rs_aload_n i_L_law_1086 rfl) ?_
                                                          refine And.imp_left (rs_iload_n i_L_law_1087 rfl) ?_
                                                          refine And.imp_left (rs_iconst i_L_law_1088 (v := 1) (by decide)) ?_
                                                          refine And.imp_left (rs_iadd i_L_law_1089) ?_
                                                          refine And.imp_left (rs_ialdS i_L_law_1090 (sScrI SH c125)) ?_
                                                          refine And.imp_left (rs_aload_n i_L_law_1091 rfl) ?_
                                                          refine And.imp_left (rs_iload_n i_L_law_1092 rfl) ?_
                                                          refine And.imp_left (rs_iconst i_L_law_1093 (v := 2) (by decide)) ?_
                                                          refine And.imp_left (rs_iadd i_L_law_1094) ?_
                                                          refine And.imp_left (rs_ialdS i_L_law_1095 (sScrI SH c126)) ?_
                                                          refine And.imp_left (rs_aload_n i_L_law_1096 rfl) ?_
                                                          refine And.imp_left (rs_iload_n i_L_law_1097 rfl) ?_
                                                          refine And.imp_left (rs_iconst i_L_law_1098 (v := 3) (by decide)) ?_
                                                          refine And.imp_left (rs_iadd i_L_law_1099) ?_
                                                          refine And.imp_left (rs_ialdS i_L_law_1100 (sScrI SH c127)) ?_
                                                          obtain ⟨o129, e129, hf⟩ := bind_some hf
                                                          obtain ⟨u129, SH2⟩ := k_X8_cooks (X := X) (d := d) (by omega) (by omega) SH e129
                                                          refine And.imp_left (rs_inV i_L_law_1101 m_X8_cooks rfl (As := [.int (X (ix (v3 + 1))), .int (X (ix (v3 + 2))), .int (X (ix (v3 + 3)))]) (rest := []) rfl rfl (Nat.le_of_ble_eq_true rfl) (sO8 SH hh) u129 (st' := [.int o129.1]) rfl) ?_
                                                          clear SH; have SH := SH2; clear SH2
                                                          refine And.imp_left (rs_pop i_L_law_1104 rfl) ?_
                                                          refine And.imp_left (rs_goto i_L_law_1105 (tg := 1769) (by decide)) ?_
                                                          exact q_L_law_1769 hd hh ih SH hf
                                                        · replace hf := (if_neg c28).symm.trans hf
                                                          by_cases c29 : ((X (ix v3)) &&& 63) = 26
                                                          · replace hf := (if_pos c29).symm.trans hf
                                                            refine And.imp_left (rs_tsw i_L_law_33 (off := 1075) (by rw [c29]; decide) (tg := 1108) (by decide)) ?_
                                                            refine And.imp_left (rs_aload_n i_L_law_1108 rfl) ?_
                                                            refine And.imp_left (rs_aload_n i_L_law_1109 rfl) ?_
                                                            refine And.imp_left (rs_iload_n i_L_law_1110 rfl) ?_
                                                            refine And.imp_left (rs_iconst i_L_law_1111 (v := 1) (by decide)) ?_
                                                            refine And.imp_left (rs_iadd i_L_law_1112) ?_
                                                            obtain ⟨c122, hf⟩ := ite_some hf
                                                            refine And.imp_left (rs_ialdS i_L_law_1113 (sScrI SH c122)) ?_
                                                            obtain ⟨o123, e123, hf⟩ := bind_some hf
                                                            obtain ⟨u123, SH2⟩ := k_X7_pot (X := X) (d := d) (by omega) (by omega) SH e123
                                                            refine And.imp_left (rs_inV i_L_law_1114 m_X7_pot rfl (As := [.int (X (ix (v3 + 1)))]) (rest := []) rfl rfl (Nat.le_of_ble_eq_true rfl) (sO7 SH (by omega)) u123 (st' := [.int o123.1]) rfl) ?_
                                                            clear SH; have SH := SH2; clear SH2
                                                            refine And.imp_left (rs_pop i_L_law_1117 rfl) ?_
                                                            refine And.imp_left (rs_aload_n i_L_law_1118 rfl) ?_
                                                            refine And.imp_left (rs_aload_n i_L_law_1119 rfl) ?_
                                                            refine And.imp_left (rs_iload_n i_L_law_1120 rfl) ?_
                                                            refine And.imp_left (rs_iconst i_L_law_1121 (v := 1) (by decide)) ?_
                                                            refine And.imp_left (rs_iadd i_L_law_1122) ?_
                                                            refine And.imp_left (rs_ialdS i_L_law_1123 (sScrI SH c122)) ?_
                                                            obtain ⟨o124, e124, hf⟩ := bind_some hf
                                                            obtain ⟨u124, SH2⟩ := k_X8_pot (X := X) (d := d) (by omega) (by omega) SH e124
                                                            refine And.imp_left (rs_inV i_L_law_1124 m_X8_pot rfl (As := [.int (X (ix (v3 + 1)))]) (rest := []) rfl rfl (Nat.le_of_ble_eq_true rfl) (sO8 SH hh) u124 (st' := [.int o124.1]) rfl) ?_
                                                            clear SH; have SH := SH2; clear SH2
                                                            refine And.imp_left (rs_pop i_L_law_1127 rfl) ?_
                                                            refine And.imp_left (rs_goto i_L_law_1128 (tg := 1769) (by decide)) ?_
                                                            exact q_L_law_1769 hd hh ih SH hf
                                                          · replace hf := (if_neg c29).symm.trans hf
                                                            by_cases c30 : ((X (ix v3)) &&& 63) = 27
                                                            · replace hf := (if_pos c30).symm.trans hf
                                                              refine And.imp_left (rs_tsw i_L_law_33 (off := 1098) (by rw [c30]; decide) (tg := 1131) (by decide)) ?_
                                                              refine And.imp_left (rs_aload_n i_L_law_1131 rfl) ?_
                                                              refine And.imp_left (rs_aload_n i_L_law_1132 rfl) ?_
                                                              refine And.imp_left (rs_iload_n i_L_law_1133 rfl) ?_
                                                              refine And.imp_left (rs_iconst i_L_law_1134 (v := 1) (by decide)) ?_
                                                              refine And.imp_left (rs_iadd i_L_law_1135) ?_
                                                              obtain ⟨c118, hf⟩ := ite_some hf
                                                              refine And.imp_left (rs_ialdS i_L_law_1136 (sScrI SH c118)) ?_
                                                              refine And.imp_left (rs_aload_n i_L_law_1137 rfl) ?_
                                                              refine And.imp_left (rs_iload_n i_L_law_1138 rfl) ?_
                                                              refine And.imp_left (rs_iconst i_L_law_1139 (v := 2) (by decide)) ?_
                                                              refine And.imp_left (rs_iadd i_L_law_1140) ?_
                                                              obtain ⟨c119, hf⟩ := ite_some hf
                                                              refine And.imp_left (rs_ialdS i_L_law_1141 (sScrI SH c119)) ?_
                                                              obtain ⟨o120, e120, hf⟩ := bind_some hf
                                                              obtain ⟨u120, SH2⟩ := k_X7_place (X := X) (d := d) (by omega) (by omega) SH e120
                                                              refine And.imp_left (rs_inV i_L_law_1142 m_X7_place rfl (As := [.int (X (ix (v3 + 1))), .int (X (ix (v3 + 2)))]) (rest := []) rfl rfl (Nat.le_of_ble_eq_true rfl) (sO7 SH (by omega)) u120 (st' := [.int o120.1]) rfl) ?_
                                                              clear SH; have SH := SH2; clear SH2
                                                              refine And.imp_left (rs_pop i_L_law_1145 rfl) ?_
                                                              refine And.imp_left (rs_aload_n i_L_law_1146 rfl) ?_
                                                              refine And.imp_left (rs_aload_n i_L_law_1147 rfl) ?_
                                                              refine And.imp_left (rs_iload_n i_L_law_1148 rfl) ?_
                                                              refine And.imp_left (rs_iconst i_L_law_1149 (v := 1) (by decide)) ?_
                                                              refine And.imp_left (rs_iadd i_L_law_1150) ?_
                                                              refine And.imp_left (rs_ialdS i_L_law_1151 (sScrI SH c118)) ?_
                                                              refine And.imp_left (rs_aload_n i_L_law_1152 rfl) ?_
                                                              refine And.imp_left (rs_iload_n i_L_law_1153 rfl) ?_
                                                              refine And.imp_left (rs_iconst i_L_law_1154 (v := 2) (by decide)) ?_
                                                              refine And.imp_left (rs_iadd i_L_law_1155) ?_
                                                              refine And.imp_left (rs_ialdS i_L_law_1156 (sScrI SH c119)) ?_
                                                              obtain ⟨o121, e121, hf⟩ := bind_some hf
                                                              obtain ⟨u121, SH2⟩ := k_X8_place (X := X) (d := d) (by omega) (by omega) SH e121
                                                              refine And.imp_left (rs_inV i_L_law_1157 m_X8_place rfl (As := [.int (X (ix (v3 + 1))), .int (X (ix (v3 + 2)))]) (rest := []) rfl rfl (Nat.le_of_ble_eq_true rfl) (sO8 SH hh) u121 (st' := [.int o121.1]) rfl) ?_
                                                              clear SH; have SH := SH2; clear SH2
                                                              refine And.imp_left (rs_pop i_L_law_1160 rfl) ?_
                                                              refine And.imp_left (rs_goto i_L_law_1161 (tg := 1769) (by decide)) ?_
                                                              exact q_L_law_1769 hd hh ih SH hf
                                                            · replace hf := (if_neg c30).symm.trans hf
                                                              by_cases c31 : ((X (ix v3)) &&& 63) = 28
                                                              · replace hf := (if_pos c31).symm.trans hf
                                                                refine And.imp_left (rs_tsw i_L_law_33 (off := 1131) (by rw [c31]; decide) (tg := 1164) (by decide)) ?_
                                                                refine And.imp_left (rs_aload_n i_L_law_1164 rfl) ?_
                                                                refine And.imp_left (rs_aload_n i_L_law_1165 rfl) ?_
                                                                refine And.imp_left (rs_iload_n i_L_law_1166 rfl) ?_
                                                                refine And.imp_left (rs_iconst i_L_law_1167 (v := 1) (by decide)) ?_
                                                                refine And.imp_left (rs_iadd i_L_law_1168) ?_
                                                                obtain ⟨c113, hf⟩ := ite_some hf
                                                                refine And.imp_left (rs_ialdS i_L_law_1169 (sScrI SH c113)) ?_
                                                                refine And.imp_left (rs_aload_n i_L_law_1170 rfl) ?_
                                                                refine And.imp_left (rs_iload_n i_L_law_1171 rfl) ?_
                                                                refine And.imp_left (rs_iconst i_L_law_1172 (v := 2) (by decide)) ?_
                                                                refine And.imp_left (rs_iadd i_L_law_1173) ?_
                                                                obtain ⟨c114, hf⟩ := ite_some hf
                                                                refine And.imp_left (rs_ialdS i_L_law_1174 (sScrI SH c114)) ?_
                                                                refine And.imp_left (rs_aload_n i_L_law_1175 rfl) ?_
                                                                refine And.imp_left (rs_iload_n i_L_law_1176 rfl) ?_
                                                                refine And.imp_left (rs_iconst i_L_law_1177 (v := 3) (by decide)) ?_
                                                                refine And.imp_left (rs_iadd i_L_law_1178) ?_
                                                                obtain ⟨c115, hf⟩ := ite_some hf
                                                                refine And.imp_left (rs_ialdS i_L_law_1179 (sScrI SH c115)) ?_
                                                                obtain ⟨o116, e116, hf⟩ := bind_some hf
                                                                obtain ⟨u116, SH2⟩ := k_X7_apart (X := X) (d := d) (by omega) (by omega) SH e116
                                                                refine And.imp_left (rs_inV i_L_law_1180 m_X7_apart rfl (As := [.int (X (ix (v3 + 1))), .int (X (ix (v3 + 2))), .int (X (ix (v3 + 3)))]) (rest := []) rfl rfl (Nat.le_of_ble_eq_true rfl) (sO7 SH (by omega)) u116 (st' := [.int o116.1]) rfl) ?_
                                                                clear SH; have SH := SH2; clear SH2
                                                                refine And.imp_left (rs_pop i_L_law_1183 rfl) ?_
                                                                refine And.imp_left (rs_aload_n i_L_law_1184 rfl) ?_
                                                                refine And.imp_left (rs_aload_n i_L_law_1185 rfl) ?_
                                                                refine And.imp_left (rs_iload_n i_L_law_1186 rfl) ?_
                                                                refine And.imp_left (rs_iconst i_L_law_1187 (v := 1) (by decide)) ?_
                                                                refine And.imp_left (rs_iadd i_L_law_1188) ?_
                                                                refine And.imp_left (rs_ialdS i_L_law_1189 (sScrI SH c113)) ?_
                                                                refine And.imp_left (rs_aload_n i_L_law_1190 rfl) ?_
                                                                refine And.imp_left (rs_iload_n i_L_law_1191 rfl) ?_
                                                                refine And.imp_left (rs_iconst i_L_law_1192 (v := 2) (by decide)) ?_
                                                                refine And.imp_left (rs_iadd i_L_law_1193) ?_
                                                                refine And.imp_left (rs_ialdS i_L_law_1194 (sScrI SH c114)) ?_
                                                                refine And.imp_left (rs_aload_n i_L_law_1195 rfl) ?_
                                                                refine And.imp_left (rs_iload_n i_L_law_1196 rfl) ?_
                                                                refine And.imp_left (rs_iconst i_L_law_1197 (v := 3) (by decide)) ?_
                                                                refine And.imp_left (rs_iadd i_L_law_1198) ?_
                                                                refine And.imp_left (rs_ialdS i_L_law_1199 (sScrI SH c115)) ?_
                                                                obtain ⟨o117, e117, hf⟩ := bind_some hf
                                                                obtain ⟨u117, SH2⟩ := k_X8_apart (X := X) (d := d) (by omega) (by omega) SH e117
                                                                refine And.imp_left (rs_inV i_L_law_1200 m_X8_apart rfl (As := [.int (X (ix (v3 + 1))), .int (X (ix (v3 + 2))), .int (X (ix (v3 + 3)))]) (rest := []) rfl rfl (Nat.le_of_ble_eq_true rfl) (sO8 SH hh) u117 (st' := [.int o117.1]) rfl) ?_
                                                                clear SH; have SH := SH2; clear SH2
                                                                refine And.imp_left (rs_pop i_L_law_1203 rfl) ?_
                                                                refine And.imp_left (rs_goto i_L_law_1204 (tg := 1769) (by decide)) ?_
                                                                exact q_L_law_1769 hd hh ih SH hf
                                                              · replace hf := (if_neg c31).symm.trans hf
                                                                by_cases c32 : ((X (ix v3)) &&& 63) = 29
                                                                · replace hf := (if_pos c32).symm.trans hf
                                                                  refine And.imp_left (rs_tsw i_L_law_33 (off := 1174) (by rw [c32]; decide) (tg := 1207) (by decide)) ?_
                                                                  refine And.imp_left (rs_aload_n i_L_law_1207 rfl) ?_
                                                                  refine And.imp_left (rs_aload_n i_L_law_1208 rfl) ?_
                                                                  refine And.imp_left (rs_iload_n i_L_law_1209 rfl) ?_
                                                                  refine And.imp_left (rs_iconst i_L_law_1210 (v := 1) (by decide)) ?_
                                                                  refine And.imp_left (rs_iadd i_L_law_1211) ?_
                                                                  obtain ⟨c108, hf⟩ := ite_some hf
                                                                  refine And.imp_left (rs_ialdS i_L_law_1212 (sScrI SH c108)) ?_
                                                                  refine And.imp_left (rs_aload_n i_L_law_1213 rfl) ?_
                                                                  refine And.imp_left (rs_iload_n i_L_law_1214 rfl) ?_
                                                                  refine And.imp_left (rs_iconst i_L_law_1215 (v := 2) (by decide)) ?_
                                                                  refine And.imp_left (rs_iadd i_L_law_1216) ?_
                                                                  obtain ⟨c109, hf⟩ := ite_some hf
                                                                  refine And.imp_left (rs_ialdS i_L_law_1217 (sScrI SH c109)) ?_
                                                                  refine And.imp_left (rs_aload_n i_L_law_1218 rfl) ?_
                                                                  refine And.imp_left (rs_iload_n i_L_law_1219 rfl) ?_
                                                                  refine And.imp_left (rs_iconst i_L_law_1220 (v := 3) (by decide)) ?_
                                                                  refine And.imp_left (rs_iadd i_L_law_1221) ?_
                                                                  obtain ⟨c110, hf⟩ := ite_some hf
                                                                  refine And.imp_left (rs_ialdS i_L_law_1222 (sScrI SH c110)) ?_
                                                                  obtain ⟨o111, e111, hf⟩ := bind_some hf
                                                                  obtain ⟨u111, SH2⟩ := k_X7_parted (X := X) (d := d) (by omega) (by omega) SH e111
                                                                  refine And.imp_left (rs_inV i_L_law_1223 m_X7_parted rfl (As := [.int (X (ix (v3 + 1))), .int (X (ix (v3 + 2))), .int (X (ix (v3 + 3)))]) (rest := []) rfl rfl (Nat.le_of_ble_eq_true rfl) (sO7 SH (by omega)) u111 (st' := [.int o111.1]) rfl) ?_
                                                                  clear SH; have SH := SH2; clear SH2
                                                                  refine And.imp_left (rs_pop i_L_law_1226 rfl) ?_
                                                                  refine And.imp_left (rs_aload_n i_L_law_1227 rfl) ?_
                                                                  refine And.imp_left (rs_aload_n i_L_law_1228 rfl) ?_
                                                                  refine And.imp_left (rs_iload_n i_L_law_1229 rfl) ?_
                                                                  refine And.imp_left (rs_iconst i_L_law_1230 (v := 1) (by decide)) ?_
                                                                  refine And.imp_left (rs_iadd i_L_law_1231) ?_
                                                                  refine And.imp_left (rs_ialdS i_L_law_1232 (sScrI SH c108)) ?_
                                                                  refine And.imp_left (rs_aload_n i_L_law_1233 rfl) ?_
                                                                  refine And.imp_left (rs_iload_n i_L_law_1234 rfl) ?_
                                                                  refine And.imp_left (rs_iconst i_L_law_1235 (v := 2) (by decide)) ?_
                                                                  refine And.imp_left (rs_iadd i_L_law_1236) ?_
                                                                  refine And.imp_left (rs_ialdS i_L_law_1237 (sScrI SH c109)) ?_
                                                                  refine And.imp_left (rs_aload_n i_L_law_1238 rfl) ?_
                                                                  refine And.imp_left (rs_iload_n i_L_law_1239 rfl) ?_
                                                                  refine And.imp_left (rs_iconst i_L_law_1240 (v := 3) (by decide)) ?_
                                                                  refine And.imp_left (rs_iadd i_L_law_1241) ?_
                                                                  refine And.imp_left (rs_ialdS i_L_law_1242 (sScrI SH c110)) ?_
                                                                  obtain ⟨o112, e112, hf⟩ := bind_some hf
                                                                  obtain ⟨u112, SH2⟩ := k_X8_parted (X := X) (d := d) (by omega) (by omega) SH e112
                                                                  refine And.imp_left (rs_inV i_L_law_1243 m_X8_parted rfl (As := [.int (X (ix (v3 + 1))), .int (X (ix (v3 + 2))), .int (X (ix (v3 + 3)))]) (rest := []) rfl rfl (Nat.le_of_ble_eq_true rfl) (sO8 SH hh) u112 (st' := [.int o112.1]) rfl) ?_
                                                                  clear SH; have SH := SH2; clear SH2
                                                                  refine And.imp_left (rs_pop i_L_law_1246 rfl) ?_
                                                                  refine And.imp_left (rs_goto i_L_law_1247 (tg := 1769) (by decide)) ?_
                                                                  exact q_L_law_1769 hd hh ih SH hf
                                                                · replace hf := (if_neg c32).symm.trans hf
                                                                  by_cases c33 : ((X (ix v3)) &&& 63) = 30
                                                                  · replace hf := (if_pos c33).symm.trans hf
                                                                    refine And.imp_left (rs_tsw i_L_law_33 (off := 1217) (by rw [c33]; decide) (tg := 1250) (by decide)) ?_
                                                                    refine And.imp_left (rs_aload_n i_L_law_1250 rfl) ?_
                                                                    refine And.imp_left (rs_aload_n i_L_law_1251 rfl) ?_
                                                                    refine And.imp_left (rs_iload_n i_L_law_1252 rfl) ?_
                                                                    refine And.imp_left (rs_iconst i_L_law_1253 (v := 1) (by decide)) ?_
                                                                    refine And.imp_left (rs_iadd i_L_law_1254) ?_
                                                                    obtain ⟨c105, hf⟩ := ite_some hf
                                                                    refine And.imp_left (rs_ialdS i_L_law_1255 (sScrI SH c105)) ?_
                                                                    obtain ⟨o106, e106, hf⟩ := bind_some hf
                                                                    obtain ⟨u106, SH2⟩ := k_X7_round (X := X) (d := d) (by omega) (by omega) SH e106
                                                                    refine And.imp_left (rs_inV i_L_law_1256 m_X7_round rfl (As := [.int (X (ix (v3 + 1)))]) (rest := []) rfl rfl (Nat.le_of_ble_eq_true rfl) (sO7 SH (by omega)) u106 (st' := [.int o106.1]) rfl) ?_
                                                                    clear SH; have SH := SH2; clear SH2
                                                                    refine And.imp_left (rs_pop i_L_law_1259 rfl) ?_
                                                                    refine And.imp_left (rs_aload_n i_L_law_1260 rfl) ?_
                                                                    refine And.imp_left (rs_aload_n i_L_law_1261 rfl) ?_
                                                                    refine And.imp_left (rs_iload_n i_L_law_1262 rfl) ?_
                                                                    refine And.imp_left (rs_iconst i_L_law_1263 (v := 1) (by decide)) ?_
                                                                    refine And.imp_left (rs_iadd i_L_law_1264) ?_
                                                                    refine And.imp_left (rs_ialdS i_L_law_1265 (sScrI SH c105)) ?_
                                                                    obtain ⟨o107, e107, hf⟩ := bind_some hf
                                                                    obtain ⟨u107, SH2⟩ := k_X8_round (X := X) (d := d) (by omega) (by omega) SH e107
                                                                    refine And.imp_left (rs_inV i_L_law_1266 m_X8_round rfl (As := [.int (X (ix (v3 + 1)))]) (rest := []) rfl rfl (Nat.le_of_ble_eq_true rfl) (sO8 SH hh) u107 (st' := [.int o107.1]) rfl) ?_
                                                                    clear SH; have SH := SH2; clear SH2
                                                                    refine And.imp_left (rs_pop i_L_law_1269 rfl) ?_
                                                                    refine And.imp_left (rs_goto i_L_law_1270 (tg := 1769) (by decide)) ?_
                                                                    exact q_L_law_1769 hd hh ih SH hf
                                                                  · replace hf := (if_neg c33).symm.trans hf
                                                                    by_cases c34 : ((X (ix v3)) &&& 63) = 31
                                                                    · replace hf := (if_pos c34).symm.trans hf
                                                                      refine And.imp_left (rs_tsw i_L_law_33 (off := 1240) (by rw [c34]; decide) (tg := 1273) (by decide)) ?_
                                                                      refine And.imp_left (rs_aload_n i_L_law_1273 rfl) ?_
                                                                      refine And.imp_left (rs_aload_n i_L_law_1274 rfl) ?_
                                                                      refine And.imp_left (rs_iload_n i_L_law_1275 rfl) ?_
                                                                      refine And.imp_left (rs_iconst i_L_law_1276 (v := 1) (by decide)) ?_
                                                                      refine And.imp_left (rs_iadd i_L_law_1277) ?_
                                                                      obtain ⟨c100, hf⟩ := ite_some hf
                                                                      refine And.imp_left (rs_ialdS i_L_law_1278 (sScrI SH c100)) ?_
                                                                      refine And.imp_left (rs_aload_n i_L_law_1279 rfl) ?_
                                                                      refine And.imp_left (rs_iload_n i_L_law_1280 rfl) ?_
                                                                      refine And.imp_left (rs_iconst i_L_law_1281 (v := 2) (by decide)) ?_
                                                                      refine And.imp_left (rs_iadd i_L_law_1282) ?_
                                                                      obtain ⟨c101, hf⟩ := ite_some hf
                                                                      refine And.imp_left (rs_ialdS i_L_law_1283 (sScrI SH c101)) ?_
                                                                      refine And.imp_left (rs_aload_n i_L_law_1284 rfl) ?_
                                                                      refine And.imp_left (rs_iload_n i_L_law_1285 rfl) ?_
                                                                      refine And.imp_left (rs_iconst i_L_law_1286 (v := 3) (by decide)) ?_
                                                                      refine And.imp_left (rs_iadd i_L_law_1287) ?_
                                                                      obtain ⟨c102, hf⟩ := ite_some hf
                                                                      refine And.imp_left (rs_ialdS i_L_law_1288 (sScrI SH c102)) ?_
                                                                      obtain ⟨o103, e103, hf⟩ := bind_some hf
                                                                      obtain ⟨u103, SH2⟩ := k_X7_colours (X := X) (d := d) (by omega) (by omega) SH e103
                                                                      refine And.imp_left (rs_inV i_L_law_1289 m_X7_colours rfl (As := [.int (X (ix (v3 + 1))), .int (X (ix (v3 + 2))), .int (X (ix (v3 + 3)))]) (rest := []) rfl rfl (Nat.le_of_ble_eq_true rfl) (sO7 SH (by omega)) u103 (st' := [.int o103.1]) rfl) ?_
                                                                      clear SH; have SH := SH2; clear SH2
                                                                      refine And.imp_left (rs_pop i_L_law_1292 rfl) ?_
                                                                      refine And.imp_left (rs_aload_n i_L_law_1293 rfl) ?_
                                                                      refine And.imp_left (rs_aload_n i_L_law_1294 rfl) ?_
                                                                      refine And.imp_left (rs_iload_n i_L_law_1295 rfl) ?_
                                                                      refine And.imp_left (rs_iconst i_L_law_1296 (v := 1) (by decide)) ?_
                                                                      refine And.imp_left (rs_iadd i_L_law_1297) ?_
                                                                      refine And.imp_left (rs_ialdS i_L_law_1298 (sScrI SH c100)) ?_
                                                                      refine And.imp_left (rs_aload_n i_L_law_1299 rfl) ?_
                                                                      refine And.imp_left (rs_iload_n i_L_law_1300 rfl) ?_
                                                                      refine And.imp_left (rs_iconst i_L_law_1301 (v := 2) (by decide)) ?_
                                                                      refine And.imp_left (rs_iadd i_L_law_1302) ?_
                                                                      refine And.imp_left (rs_ialdS i_L_law_1303 (sScrI SH c101)) ?_
                                                                      refine And.imp_left (rs_aload_n i_L_law_1304 rfl) ?_
                                                                      refine And.imp_left (rs_iload_n i_L_law_1305 rfl) ?_
                                                                      refine And.imp_left (rs_iconst i_L_law_1306 (v := 3) (by decide)) ?_
                                                                      refine And.imp_left (rs_iadd i_L_law_1307) ?_
                                                                      refine And.imp_left (rs_ialdS i_L_law_1308 (sScrI SH c102)) ?_
                                                                      obtain ⟨o104, e104, hf⟩ := bind_some hf
                                                                      obtain ⟨u104, SH2⟩ := k_X8_colours (X := X) (d := d) (by omega) (by omega) SH e104
                                                                      refine And.imp_left (rs_inV i_L_law_1309 m_X8_colours rfl (As := [.int (X (ix (v3 + 1))), .int (X (ix (v3 + 2))), .int (X (ix (v3 + 3)))]) (rest := []) rfl rfl (Nat.le_of_ble_eq_true rfl) (sO8 SH hh) u104 (st' := [.int o104.1]) rfl) ?_
                                                                      clear SH; have SH := SH2; clear SH2
                                                                      refine And.imp_left (rs_pop i_L_law_1312 rfl) ?_
                                                                      refine And.imp_left (rs_goto i_L_law_1313 (tg := 1769) (by decide)) ?_
                                                                      exact q_L_law_1769 hd hh ih SH hf
                                                                    · replace hf := (if_neg c34).symm.trans hf
                                                                      by_cases c35 : ((X (ix v3)) &&& 63) = 32
                                                                      · replace hf := (if_pos c35).symm.trans hf
                                                                        refine And.imp_left (rs_tsw i_L_law_33 (off := 1283) (by rw [c35]; decide) (tg := 1316) (by decide)) ?_
                                                                        refine And.imp_left (rs_aload_n i_L_law_1316 rfl) ?_
                                                                        refine And.imp_left (rs_aload_n i_L_law_1317 rfl) ?_
                                                                        refine And.imp_left (rs_iload_n i_L_law_1318 rfl) ?_
                                                                        refine And.imp_left (rs_iconst i_L_law_1319 (v := 1) (by decide)) ?_
                                                                        refine And.imp_left (rs_iadd i_L_law_1320) ?_
                                                                        obtain ⟨c95, hf⟩ := ite_some hf
                                                                        refine And.imp_left (rs_ialdS i_L_law_1321 (sScrI SH c95)) ?_
                                                                        refine And.imp_left (rs_aload_n i_L_law_1322 rfl) ?_
                                                                        refine And.imp_left (rs_iload_n i_L_law_1323 rfl) ?_
                                                                        refine And.imp_left (rs_iconst i_L_law_1324 (v := 2) (by decide)) ?_
                                                                        refine And.imp_left (rs_iadd i_L_law_1325) ?_
                                                                        obtain ⟨c96, hf⟩ := ite_some hf
                                                                        refine And.imp_left (rs_ialdS i_L_law_1326 (sScrI SH c96)) ?_
                                                                        refine And.imp_left (rs_aload_n i_L_law_1327 rfl) ?_
                                                                        refine And.imp_left (rs_iload_n i_L_law_1328 rfl) ?_
                                                                        refine And.imp_left (rs_iconst i_L_law_1329 (v := 3) (by decide)) ?_
                                                                        refine And.imp_left (rs_iadd i_L_law_1330) ?_
                                                                        obtain ⟨c97, hf⟩ := ite_some hf
                                                                        refine And.imp_left (rs_ialdS i_L_law_1331 (sScrI SH c97)) ?_
                                                                        obtain ⟨o98, e98, hf⟩ := bind_some hf
                                                                        obtain ⟨u98, SH2⟩ := k_X7_thin (X := X) (d := d) (by omega) (by omega) SH e98
                                                                        refine And.imp_left (rs_inV i_L_law_1332 m_X7_thin rfl (As := [.int (X (ix (v3 + 1))), .int (X (ix (v3 + 2))), .int (X (ix (v3 + 3)))]) (rest := []) rfl rfl (Nat.le_of_ble_eq_true rfl) (sO7 SH (by omega)) u98 (st' := [.long o98.1]) rfl) ?_
                                                                        clear SH; have SH := SH2; clear SH2
                                                                        refine And.imp_left (rs_pop2 i_L_law_1335 rfl) ?_
                                                                        refine And.imp_left (rs_aload_n i_L_law_1336 rfl) ?_
                                                                        refine And.imp_left (rs_aload_n i_L_law_1337 rfl) ?_
                                                                        refine And.imp_left (rs_iload_n i_L_law_1338 rfl) ?_
                                                                        refine And.imp_left (rs_iconst i_L_law_1339 (v := 1) (by decide)) ?_
                                                                        refine And.imp_left (rs_iadd i_L_law_1340) ?_
                                                                        refine And.imp_left (rs_ialdS i_L_law_1341 (sScrI SH c95)) ?_
                                                                        refine And.imp_left (rs_aload_n i_L_law_1342 rfl) ?_
                                                                        refine And.imp_left (rs_iload_n i_L_law_1343 rfl) ?_
                                                                        refine And.imp_left (rs_iconst i_L_law_1344 (v := 2) (by decide)) ?_
                                                                        refine And.imp_left (rs_iadd i_L_law_1345) ?_
                                                                        refine And.imp_left (rs_ialdS i_L_law_1346 (sScrI SH c96)) ?_
                                                                        refine And.imp_left (rs_aload_n i_L_law_1347 rfl) ?_
                                                                        refine And.imp_left (rs_iload_n i_L_law_1348 rfl) ?_
                                                                        refine And.imp_left (rs_iconst i_L_law_1349 (v := 3) (by decide)) ?_
                                                                        refine And.imp_left (rs_iadd i_L_law_1350) ?_
                                                                        refine And.imp_left (rs_ialdS i_L_law_1351 (sScrI SH c97)) ?_
                                                                        obtain ⟨o99, e99, hf⟩ := bind_some hf
                                                                        obtain ⟨u99, SH2⟩ := k_X8_thin (X := X) (d := d) (by omega) (by omega) SH e99
                                                                        refine And.imp_left (rs_inV i_L_law_1352 m_X8_thin rfl (As := [.int (X (ix (v3 + 1))), .int (X (ix (v3 + 2))), .int (X (ix (v3 + 3)))]) (rest := []) rfl rfl (Nat.le_of_ble_eq_true rfl) (sO8 SH hh) u99 (st' := [.long o99.1]) rfl) ?_
                                                                        clear SH; have SH := SH2; clear SH2
                                                                        refine And.imp_left (rs_pop2 i_L_law_1355 rfl) ?_
                                                                        refine And.imp_left (rs_goto i_L_law_1356 (tg := 1769) (by decide)) ?_
                                                                        exact q_L_law_1769 hd hh ih SH hf
                                                                      · replace hf := (if_neg c35).symm.trans hf
                                                                        by_cases c36 : ((X (ix v3)) &&& 63) = 33
                                                                        · replace hf := (if_pos c36).symm.trans hf
                                                                          refine And.imp_left (rs_tsw i_L_law_33 (off := 1326) (by rw [c36]; decide) (tg := 1359) (by decide)) ?_
                                                                          refine And.imp_left (rs_aload_n i_L_law_1359 rfl) ?_
                                                                          refine And.imp_left (rs_aload_n i_L_law_1360 rfl) ?_
                                                                          refine And.imp_left (rs_iload_n i_L_law_1361 rfl) ?_
                                                                          refine And.imp_left (rs_iconst i_L_law_1362 (v := 1) (by decide)) ?_
                                                                          refine And.imp_left (rs_iadd i_L_law_1363) ?_
                                                                          obtain ⟨c89, hf⟩ := ite_some hf
                                                                          refine And.imp_left (rs_ialdS i_L_law_1364 (sScrI SH c89)) ?_
                                                                          refine And.imp_left (rs_aload_n i_L_law_1365 rfl) ?_
                                                                          refine And.imp_left (rs_iload_n i_L_law_1366 rfl) ?_
                                                                          refine And.imp_left (rs_iconst i_L_law_1367 (v := 2) (by decide)) ?_
                                                                          refine And.imp_left (rs_iadd i_L_law_1368) ?_
                                                                          obtain ⟨c90, hf⟩ := ite_some hf
                                                                          refine And.imp_left (rs_ialdS i_L_law_1369 (sScrI SH c90)) ?_
                                                                          refine And.imp_left (rs_aload_n i_L_law_1370 rfl) ?_
                                                                          refine And.imp_left (rs_iload_n i_L_law_1371 rfl) ?_
                                                                          refine And.imp_left (rs_iconst i_L_law_1372 (v := 3) (by decide)) ?_
                                                                          refine And.imp_left (rs_iadd i_L_law_1373) ?_
                                                                          obtain ⟨c91, hf⟩ := ite_some hf
                                                                          refine And.imp_left (rs_ialdS i_L_law_1374 (sScrI SH c91)) ?_
                                                                          refine And.imp_left (rs_aload_n i_L_law_1375 rfl) ?_
                                                                          refine And.imp_left (rs_iload_n i_L_law_1376 rfl) ?_
                                                                          refine And.imp_left (rs_iconst i_L_law_1377 (v := 4) (by decide)) ?_
                                                                          refine And.imp_left (rs_iadd i_L_law_1378) ?_
                                                                          obtain ⟨c92, hf⟩ := ite_some hf
                                                                          refine And.imp_left (rs_ialdS i_L_law_1379 (sScrI SH c92)) ?_
                                                                          obtain ⟨o93, e93, hf⟩ := bind_some hf
                                                                          obtain ⟨u93, SH2⟩ := k_X7_odds (X := X) (d := d) (by omega) (by omega) SH e93
                                                                          refine And.imp_left (rs_inV i_L_law_1380 m_X7_odds rfl (As := [.int (X (ix (v3 + 1))), .int (X (ix (v3 + 2))), .int (X (ix (v3 + 3))), .int (X (ix (v3 + 4)))]) (rest := []) rfl rfl (Nat.le_of_ble_eq_true rfl) (sO7 SH (by omega)) u93 (st' := [.long o93.1]) rfl) ?_
                                                                          clear SH; have SH := SH2; clear SH2
                                                                          refine And.imp_left (rs_pop2 i_L_law_1383 rfl) ?_
                                                                          refine And.imp_left (rs_aload_n i_L_law_1384 rfl) ?_
                                                                          refine And.imp_left (rs_aload_n i_L_law_1385 rfl) ?_
                                                                          refine And.imp_left (rs_iload_n i_L_law_1386 rfl) ?_
                                                                          refine And.imp_left (rs_iconst i_L_law_1387 (v := 1) (by decide)) ?_
                                                                          refine And.imp_left (rs_iadd i_L_law_1388) ?_
                                                                          refine And.imp_left (rs_ialdS i_L_law_1389 (sScrI SH c89)) ?_
                                                                          refine And.imp_left (rs_aload_n i_L_law_1390 rfl) ?_
                                                                          refine And.imp_left (rs_iload_n i_L_law_1391 rfl) ?_
                                                                          refine And.imp_left (rs_iconst i_L_law_1392 (v := 2) (by decide)) ?_
                                                                          refine And.imp_left (rs_iadd i_L_law_1393) ?_
                                                                          refine And.imp_left (rs_ialdS i_L_law_1394 (sScrI SH c90)) ?_
                                                                          refine And.imp_left (rs_aload_n i_L_law_1395 rfl) ?_
                                                                          refine And.imp_left (rs_iload_n i_L_law_1396 rfl) ?_
                                                                          refine And.imp_left (rs_iconst i_L_law_1397 (v := 3) (by decide)) ?_
                                                                          refine And.imp_left (rs_iadd i_L_law_1398) ?_
                                                                          refine And.imp_left (rs_ialdS i_L_law_1399 (sScrI SH c91)) ?_
                                                                          refine And.imp_left (rs_aload_n i_L_law_1400 rfl) ?_
                                                                          refine And.imp_left (rs_iload_n i_L_law_1401 rfl) ?_
                                                                          refine And.imp_left (rs_iconst i_L_law_1402 (v := 4) (by decide)) ?_
                                                                          refine And.imp_left (rs_iadd i_L_law_1403) ?_
                                                                          refine And.imp_left (rs_ialdS i_L_law_1404 (sScrI SH c92)) ?_
                                                                          obtain ⟨o94, e94, hf⟩ := bind_some hf
                                                                          obtain ⟨u94, SH2⟩ := k_X8_odds (X := X) (d := d) (by omega) (by omega) SH e94
                                                                          refine And.imp_left (rs_inV i_L_law_1405 m_X8_odds rfl (As := [.int (X (ix (v3 + 1))), .int (X (ix (v3 + 2))), .int (X (ix (v3 + 3))), .int (X (ix (v3 + 4)))]) (rest := []) rfl rfl (Nat.le_of_ble_eq_true rfl) (sO8 SH hh) u94 (st' := [.long o94.1]) rfl) ?_
                                                                          clear SH; have SH := SH2; clear SH2
                                                                          refine And.imp_left (rs_pop2 i_L_law_1408 rfl) ?_
                                                                          refine And.imp_left (rs_goto i_L_law_1409 (tg := 1769) (by decide)) ?_
                                                                          exact q_L_law_1769 hd hh ih SH hf
                                                                        · replace hf := (if_neg c36).symm.trans hf
                                                                          by_cases c37 : ((X (ix v3)) &&& 63) = 34
                                                                          · replace hf := (if_pos c37).symm.trans hf
                                                                            refine And.imp_left (rs_tsw i_L_law_33 (off := 1379) (by rw [c37]; decide) (tg := 1412) (by decide)) ?_
                                                                            refine And.imp_left (rs_aload_n i_L_law_1412 rfl) ?_
                                                                            refine And.imp_left (rs_aload_n i_L_law_1413 rfl) ?_
                                                                            refine And.imp_left (rs_iload_n i_L_law_1414 rfl) ?_
                                                                            refine And.imp_left (rs_iconst i_L_law_1415 (v := 1) (by decide)) ?_
                                                                            refine And.imp_left (rs_iadd i_L_law_1416) ?_
                                                                            obtain ⟨c84, hf⟩ := ite_some hf
                                                                            refine And.imp_left (rs_ialdS i_L_law_1417 (sScrI SH c84)) ?_
                                                                            refine And.imp_left (rs_aload_n i_L_law_1418 rfl) ?_
                                                                            refine And.imp_left (rs_iload_n i_L_law_1419 rfl) ?_
                                                                            refine And.imp_left (rs_iconst i_L_law_1420 (v := 2) (by decide)) ?_
                                                                            refine And.imp_left (rs_iadd i_L_law_1421) ?_
                                                                            obtain ⟨c85, hf⟩ := ite_some hf
                                                                            refine And.imp_left (rs_ialdS i_L_law_1422 (sScrI SH c85)) ?_
                                                                            refine And.imp_left (rs_aload_n i_L_law_1423 rfl) ?_
                                                                            refine And.imp_left (rs_iload_n i_L_law_1424 rfl) ?_
                                                                            refine And.imp_left (rs_iconst i_L_law_1425 (v := 3) (by decide)) ?_
                                                                            refine And.imp_left (rs_iadd i_L_law_1426) ?_
                                                                            obtain ⟨c86, hf⟩ := ite_some hf
                                                                            refine And.imp_left (rs_ialdS i_L_law_1427 (sScrI SH c86)) ?_
                                                                            obtain ⟨o87, e87, hf⟩ := bind_some hf
                                                                            obtain ⟨u87, SH2⟩ := k_X7_record (X := X) (d := d) (by omega) (by omega) SH e87
                                                                            refine And.imp_left (rs_inV i_L_law_1428 m_X7_record rfl (As := [.int (X (ix (v3 + 1))), .int (X (ix (v3 + 2))), .int (X (ix (v3 + 3)))]) (rest := []) rfl rfl (Nat.le_of_ble_eq_true rfl) (sO7 SH (by omega)) u87 (st' := [.int o87.1]) rfl) ?_
                                                                            clear SH; have SH := SH2; clear SH2
                                                                            refine And.imp_left (rs_pop i_L_law_1431 rfl) ?_
                                                                            refine And.imp_left (rs_aload_n i_L_law_1432 rfl) ?_
                                                                            refine And.imp_left (rs_aload_n i_L_law_1433 rfl) ?_
                                                                            refine And.imp_left (rs_iload_n i_L_law_1434 rfl) ?_
                                                                            refine And.imp_left (rs_iconst i_L_law_1435 (v := 1) (by decide)) ?_
                                                                            refine And.imp_left (rs_iadd i_L_law_1436) ?_
                                                                            refine And.imp_left (rs_ialdS i_L_law_1437 (sScrI SH c84)) ?_
                                                                            refine And.imp_left (rs_aload_n i_L_law_1438 rfl) ?_
                                                                            refine And.imp_left (rs_iload_n i_L_law_1439 rfl) ?_
                                                                            refine And.imp_left (rs_iconst i_L_law_1440 (v := 2) (by decide)) ?_
                                                                            refine And.imp_left (rs_iadd i_L_law_1441) ?_
                                                                            refine And.imp_left (rs_ialdS i_L_law_1442 (sScrI SH c85)) ?_
                                                                            refine And.imp_left (rs_aload_n i_L_law_1443 rfl) ?_
                                                                            refine And.imp_left (rs_iload_n i_L_law_1444 rfl) ?_
                                                                            refine And.imp_left (rs_iconst i_L_law_1445 (v := 3) (by decide)) ?_
                                                                            refine And.imp_left (rs_iadd i_L_law_1446) ?_
                                                                            refine And.imp_left (rs_ialdS i_L_law_1447 (sScrI SH c86)) ?_
                                                                            obtain ⟨o88, e88, hf⟩ := bind_some hf
                                                                            obtain ⟨u88, SH2⟩ := k_X8_record (X := X) (d := d) (by omega) (by omega) SH e88
                                                                            refine And.imp_left (rs_inV i_L_law_1448 m_X8_record rfl (As := [.int (X (ix (v3 + 1))), .int (X (ix (v3 + 2))), .int (X (ix (v3 + 3)))]) (rest := []) rfl rfl (Nat.le_of_ble_eq_true rfl) (sO8 SH hh) u88 (st' := [.int o88.1]) rfl) ?_
                                                                            clear SH; have SH := SH2; clear SH2
                                                                            refine And.imp_left (rs_pop i_L_law_1451 rfl) ?_
                                                                            refine And.imp_left (rs_goto i_L_law_1452 (tg := 1769) (by decide)) ?_
                                                                            exact q_L_law_1769 hd hh ih SH hf
                                                                          · replace hf := (if_neg c37).symm.trans hf
                                                                            by_cases c38 : ((X (ix v3)) &&& 63) = 35
                                                                            · replace hf := (if_pos c38).symm.trans hf
                                                                              refine And.imp_left (rs_tsw i_L_law_33 (off := 1422) (by rw [c38]; decide) (tg := 1455) (by decide)) ?_
                                                                              refine And.imp_left (rs_aload_n i_L_law_1455 rfl) ?_
                                                                              refine And.imp_left (rs_aload_n i_L_law_1456 rfl) ?_
                                                                              refine And.imp_left (rs_iload_n i_L_law_1457 rfl) ?_
                                                                              refine And.imp_left (rs_iconst i_L_law_1458 (v := 1) (by decide)) ?_
                                                                              refine And.imp_left (rs_iadd i_L_law_1459) ?_
                                                                              obtain ⟨c78, hf⟩ := ite_some hf
                                                                              refine And.imp_left (rs_ialdS i_L_law_1460 (sScrI SH c78)) ?_
                                                                              refine And.imp_left (rs_aload_n i_L_law_1461 rfl) ?_
                                                                              refine And.imp_left (rs_iload_n i_L_law_1462 rfl) ?_
                                                                              refine And.imp_left (rs_iconst i_L_law_1463 (v := 2) (by decide)) ?_
                                                                              refine And.imp_left (rs_iadd i_L_law_1464) ?_
                                                                              obtain ⟨c79, hf⟩ := ite_some hf
                                                                              refine And.imp_left (rs_ialdS i_L_law_1465 (sScrI SH c79)) ?_
                                                                              refine And.imp_left (rs_aload_n i_L_law_1466 rfl) ?_
                                                                              refine And.imp_left (rs_iload_n i_L_law_1467 rfl) ?_
                                                                              refine And.imp_left (rs_iconst i_L_law_1468 (v := 3) (by decide)) ?_
                                                                              refine And.imp_left (rs_iadd i_L_law_1469) ?_
                                                                              obtain ⟨c80, hf⟩ := ite_some hf
                                                                              refine And.imp_left (rs_ialdS i_L_law_1470 (sScrI SH c80)) ?_
                                                                              refine And.imp_left (rs_aload_n i_L_law_1471 rfl) ?_
                                                                              refine And.imp_left (rs_iload_n i_L_law_1472 rfl) ?_
                                                                              refine And.imp_left (rs_iconst i_L_law_1473 (v := 4) (by decide)) ?_
                                                                              refine And.imp_left (rs_iadd i_L_law_1474) ?_
                                                                              obtain ⟨c81, hf⟩ := ite_some hf
                                                                              refine And.imp_left (rs_ialdS i_L_law_1475 (sScrI SH c81)) ?_
                                                                              obtain ⟨o82, e82, hf⟩ := bind_some hf
                                                                              obtain ⟨u82, SH2⟩ := k_X7_drawn (X := X) (d := d) (by omega) (by omega) SH e82
                                                                              refine And.imp_left (rs_inV i_L_law_1476 m_X7_drawn rfl (As := [.int (X (ix (v3 + 1))), .int (X (ix (v3 + 2))), .int (X (ix (v3 + 3))), .int (X (ix (v3 + 4)))]) (rest := []) rfl rfl (Nat.le_of_ble_eq_true rfl) (sO7 SH (by omega)) u82 (st' := [.int o82.1]) rfl) ?_
                                                                              clear SH; have SH := SH2; clear SH2
                                                                              refine And.imp_left (rs_pop i_L_law_1479 rfl) ?_
                                                                              refine And.imp_left (rs_aload_n i_L_law_1480 rfl) ?_
                                                                              refine And.imp_left (rs_aload_n i_L_law_1481 rfl) ?_
                                                                              refine And.imp_left (rs_iload_n i_L_law_1482 rfl) ?_
                                                                              refine And.imp_left (rs_iconst i_L_law_1483 (v := 1) (by decide)) ?_
                                                                              refine And.imp_left (rs_iadd i_L_law_1484) ?_
                                                                              refine And.imp_left (rs_ialdS i_L_law_1485 (sScrI SH c78)) ?_
                                                                              refine And.imp_left (rs_aload_n i_L_law_1486 rfl) ?_
                                                                              refine And.imp_left (rs_iload_n i_L_law_1487 rfl) ?_
                                                                              refine And.imp_left (rs_iconst i_L_law_1488 (v := 2) (by decide)) ?_
                                                                              refine And.imp_left (rs_iadd i_L_law_1489) ?_
                                                                              refine And.imp_left (rs_ialdS i_L_law_1490 (sScrI SH c79)) ?_
                                                                              refine And.imp_left (rs_aload_n i_L_law_1491 rfl) ?_
                                                                              refine And.imp_left (rs_iload_n i_L_law_1492 rfl) ?_
                                                                              refine And.imp_left (rs_iconst i_L_law_1493 (v := 3) (by decide)) ?_
                                                                              refine And.imp_left (rs_iadd i_L_law_1494) ?_
                                                                              refine And.imp_left (rs_ialdS i_L_law_1495 (sScrI SH c80)) ?_
                                                                              refine And.imp_left (rs_aload_n i_L_law_1496 rfl) ?_
                                                                              refine And.imp_left (rs_iload_n i_L_law_1497 rfl) ?_
                                                                              refine And.imp_left (rs_iconst i_L_law_1498 (v := 4) (by decide)) ?_
                                                                              refine And.imp_left (rs_iadd i_L_law_1499) ?_
                                                                              refine And.imp_left (rs_ialdS i_L_law_1500 (sScrI SH c81)) ?_
                                                                              obtain ⟨o83, e83, hf⟩ := bind_some hf
                                                                              obtain ⟨u83, SH2⟩ := k_X8_drawn (X := X) (d := d) (by omega) (by omega) SH e83
                                                                              refine And.imp_left (rs_inV i_L_law_1501 m_X8_drawn rfl (As := [.int (X (ix (v3 + 1))), .int (X (ix (v3 + 2))), .int (X (ix (v3 + 3))), .int (X (ix (v3 + 4)))]) (rest := []) rfl rfl (Nat.le_of_ble_eq_true rfl) (sO8 SH hh) u83 (st' := [.int o83.1]) rfl) ?_
                                                                              clear SH; have SH := SH2; clear SH2
                                                                              refine And.imp_left (rs_pop i_L_law_1504 rfl) ?_
                                                                              refine And.imp_left (rs_goto i_L_law_1505 (tg := 1769) (by decide)) ?_
                                                                              exact q_L_law_1769 hd hh ih SH hf
                                                                            · replace hf := (if_neg c38).symm.trans hf
                                                                              by_cases c39 : ((X (ix v3)) &&& 63) = 36
                                                                              · replace hf := (if_pos c39).symm.trans hf
                                                                                refine And.imp_left (rs_tsw i_L_law_33 (off := 1475) (by rw [c39]; decide) (tg := 1508) (by decide)) ?_
                                                                                refine And.imp_left (rs_aload_n i_L_law_1508 rfl) ?_
                                                                                obtain ⟨o76, e76, hf⟩ := bind_some hf
                                                                                obtain ⟨u76, SH2⟩ := k_X7_image (X := X) (d := d) (by omega) (by omega) SH e76
                                                                                refine And.imp_left (rs_inV i_L_law_1509 m_X7_image rfl (As := []) (rest := []) rfl rfl (Nat.le_of_ble_eq_true rfl) (sO7 SH (by omega)) u76 (st' := [.int o76.1]) rfl) ?_
                                                                                clear SH; have SH := SH2; clear SH2
                                                                                refine And.imp_left (rs_pop i_L_law_1512 rfl) ?_
                                                                                refine And.imp_left (rs_aload_n i_L_law_1513 rfl) ?_
                                                                                obtain ⟨o77, e77, hf⟩ := bind_some hf
                                                                                obtain ⟨u77, SH2⟩ := k_X8_image (X := X) (d := d) (by omega) (by omega) SH e77
                                                                                refine And.imp_left (rs_inV i_L_law_1514 m_X8_image rfl (As := []) (rest := []) rfl rfl (Nat.le_of_ble_eq_true rfl) (sO8 SH hh) u77 (st' := [.int o77.1]) rfl) ?_
                                                                                clear SH; have SH := SH2; clear SH2
                                                                                refine And.imp_left (rs_pop i_L_law_1517 rfl) ?_
                                                                                refine And.imp_left (rs_goto i_L_law_1518 (tg := 1769) (by decide)) ?_
                                                                                exact q_L_law_1769 hd hh ih SH hf
                                                                              · replace hf := (if_neg c39).symm.trans hf
                                                                                by_cases c40 : ((X (ix v3)) &&& 63) = 37
                                                                                · replace hf := (if_pos c40).symm.trans hf
                                                                                  refine And.imp_left (rs_tsw i_L_law_33 (off := 1488) (by rw [c40]; decide) (tg := 1521) (by decide)) ?_
                                                                                  refine And.imp_left (rs_aload_n i_L_law_1521 rfl) ?_
                                                                                  obtain ⟨o74, e74, hf⟩ := bind_some hf
                                                                                  obtain ⟨u74, SH2⟩ := k_X7_back (X := X) (d := d) (by omega) (by omega) SH e74
                                                                                  refine And.imp_left (rs_inV i_L_law_1522 m_X7_back rfl (As := []) (rest := []) rfl rfl (Nat.le_of_ble_eq_true rfl) (sO7 SH (by omega)) u74 (st' := [.int o74.1]) rfl) ?_
                                                                                  clear SH; have SH := SH2; clear SH2
                                                                                  refine And.imp_left (rs_pop i_L_law_1525 rfl) ?_
                                                                                  refine And.imp_left (rs_aload_n i_L_law_1526 rfl) ?_
                                                                                  obtain ⟨o75, e75, hf⟩ := bind_some hf
                                                                                  obtain ⟨u75, SH2⟩ := k_X8_back (X := X) (d := d) (by omega) (by omega) SH e75
                                                                                  refine And.imp_left (rs_inV i_L_law_1527 m_X8_back rfl (As := []) (rest := []) rfl rfl (Nat.le_of_ble_eq_true rfl) (sO8 SH hh) u75 (st' := [.int o75.1]) rfl) ?_
                                                                                  clear SH; have SH := SH2; clear SH2
                                                                                  refine And.imp_left (rs_pop i_L_law_1530 rfl) ?_
                                                                                  refine And.imp_left (rs_goto i_L_law_1531 (tg := 1769) (by decide)) ?_
                                                                                  exact q_L_law_1769 hd hh ih SH hf
                                                                                · replace hf := (if_neg c40).symm.trans hf
                                                                                  by_cases c41 : ((X (ix v3)) &&& 63) = 38
                                                                                  · replace hf := (if_pos c41).symm.trans hf
                                                                                    refine And.imp_left (rs_tsw i_L_law_33 (off := 1501) (by rw [c41]; decide) (tg := 1534) (by decide)) ?_
                                                                                    refine And.imp_left (rs_aload_n i_L_law_1534 rfl) ?_
                                                                                    refine And.imp_left (rs_aload_n i_L_law_1535 rfl) ?_
                                                                                    refine And.imp_left (rs_iload_n i_L_law_1536 rfl) ?_
                                                                                    refine And.imp_left (rs_iconst i_L_law_1537 (v := 1) (by decide)) ?_
                                                                                    refine And.imp_left (rs_iadd i_L_law_1538) ?_
                                                                                    obtain ⟨c69, hf⟩ := ite_some hf
                                                                                    refine And.imp_left (rs_ialdS i_L_law_1539 (sScrI SH c69)) ?_
                                                                                    refine And.imp_left (rs_aload_n i_L_law_1540 rfl) ?_
                                                                                    refine And.imp_left (rs_iload_n i_L_law_1541 rfl) ?_
                                                                                    refine And.imp_left (rs_iconst i_L_law_1542 (v := 2) (by decide)) ?_
                                                                                    refine And.imp_left (rs_iadd i_L_law_1543) ?_
                                                                                    obtain ⟨c70, hf⟩ := ite_some hf
                                                                                    refine And.imp_left (rs_ialdS i_L_law_1544 (sScrI SH c70)) ?_
                                                                                    refine And.imp_left (rs_aload_n i_L_law_1545 rfl) ?_
                                                                                    refine And.imp_left (rs_iload_n i_L_law_1546 rfl) ?_
                                                                                    refine And.imp_left (rs_iconst i_L_law_1547 (v := 3) (by decide)) ?_
                                                                                    refine And.imp_left (rs_iadd i_L_law_1548) ?_
                                                                                    obtain ⟨c71, hf⟩ := ite_some hf
                                                                                    refine And.imp_left (rs_ialdS i_L_law_1549 (sScrI SH c71)) ?_
                                                                                    obtain ⟨o72, e72, hf⟩ := bind_some hf
                                                                                    obtain ⟨u72, SH2⟩ := k_X7_sheet (X := X) (d := d) (by omega) (by omega) SH e72
                                                                                    refine And.imp_left (rs_inV i_L_law_1550 m_X7_sheet rfl (As := [.int (X (ix (v3 + 1))), .int (X (ix (v3 + 2))), .int (X (ix (v3 + 3)))]) (rest := []) rfl rfl (Nat.le_of_ble_eq_true rfl) (sO7 SH (by omega)) u72 (st' := [.int o72.1]) rfl) ?_
                                                                                    clear SH; have SH := SH2; clear SH2
                                                                                    refine And.imp_left (rs_pop i_L_law_1553 rfl) ?_
                                                                                    refine And.imp_left (rs_aload_n i_L_law_1554 rfl) ?_
                                                                                    refine And.imp_left (rs_aload_n i_L_law_1555 rfl) ?_
                                                                                    refine And.imp_left (rs_iload_n i_L_law_1556 rfl) ?_
                                                                                    refine And.imp_left (rs_iconst i_L_law_1557 (v := 1) (by decide)) ?_
                                                                                    refine And.imp_left (rs_iadd i_L_law_1558) ?_
                                                                                    refine And.imp_left (rs_ialdS i_L_law_1559 (sScrI SH c69)) ?_
                                                                                    refine And.imp_left (rs_aload_n i_L_law_1560 rfl) ?_
                                                                                    refine And.imp_left (rs_iload_n i_L_law_1561 rfl) ?_
                                                                                    refine And.imp_left (rs_iconst i_L_law_1562 (v := 2) (by decide)) ?_
                                                                                    refine And.imp_left (rs_iadd i_L_law_1563) ?_
                                                                                    refine And.imp_left (rs_ialdS i_L_law_1564 (sScrI SH c70)) ?_
                                                                                    refine And.imp_left (rs_aload_n i_L_law_1565 rfl) ?_
                                                                                    refine And.imp_left (rs_iload_n i_L_law_1566 rfl) ?_
                                                                                    refine And.imp_left (rs_iconst i_L_law_1567 (v := 3) (by decide)) ?_
                                                                                    refine And.imp_left (rs_iadd i_L_law_1568) ?_
                                                                                    refine And.imp_left (rs_ialdS i_L_law_1569 (sScrI SH c71)) ?_
                                                                                    obtain ⟨o73, e73, hf⟩ := bind_some hf
                                                                                    obtain ⟨u73, SH2⟩ := k_X8_sheet (X := X) (d := d) (by omega) (by omega) SH e73
                                                                                    refine And.imp_left (rs_inV i_L_law_1570 m_X8_sheet rfl (As := [.int (X (ix (v3 + 1))), .int (X (ix (v3 + 2))), .int (X (ix (v3 + 3)))]) (rest := []) rfl rfl (Nat.le_of_ble_eq_true rfl) (sO8 SH hh) u73 (st' := [.int o73.1]) rfl) ?_
                                                                                    clear SH; have SH := SH2; clear SH2
                                                                                    refine And.imp_left (rs_pop i_L_law_1573 rfl) ?_
                                                                                    refine And.imp_left (rs_goto i_L_law_1574 (tg := 1769) (by decide)) ?_
                                                                                    exact q_L_law_1769 hd hh ih SH hf
                                                                                  · replace hf := (if_neg c41).symm.trans hf
                                                                                    by_cases c42 : ((X (ix v3)) &&& 63) = 39
                                                                                    · replace hf := (if_pos c42).symm.trans hf
                                                                                      refine And.imp_left (rs_tsw i_L_law_33 (off := 1544) (by rw [c42]; decide) (tg := 1577) (by decide)) ?_
                                                                                      refine And.imp_left (rs_aload_n i_L_law_1577 rfl) ?_
                                                                                      refine And.imp_left (rs_aload_n i_L_law_1578 rfl) ?_
                                                                                      refine And.imp_left (rs_iload_n i_L_law_1579 rfl) ?_
                                                                                      refine And.imp_left (rs_iconst i_L_law_1580 (v := 1) (by decide)) ?_
                                                                                      refine And.imp_left (rs_iadd i_L_law_1581) ?_
                                                                                      obtain ⟨c64, hf⟩ := ite_some hf
                                                                                      refine And.imp_left (rs_ialdS i_L_law_1582 (sScrI SH c64)) ?_
                                                                                      refine And.imp_left (rs_aload_n i_L_law_1583 rfl) ?_
                                                                                      refine And.imp_left (rs_iload_n i_L_law_1584 rfl) ?_
                                                                                      refine And.imp_left (rs_iconst i_L_law_1585 (v := 2) (by decide)) ?_
                                                                                      refine And.imp_left (rs_iadd i_L_law_1586) ?_
                                                                                      obtain ⟨c65, hf⟩ := ite_some hf
                                                                                      refine And.imp_left (rs_ialdS i_L_law_1587 (sScrI SH c65)) ?_
                                                                                      refine And.imp_left (rs_aload_n i_L_law_1588 rfl) ?_
                                                                                      refine And.imp_left (rs_iload_n i_L_law_1589 rfl) ?_
                                                                                      refine And.imp_left (rs_iconst i_L_law_1590 (v := 3) (by decide)) ?_
                                                                                      refine And.imp_left (rs_iadd i_L_law_1591) ?_
                                                                                      obtain ⟨c66, hf⟩ := ite_some hf
                                                                                      refine And.imp_left (rs_ialdS i_L_law_1592 (sScrI SH c66)) ?_
                                                                                      obtain ⟨o67, e67, hf⟩ := bind_some hf
                                                                                      obtain ⟨u67, SH2⟩ := k_X7_cell (X := X) (d := d) (by omega) (by omega) SH e67
                                                                                      refine And.imp_left (rs_inV i_L_law_1593 m_X7_cell rfl (As := [.int (X (ix (v3 + 1))), .int (X (ix (v3 + 2))), .int (X (ix (v3 + 3)))]) (rest := []) rfl rfl (Nat.le_of_ble_eq_true rfl) (sO7 SH (by omega)) u67 (st' := [.int o67.1]) rfl) ?_
                                                                                      clear SH; have SH := SH2; clear SH2
                                                                                      refine And.imp_left (rs_pop i_L_law_1596 rfl) ?_
                                                                                      refine And.imp_left (rs_aload_n i_L_law_1597 rfl) ?_
                                                                                      refine And.imp_left (rs_aload_n i_L_law_1598 rfl) ?_
                                                                                      refine And.imp_left (rs_iload_n i_L_law_1599 rfl) ?_
                                                                                      refine And.imp_left (rs_iconst i_L_law_1600 (v := 1) (by decide)) ?_
                                                                                      refine And.imp_left (rs_iadd i_L_law_1601) ?_
                                                                                      refine And.imp_left (rs_ialdS i_L_law_1602 (sScrI SH c64)) ?_
                                                                                      refine And.imp_left (rs_aload_n i_L_law_1603 rfl) ?_
                                                                                      refine And.imp_left (rs_iload_n i_L_law_1604 rfl) ?_
                                                                                      refine And.imp_left (rs_iconst i_L_law_1605 (v := 2) (by decide)) ?_
                                                                                      refine And.imp_left (rs_iadd i_L_law_1606) ?_
                                                                                      refine And.imp_left (rs_ialdS i_L_law_1607 (sScrI SH c65)) ?_
                                                                                      refine And.imp_left (rs_aload_n i_L_law_1608 rfl) ?_
                                                                                      refine And.imp_left (rs_iload_n i_L_law_1609 rfl) ?_
                                                                                      refine And.imp_left (rs_iconst i_L_law_1610 (v := 3) (by decide)) ?_
                                                                                      refine And.imp_left (rs_iadd i_L_law_1611) ?_
                                                                                      refine And.imp_left (rs_ialdS i_L_law_1612 (sScrI SH c66)) ?_
                                                                                      obtain ⟨o68, e68, hf⟩ := bind_some hf
                                                                                      obtain ⟨u68, SH2⟩ := k_X8_cell (X := X) (d := d) (by omega) (by omega) SH e68
                                                                                      refine And.imp_left (rs_inV i_L_law_1613 m_X8_cell rfl (As := [.int (X (ix (v3 + 1))), .int (X (ix (v3 + 2))), .int (X (ix (v3 + 3)))]) (rest := []) rfl rfl (Nat.le_of_ble_eq_true rfl) (sO8 SH hh) u68 (st' := [.int o68.1]) rfl) ?_
                                                                                      clear SH; have SH := SH2; clear SH2
                                                                                      refine And.imp_left (rs_pop i_L_law_1616 rfl) ?_
                                                                                      refine And.imp_left (rs_goto i_L_law_1617 (tg := 1769) (by decide)) ?_
                                                                                      exact q_L_law_1769 hd hh ih SH hf
                                                                                    · replace hf := (if_neg c42).symm.trans hf
                                                                                      by_cases c43 : ((X (ix v3)) &&& 63) = 40
                                                                                      · replace hf := (if_pos c43).symm.trans hf
                                                                                        refine And.imp_left (rs_tsw i_L_law_33 (off := 1587) (by rw [c43]; decide) (tg := 1620) (by decide)) ?_
                                                                                        refine And.imp_left (rs_aload_n i_L_law_1620 rfl) ?_
                                                                                        refine And.imp_left (rs_aload_n i_L_law_1621 rfl) ?_
                                                                                        refine And.imp_left (rs_iload_n i_L_law_1622 rfl) ?_
                                                                                        refine And.imp_left (rs_iconst i_L_law_1623 (v := 1) (by decide)) ?_
                                                                                        refine And.imp_left (rs_iadd i_L_law_1624) ?_
                                                                                        obtain ⟨c57, hf⟩ := ite_some hf
                                                                                        refine And.imp_left (rs_ialdS i_L_law_1625 (sScrI SH c57)) ?_
                                                                                        refine And.imp_left (rs_aload_n i_L_law_1626 rfl) ?_
                                                                                        refine And.imp_left (rs_iload_n i_L_law_1627 rfl) ?_
                                                                                        refine And.imp_left (rs_iconst i_L_law_1628 (v := 2) (by decide)) ?_
                                                                                        refine And.imp_left (rs_iadd i_L_law_1629) ?_
                                                                                        obtain ⟨c58, hf⟩ := ite_some hf
                                                                                        refine And.imp_left (rs_ialdS i_L_law_1630 (sScrI SH c58)) ?_
                                                                                        refine And.imp_left (rs_aload_n i_L_law_1631 rfl) ?_
                                                                                        refine And.imp_left (rs_iload_n i_L_law_1632 rfl) ?_
                                                                                        refine And.imp_left (rs_iconst i_L_law_1633 (v := 3) (by decide)) ?_
                                                                                        refine And.imp_left (rs_iadd i_L_law_1634) ?_
                                                                                        obtain ⟨c59, hf⟩ := ite_some hf
                                                                                        refine And.imp_left (rs_ialdS i_L_law_1635 (sScrI SH c59)) ?_
                                                                                        refine And.imp_left (rs_aload_n i_L_law_1636 rfl) ?_
                                                                                        refine And.imp_left (rs_iload_n i_L_law_1637 rfl) ?_
                                                                                        refine And.imp_left (rs_iconst i_L_law_1638 (v := 4) (by decide)) ?_
                                                                                        refine And.imp_left (rs_iadd i_L_law_1639) ?_
                                                                                        obtain ⟨c60, hf⟩ := ite_some hf
                                                                                        refine And.imp_left (rs_ialdS i_L_law_1640 (sScrI SH c60)) ?_
                                                                                        refine And.imp_left (rs_aload_n i_L_law_1641 rfl) ?_
                                                                                        refine And.imp_left (rs_iload_n i_L_law_1642 rfl) ?_
                                                                                        refine And.imp_left (rs_iconst i_L_law_1643 (v := 5) (by decide)) ?_
                                                                                        refine And.imp_left (rs_iadd i_L_law_1644) ?_
                                                                                        obtain ⟨c61, hf⟩ := ite_some hf
                                                                                        refine And.imp_left (rs_ialdS i_L_law_1645 (sScrI SH c61)) ?_
                                                                                        obtain ⟨o62, e62, hf⟩ := bind_some hf
                                                                                        obtain ⟨u62, SH2⟩ := k_X7_copy (X := X) (d := d) (by omega) (by omega) SH e62
                                                                                        refine And.imp_left (rs_inV i_L_law_1646 m_X7_copy rfl (As := [.int (X (ix (v3 + 1))), .int (X (ix (v3 + 2))), .int (X (ix (v3 + 3))), .int (X (ix (v3 + 4))), .int (X (ix (v3 + 5)))]) (rest := []) rfl rfl (Nat.le_of_ble_eq_true rfl) (sO7 SH (by omega)) u62 (st' := [.int o62.1]) rfl) ?_
                                                                                        clear SH; have SH := SH2; clear SH2
                                                                                        refine And.imp_left (rs_pop i_L_law_1649 rfl) ?_
                                                                                        refine And.imp_left (rs_aload_n i_L_law_1650 rfl) ?_
                                                                                        refine And.imp_left (rs_aload_n i_L_law_1651 rfl) ?_
                                                                                        refine And.imp_left (rs_iload_n i_L_law_1652 rfl) ?_
                                                                                        refine And.imp_left (rs_iconst i_L_law_1653 (v := 1) (by decide)) ?_
                                                                                        refine And.imp_left (rs_iadd i_L_law_1654) ?_
                                                                                        refine And.imp_left (rs_ialdS i_L_law_1655 (sScrI SH c57)) ?_
                                                                                        refine And.imp_left (rs_aload_n i_L_law_1656 rfl) ?_
                                                                                        refine And.imp_left (rs_iload_n i_L_law_1657 rfl) ?_
                                                                                        refine And.imp_left (rs_iconst i_L_law_1658 (v := 2) (by decide)) ?_
                                                                                        refine And.imp_left (rs_iadd i_L_law_1659) ?_
                                                                                        refine And.imp_left (rs_ialdS i_L_law_1660 (sScrI SH c58)) ?_
                                                                                        refine And.imp_left (rs_aload_n i_L_law_1661 rfl) ?_
                                                                                        refine And.imp_left (rs_iload_n i_L_law_1662 rfl) ?_
                                                                                        refine And.imp_left (rs_iconst i_L_law_1663 (v := 3) (by decide)) ?_
                                                                                        refine And.imp_left (rs_iadd i_L_law_1664) ?_
                                                                                        refine And.imp_left (rs_ialdS i_L_law_1665 (sScrI SH c59)) ?_
                                                                                        refine And.imp_left (rs_aload_n i_L_law_1666 rfl) ?_
                                                                                        refine And.imp_left (rs_iload_n i_L_law_1667 rfl) ?_
                                                                                        refine And.imp_left (rs_iconst i_L_law_1668 (v := 4) (by decide)) ?_
                                                                                        refine And.imp_left (rs_iadd i_L_law_1669) ?_
                                                                                        refine And.imp_left (rs_ialdS i_L_law_1670 (sScrI SH c60)) ?_
                                                                                        refine And.imp_left (rs_aload_n i_L_law_1671 rfl) ?_
                                                                                        refine And.imp_left (rs_iload_n i_L_law_1672 rfl) ?_
                                                                                        refine And.imp_left (rs_iconst i_L_law_1673 (v := 5) (by decide)) ?_
                                                                                        refine And.imp_left (rs_iadd i_L_law_1674) ?_
                                                                                        refine And.imp_left (rs_ialdS i_L_law_1675 (sScrI SH c61)) ?_
                                                                                        obtain ⟨o63, e63, hf⟩ := bind_some hf
                                                                                        obtain ⟨u63, SH2⟩ := k_X8_copy (X := X) (d := d) (by omega) (by omega) SH e63
                                                                                        refine And.imp_left (rs_inV i_L_law_1676 m_X8_copy rfl (As := [.int (X (ix (v3 + 1))), .int (X (ix (v3 + 2))), .int (X (ix (v3 + 3))), .int (X (ix (v3 + 4))), .int (X (ix (v3 + 5)))]) (rest := []) rfl rfl (Nat.le_of_ble_eq_true rfl) (sO8 SH hh) u63 (st' := [.int o63.1]) rfl) ?_
                                                                                        clear SH; have SH := SH2; clear SH2
                                                                                        refine And.imp_left (rs_pop i_L_law_1679 rfl) ?_
                                                                                        refine And.imp_left (rs_goto i_L_law_1680 (tg := 1769) (by decide)) ?_
                                                                                        exact q_L_law_1769 hd hh ih SH hf
                                                                                      · replace hf := (if_neg c43).symm.trans hf
                                                                                        by_cases c44 : ((X (ix v3)) &&& 63) = 41
                                                                                        · replace hf := (if_pos c44).symm.trans hf
                                                                                          refine And.imp_left (rs_tsw i_L_law_33 (off := 1650) (by rw [c44]; decide) (tg := 1683) (by decide)) ?_
                                                                                          refine And.imp_left (rs_aload_n i_L_law_1683 rfl) ?_
                                                                                          refine And.imp_left (rs_aload_n i_L_law_1684 rfl) ?_
                                                                                          refine And.imp_left (rs_iload_n i_L_law_1685 rfl) ?_
                                                                                          refine And.imp_left (rs_iconst i_L_law_1686 (v := 1) (by decide)) ?_
                                                                                          refine And.imp_left (rs_iadd i_L_law_1687) ?_
                                                                                          obtain ⟨c51, hf⟩ := ite_some hf
                                                                                          refine And.imp_left (rs_ialdS i_L_law_1688 (sScrI SH c51)) ?_
                                                                                          refine And.imp_left (rs_aload_n i_L_law_1689 rfl) ?_
                                                                                          refine And.imp_left (rs_iload_n i_L_law_1690 rfl) ?_
                                                                                          refine And.imp_left (rs_iconst i_L_law_1691 (v := 2) (by decide)) ?_
                                                                                          refine And.imp_left (rs_iadd i_L_law_1692) ?_
                                                                                          obtain ⟨c52, hf⟩ := ite_some hf
                                                                                          refine And.imp_left (rs_ialdS i_L_law_1693 (sScrI SH c52)) ?_
                                                                                          refine And.imp_left (rs_aload_n i_L_law_1694 rfl) ?_
                                                                                          refine And.imp_left (rs_iload_n i_L_law_1695 rfl) ?_
                                                                                          refine And.imp_left (rs_iconst i_L_law_1696 (v := 3) (by decide)) ?_
                                                                                          refine And.imp_left (rs_iadd i_L_law_1697) ?_
                                                                                          obtain ⟨c53, hf⟩ := ite_some hf
                                                                                          refine And.imp_left (rs_ialdS i_L_law_1698 (sScrI SH c53)) ?_
                                                                                          refine And.imp_left (rs_aload_n i_L_law_1699 rfl) ?_
                                                                                          refine And.imp_left (rs_iload_n i_L_law_1700 rfl) ?_
                                                                                          refine And.imp_left (rs_iconst i_L_law_1701 (v := 4) (by decide)) ?_
                                                                                          refine And.imp_left (rs_iadd i_L_law_1702) ?_
                                                                                          obtain ⟨c54, hf⟩ := ite_some hf
                                                                                          refine And.imp_left (rs_ialdS i_L_law_1703 (sScrI SH c54)) ?_
                                                                                          obtain ⟨o55, e55, hf⟩ := bind_some hf
                                                                                          obtain ⟨u55, SH2⟩ := k_X7_stepsBy (X := X) (d := d) (by omega) (by omega) SH e55
                                                                                          refine And.imp_left (rs_inV i_L_law_1704 m_X7_stepsBy rfl (As := [.int (X (ix (v3 + 1))), .int (X (ix (v3 + 2))), .int (X (ix (v3 + 3))), .int (X (ix (v3 + 4)))]) (rest := []) rfl rfl (Nat.le_of_ble_eq_true rfl) (sO7 SH (by omega)) u55 (st' := [.int o55.1]) rfl) ?_
                                                                                          clear SH; have SH := SH2; clear SH2
                                                                                          refine And.imp_left (rs_pop i_L_law_1707 rfl) ?_
                                                                                          refine And.imp_left (rs_aload_n i_L_law_1708 rfl) ?_
                                                                                          refine And.imp_left (rs_aload_n i_L_law_1709 rfl) ?_
                                                                                          refine And.imp_left (rs_iload_n i_L_law_1710 rfl) ?_
                                                                                          refine And.imp_left (rs_iconst i_L_law_1711 (v := 1) (by decide)) ?_
                                                                                          refine And.imp_left (rs_iadd i_L_law_1712) ?_
                                                                                          refine And.imp_left (rs_ialdS i_L_law_1713 (sScrI SH c51)) ?_
                                                                                          refine And.imp_left (rs_aload_n i_L_law_1714 rfl) ?_
                                                                                          refine And.imp_left (rs_iload_n i_L_law_1715 rfl) ?_
                                                                                          refine And.imp_left (rs_iconst i_L_law_1716 (v := 2) (by decide)) ?_
                                                                                          refine And.imp_left (rs_iadd i_L_law_1717) ?_
                                                                                          refine And.imp_left (rs_ialdS i_L_law_1718 (sScrI SH c52)) ?_
                                                                                          refine And.imp_left (rs_aload_n i_L_law_1719 rfl) ?_
                                                                                          refine And.imp_left (rs_iload_n i_L_law_1720 rfl) ?_
                                                                                          refine And.imp_left (rs_iconst i_L_law_1721 (v := 3) (by decide)) ?_
                                                                                          refine And.imp_left (rs_iadd i_L_law_1722) ?_
                                                                                          refine And.imp_left (rs_ialdS i_L_law_1723 (sScrI SH c53)) ?_
                                                                                          refine And.imp_left (rs_aload_n i_L_law_1724 rfl) ?_
                                                                                          refine And.imp_left (rs_iload_n i_L_law_1725 rfl) ?_
                                                                                          refine And.imp_left (rs_iconst i_L_law_1726 (v := 4) (by decide)) ?_
                                                                                          refine And.imp_left (rs_iadd i_L_law_1727) ?_
                                                                                          refine And.imp_left (rs_ialdS i_L_law_1728 (sScrI SH c54)) ?_
                                                                                          obtain ⟨o56, e56, hf⟩ := bind_some hf
                                                                                          obtain ⟨u56, SH2⟩ := k_X8_stepsBy (X := X) (d := d) (by omega) (by omega) SH e56
                                                                                          refine And.imp_left (rs_inV i_L_law_1729 m_X8_stepsBy rfl (As := [.int (X (ix (v3 + 1))), .int (X (ix (v3 + 2))), .int (X (ix (v3 + 3))), .int (X (ix (v3 + 4)))]) (rest := []) rfl rfl (Nat.le_of_ble_eq_true rfl) (sO8 SH hh) u56 (st' := [.int o56.1]) rfl) ?_
                                                                                          clear SH; have SH := SH2; clear SH2
                                                                                          refine And.imp_left (rs_pop i_L_law_1732 rfl) ?_
                                                                                          refine And.imp_left (rs_goto i_L_law_1733 (tg := 1769) (by decide)) ?_
                                                                                          exact q_L_law_1769 hd hh ih SH hf
                                                                                        · replace hf := (if_neg c44).symm.trans hf
                                                                                          by_cases c45 : ((X (ix v3)) &&& 63) = 42
                                                                                          · replace hf := (if_pos c45).symm.trans hf
                                                                                            refine And.imp_left (rs_tsw i_L_law_33 (off := 1703) (by rw [c45]; decide) (tg := 1736) (by decide)) ?_
                                                                                            refine And.imp_left (rs_aload_n i_L_law_1736 rfl) ?_
                                                                                            refine And.imp_left (rs_aload_n i_L_law_1737 rfl) ?_
                                                                                            refine And.imp_left (rs_iload_n i_L_law_1738 rfl) ?_
                                                                                            refine And.imp_left (rs_iconst i_L_law_1739 (v := 1) (by decide)) ?_
                                                                                            refine And.imp_left (rs_iadd i_L_law_1740) ?_
                                                                                            obtain ⟨c46, hf⟩ := ite_some hf
                                                                                            refine And.imp_left (rs_ialdS i_L_law_1741 (sScrI SH c46)) ?_
                                                                                            refine And.imp_left (rs_aload_n i_L_law_1742 rfl) ?_
                                                                                            refine And.imp_left (rs_iload_n i_L_law_1743 rfl) ?_
                                                                                            refine And.imp_left (rs_iconst i_L_law_1744 (v := 2) (by decide)) ?_
                                                                                            refine And.imp_left (rs_iadd i_L_law_1745) ?_
                                                                                            obtain ⟨c47, hf⟩ := ite_some hf
                                                                                            refine And.imp_left (rs_ialdS i_L_law_1746 (sScrI SH c47)) ?_
                                                                                            obtain ⟨o48, e48, hf⟩ := bind_some hf
                                                                                            obtain ⟨u48, SH2⟩ := k_X7_taken (X := X) (d := d) (by omega) (by omega) SH e48
                                                                                            refine And.imp_left (rs_inV i_L_law_1747 m_X7_taken rfl (As := [.int (X (ix (v3 + 1))), .int (X (ix (v3 + 2)))]) (rest := []) rfl rfl (Nat.le_of_ble_eq_true rfl) (sO7 SH (by omega)) u48 (st' := [.int o48.1]) rfl) ?_
                                                                                            clear SH; have SH := SH2; clear SH2
                                                                                            refine And.imp_left (rs_aload_n i_L_law_1750 rfl) ?_
                                                                                            refine And.imp_left (rs_aload_n i_L_law_1751 rfl) ?_
                                                                                            refine And.imp_left (rs_iload_n i_L_law_1752 rfl) ?_
                                                                                            refine And.imp_left (rs_iconst i_L_law_1753 (v := 1) (by decide)) ?_
                                                                                            refine And.imp_left (rs_iadd i_L_law_1754) ?_
                                                                                            refine And.imp_left (rs_ialdS i_L_law_1755 (sScrI SH c46)) ?_
                                                                                            refine And.imp_left (rs_aload_n i_L_law_1756 rfl) ?_
                                                                                            refine And.imp_left (rs_iload_n i_L_law_1757 rfl) ?_
                                                                                            refine And.imp_left (rs_iconst i_L_law_1758 (v := 2) (by decide)) ?_
                                                                                            refine And.imp_left (rs_iadd i_L_law_1759) ?_
                                                                                            refine And.imp_left (rs_ialdS i_L_law_1760 (sScrI SH c47)) ?_
                                                                                            obtain ⟨o49, e49, hf⟩ := bind_some hf
                                                                                            obtain ⟨u49, SH2⟩ := k_X8_taken (X := X) (d := d) (by omega) (by omega) SH e49
                                                                                            refine And.imp_left (rs_inV i_L_law_1761 m_X8_taken rfl (As := [.int (X (ix (v3 + 1))), .int (X (ix (v3 + 2)))]) (rest := [.int o48.1]) rfl rfl (Nat.le_of_ble_eq_true rfl) (sO8 SH hh) u49 (st' := [.int o49.1, .int o48.1]) rfl) ?_
                                                                                            clear SH; have SH := SH2; clear SH2
                                                                                            by_cases c50 : o48.1 = o49.1
                                                                                            · replace hf := (if_pos c50).symm.trans hf
                                                                                              refine And.imp_left (rs_icT i_L_law_1764 (ct_eq c50) (tg := 1769) (by decide)) ?_
                                                                                              exact q_L_law_1769 hd hh ih SH hf
                                                                                            · replace hf := (if_neg c50).symm.trans hf
                                                                                              refine And.imp_left (rs_icF i_L_law_1764 (cf_eq c50)) ?_
                                                                                              refine And.imp_left (rs_iconst i_L_law_1767 (v := 0) (by decide)) ?_
                                                                                              have hf := Option.some.inj hf
                                                                                              subst hf
                                                                                              exact ⟨rs_iret i_L_law_1768 m_L_law (by decide), SH⟩
                                                                                          · replace hf := (if_neg c45).symm.trans hf
                                                                                            refine And.imp_left (rs_tsw i_L_law_33 (off := 1736) (swt_df (by have z0 := ne_ti c3; rw [show (0 : Int32).toInt = 0 from by decide] at z0; have z1 := ne_ti c4; rw [show (1 : Int32).toInt = 1 from by decide] at z1; have z2 := ne_ti c5; rw [show (2 : Int32).toInt = 2 from by decide] at z2; have z3 := ne_ti c6; rw [show (3 : Int32).toInt = 3 from by decide] at z3; have z4 := ne_ti c7; rw [show (4 : Int32).toInt = 4 from by decide] at z4; have z5 := ne_ti c8; rw [show (5 : Int32).toInt = 5 from by decide] at z5; have z6 := ne_ti c9; rw [show (6 : Int32).toInt = 6 from by decide] at z6; have z7 := ne_ti c10; rw [show (7 : Int32).toInt = 7 from by decide] at z7; have z8 := ne_ti c11; rw [show (8 : Int32).toInt = 8 from by decide] at z8; have z9 := ne_ti c12; rw [show (9 : Int32).toInt = 9 from by decide] at z9; have z10 := ne_ti c13; rw [show (10 : Int32).toInt = 10 from by decide] at z10; have z11 := ne_ti c14; rw [show (11 : Int32).toInt = 11 from by decide] at z11; have z12 := ne_ti c15; rw [show (12 : Int32).toInt = 12 from by decide] at z12; have z13 := ne_ti c16; rw [show (13 : Int32).toInt = 13 from by decide] at z13; have z14 := ne_ti c17; rw [show (14 : Int32).toInt = 14 from by decide] at z14; have z15 := ne_ti c18; rw [show (15 : Int32).toInt = 15 from by decide] at z15; have z16 := ne_ti c19; rw [show (16 : Int32).toInt = 16 from by decide] at z16; have z17 := ne_ti c20; rw [show (17 : Int32).toInt = 17 from by decide] at z17; have z18 := ne_ti c21; rw [show (18 : Int32).toInt = 18 from by decide] at z18; have z19 := ne_ti c22; rw [show (19 : Int32).toInt = 19 from by decide] at z19; have z20 := ne_ti c23; rw [show (20 : Int32).toInt = 20 from by decide] at z20; have z21 := ne_ti c24; rw [show (21 : Int32).toInt = 21 from by decide] at z21; have z22 := ne_ti c25; rw [show (22 : Int32).toInt = 22 from by decide] at z22; have z23 := ne_ti c26; rw [show (23 : Int32).toInt = 23 from by decide] at z23; have z24 := ne_ti c27; rw [show (24 : Int32).toInt = 24 from by decide] at z24; have z25 := ne_ti c28; rw [show (25 : Int32).toInt = 25 from by decide] at z25; have z26 := ne_ti c29; rw [show (26 : Int32).toInt = 26 from by decide] at z26; have z27 := ne_ti c30; rw [show (27 : Int32).toInt = 27 from by decide] at z27; have z28 := ne_ti c31; rw [show (28 : Int32).toInt = 28 from by decide] at z28; have z29 := ne_ti c32; rw [show (29 : Int32).toInt = 29 from by decide] at z29; have z30 := ne_ti c33; rw [show (30 : Int32).toInt = 30 from by decide] at z30; have z31 := ne_ti c34; rw [show (31 : Int32).toInt = 31 from by decide] at z31; have z32 := ne_ti c35; rw [show (32 : Int32).toInt = 32 from by decide] at z32; have z33 := ne_ti c36; rw [show (33 : Int32).toInt = 33 from by decide] at z33; have z34 := ne_ti c37; rw [show (34 : Int32).toInt = 34 from by decide] at z34; have z35 := ne_ti c38; rw [show (35 : Int32).toInt = 35 from by decide] at z35; have z36 := ne_ti c39; rw [show (36 : Int32).toInt = 36 from by decide] at z36; have z37 := ne_ti c40; rw [show (37 : Int32).toInt = 37 from by decide] at z37; have z38 := ne_ti c41; rw [show (38 : Int32).toInt = 38 from by decide] at z38; have z39 := ne_ti c42; rw [show (39 : Int32).toInt = 39 from by decide] at z39; have z40 := ne_ti c43; rw [show (40 : Int32).toInt = 40 from by decide] at z40; have z41 := ne_ti c44; rw [show (41 : Int32).toInt = 41 from by decide] at z41; have z42 := ne_ti c45; rw [show (42 : Int32).toInt = 42 from by decide] at z42; omega)) (tg := 1769) (by decide)) ?_
                                                                                            exact q_L_law_1769 hd hh ih SH hf
