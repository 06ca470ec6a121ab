noncomputable def g_X8_spread_0 (n : Nat)  (h : Hp) : Option (Int32 × Hp) :=
  (g_X8_greatest n h).bind fun o1 =>
  (g_X8_thickOf o1.1 o1.2).bind fun o2 =>
  (g_X8_least n o2.2).bind fun o3 =>
  (g_X8_thickOf o3.1 o3.2).bind fun o4 =>
  some ((o2.1 - o4.1), o4.2)
set_option maxRecDepth 100000 in
set_option maxHeartbeats 4000000 in
theorem q_X8_spread_0 {X : Nat → Int32} {d : Nat} (hd : 2 ≤ (d + 1)) {L hi : Nat} (hh : 125 ≤ hi) {n : Nat}  {h : Hp} {o : (Int32 × Hp)}  (SH : SHP L hi h) (hf : g_X8_spread_0 n h = some o) : Run X (d + 1) 172 0 [some (.ref 96)] [] h (some (.int o.1), o.2) ∧ SHP L hi o.2 := by
  unfold g_X8_spread_0 at hf
  refine And.imp_left (rs_aload_n i_X8_spread_0 rfl) ?_
  refine And.imp_left (rs_aload_n i_X8_spread_1 rfl) ?_
  obtain ⟨o1, e1, hf⟩ := bind_some hf
  obtain ⟨u1, SH2⟩ := k_X8_greatest (X := X) (d := d) (by omega) (by omega) SH e1
  refine And.imp_left (rs_inV i_X8_spread_2 m_X8_greatest rfl (As := []) (rest := [.ref 96]) rfl rfl (Nat.le_of_ble_eq_true rfl) (sO8 SH hh) u1 (st' := [.int o1.1, .ref 96]) rfl) ?_
  clear SH; have SH := SH2; clear SH2
  obtain ⟨o2, e2, hf⟩ := bind_some hf
  obtain ⟨u2, SH2⟩ := k_X8_thickOf (X := X) (d := d) (by omega) (by omega) SH e2
  refine And.imp_left (rs_inV i_X8_spread_5 m_X8_thickOf rfl (As := [.int o1.1]) (rest := []) rfl rfl (Nat.le_of_ble_eq_true rfl) (sO8 SH hh) u2 (st' := [.int o2.1]) rfl) ?_
  clear SH; have SH := SH2; clear SH2
  refine And.imp_left (rs_aload_n i_X8_spread_8 rfl) ?_
  refine And.imp_left (rs_aload_n i_X8_spread_9 rfl) ?_
  obtain ⟨o3, e3, hf⟩ := bind_some hf
  obtain ⟨u3, SH2⟩ := k_X8_least (X := X) (d := d) (by omega) (by omega) SH e3
  refine And.imp_left (rs_inV i_X8_spread_10 m_X8_least rfl (As := []) (rest := [.ref 96, .int o2.1]) rfl rfl (Nat.le_of_ble_eq_true rfl) (sO8 SH hh) u3 (st' := [.int o3.1, .ref 96, .int o2.1]) rfl) ?_
  clear SH; have SH := SH2; clear SH2
  obtain ⟨o4, e4, hf⟩ := bind_some hf
  obtain ⟨u4, SH2⟩ := k_X8_thickOf (X := X) (d := d) (by omega) (by omega) SH e4
  refine And.imp_left (rs_inV i_X8_spread_13 m_X8_thickOf rfl (As := [.int o3.1]) (rest := [.int o2.1]) rfl rfl (Nat.le_of_ble_eq_true rfl) (sO8 SH hh) u4 (st' := [.int o4.1, .int o2.1]) rfl) ?_
  clear SH; have SH := SH2; clear SH2
  refine And.imp_left (rs_isub i_X8_spread_16) ?_
  have hf := Option.some.inj hf
  subst hf
  exact ⟨rs_iret i_X8_spread_17 m_X8_spread rfl, SH⟩
noncomputable def g_X8_spread (n : Nat)  (h : Hp) : Option (Int32 × Hp) := g_X8_spread_0 n h
theorem k_X8_spread {X : Nat → Int32} {d : Nat} (hd : 2 ≤ d) {L hi : Nat} (hh : 125 ≤ hi) {n : Nat}  {h : Hp} {o : (Int32 × Hp)}  (SH : SHP L hi h) (hf : g_X8_spread n h = some o) : Calls X d 172 [.ref 96] h (some (.int o.1), o.2) ∧ SHP L hi o.2 := by
  obtain ⟨d, rfl⟩ : ∃ z, d = z + 1 := ⟨d - 1, by omega⟩
  obtain ⟨r, S2⟩ := q_X8_spread_0 hd hh SH hf
  exact ⟨⟨_, rfl, r⟩, S2⟩
noncomputable def g_X8_doubled_8 (n : Nat) : Nat → Int64 → Int32 → Hp → Option (Int64 × Hp)
  | 0, _, _, _ => none
  | m + 1, v1, v3, h =>
    if (gI h 96 40) ≤ v3 then
      some (v1, h)
    else
      (g_X8_doubled_8 n m) (v1 * 2) (v3 + 1) h
set_option maxRecDepth 100000 in
set_option maxHeartbeats 4000000 in
theorem q_X8_doubled_8 {X : Nat → Int32} {d : Nat} (hd : 1 ≤ (d + 1)) {L hi : Nat} (hh : 125 ≤ hi) {n : Nat} : ∀ (m : Nat) (v1 : Int64) (v3 : Int32) (h : Hp) (o : (Int64 × Hp)), SHP L hi h → g_X8_doubled_8 n m v1 v3 h = some o → Run X (d + 1) 173 8 [some (.ref 96), some (.long v1), none, some (.int v3)] [] h (some (.long o.1), o.2) ∧ SHP L hi o.2 := by
  intro m
  induction m with
  | zero => intro v1 v3 h o SH hf; cases hf
  | succ m ih =>
    intro v1 v3 h o SH hf
    rw [g_X8_doubled_8] at hf
    refine And.imp_left (rs_iload_n i_X8_doubled_8 rfl) ?_
    refine And.imp_left (rs_aload_n i_X8_doubled_9 rfl) ?_
    refine And.imp_left (rs_getI i_X8_doubled_10 (by decide) (by decide) (sO8 SH hh)) ?_
    by_cases c1 : (gI h 96 40) ≤ v3
    · replace hf := (if_pos c1).symm.trans hf
      refine And.imp_left (rs_icT i_X8_doubled_13 (ct_ge c1) (tg := 28) (by decide)) ?_
      refine And.imp_left (rs_lload_n i_X8_doubled_28 rfl) ?_
      have hf := Option.some.inj hf
      subst hf
      exact ⟨rs_lret i_X8_doubled_29 m_X8_doubled rfl, SH⟩
    · replace hf := (if_neg c1).symm.trans hf
      refine And.imp_left (rs_icF i_X8_doubled_13 (cf_ge c1)) ?_
      refine And.imp_left (rs_lload_n i_X8_doubled_16 rfl) ?_
      refine And.imp_left (rs_ldc2 i_X8_doubled_17 (v := 2) (by decide)) ?_
      refine And.imp_left (rs_lmul i_X8_doubled_20) ?_
      refine And.imp_left (rs_lstore_n i_X8_doubled_21 (Nat.le_of_ble_eq_true rfl) (lv' := [some (.ref 96), some (.long (v1 * 2)), none, some (.int v3)]) rfl) ?_
      refine And.imp_left (rs_iinc i_X8_doubled_22 rfl (v := v3 + 1) rfl (Nat.le_of_ble_eq_true rfl) (lv' := [some (.ref 96), some (.long (v1 * 2)), none, some (.int (v3 + 1))]) rfl) ?_
      refine And.imp_left (rs_goto i_X8_doubled_25 (tg := 8) (by decide)) ?_
      exact ih _ _ _ _ SH hf
noncomputable def g_X8_doubled_0 (n : Nat)  (h : Hp) : Option (Int64 × Hp) :=
  (g_X8_allLength n h).bind fun o1 =>
  g_X8_doubled_8 n n (Int32.toInt64 o1.1) 0 o1.2
set_option maxRecDepth 100000 in
set_option maxHeartbeats 4000000 in
theorem q_X8_doubled_0 {X : Nat → Int32} {d : Nat} (hd : 1 ≤ (d + 1)) {L hi : Nat} (hh : 125 ≤ hi) {n : Nat}  {h : Hp} {o : (Int64 × Hp)}  (SH : SHP L hi h) (hf : g_X8_doubled_0 n h = some o) : Run X (d + 1) 173 0 [some (.ref 96), none, none, none] [] h (some (.long o.1), o.2) ∧ SHP L hi o.2 := by
  unfold g_X8_doubled_0 at hf
  refine And.imp_left (rs_aload_n i_X8_doubled_0 rfl) ?_
  obtain ⟨o1, e1, hf⟩ := bind_some hf
  obtain ⟨u1, SH2⟩ := k_X8_allLength (X := X) (d := d) (by omega) (by omega) SH e1
  refine And.imp_left (rs_inV i_X8_doubled_1 m_X8_allLength rfl (As := []) (rest := []) rfl rfl (Nat.le_of_ble_eq_true rfl) (sO8 SH hh) u1 (st' := [.int o1.1]) rfl) ?_
  clear SH; have SH := SH2; clear SH2
  refine And.imp_left (rs_i2l i_X8_doubled_4) ?_
  refine And.imp_left (rs_lstore_n i_X8_doubled_5 (Nat.le_of_ble_eq_true rfl) (lv' := [some (.ref 96), some (.long (Int32.toInt64 o1.1)), none, none]) rfl) ?_
  refine And.imp_left (rs_iconst i_X8_doubled_6 (v := 0) (by decide)) ?_
  refine And.imp_left (rs_istore_n i_X8_doubled_7 (Nat.le_of_ble_eq_true rfl) (lv' := [some (.ref 96), some (.long (Int32.toInt64 o1.1)), none, some (.int 0)]) rfl) ?_
  exact q_X8_doubled_8 hd hh _ _ _ _ _ SH hf
noncomputable def g_X8_doubled (n : Nat)  (h : Hp) : Option (Int64 × Hp) := g_X8_doubled_0 n h
theorem k_X8_doubled {X : Nat → Int32} {d : Nat} (hd : 1 ≤ d) {L hi : Nat} (hh : 125 ≤ hi) {n : Nat}  {h : Hp} {o : (Int64 × Hp)}  (SH : SHP L hi h) (hf : g_X8_doubled n h = some o) : Calls X d 173 [.ref 96] h (some (.long o.1), o.2) ∧ SHP L hi o.2 := by
  obtain ⟨d, rfl⟩ : ∃ z, d = z + 1 := ⟨d - 1, by omega⟩
  obtain ⟨r, S2⟩ := q_X8_doubled_0 hd hh SH hf
  exact ⟨⟨_, rfl, r⟩, S2⟩
noncomputable def g_X8_state_36 (n : Nat) : Nat → Int32 → Int32 → Int32 → Int32 → Hp → Option (Int64 × Hp)
  | 0, _, _, _, _, _ => none
  | m + 1, v1, v2, v3, v4, h =>
    if v1 ≤ v4 then
      if v2 = 0 then
        (g_X8_least n h).bind fun o12 =>
        some ((Int32.toInt64 o12.1), o12.2)
      else
        if v2 = 1 then
          (g_X8_greatest n h).bind fun o11 =>
          some ((Int32.toInt64 o11.1), o11.2)
        else
          if v2 = 2 then
            (g_X8_spread n h).bind fun o10 =>
            some ((Int32.toInt64 o10.1), o10.2)
          else
            if v2 = 3 then
              some ((Int32.toInt64 (gI h 96 40)), h)
            else
              if v2 = 4 then
                (g_X8_doubled n h).bind fun o9 =>
                some (o9.1, o9.2)
              else
                if v2 = 5 then
                  some ((Int32.toInt64 (gI h 96 41)), h)
                else
                  if v2 = 6 then
                    some ((Int32.toInt64 (gI h 96 42)), h)
                  else
                    some ((Int32.toInt64 v3), h)
    else
      (g_X8_takesOf v4 h).bind fun o13 =>
      (g_X8_state_36 n m) v1 v2 (v3 + o13.1) (v4 + 1) o13.2
set_option maxRecDepth 100000 in
set_option maxHeartbeats 4000000 in
theorem q_X8_state_36 {X : Nat → Int32} {d : Nat} (hd : 7 ≤ (d + 1)) {L hi : Nat} (hh : 125 ≤ hi) {n : Nat} : ∀ (m : Nat) (v1 : Int32) (v2 : Int32) (v3 : Int32) (v4 : Int32) (h : Hp) (o : (Int64 × Hp)), SHP L hi h → g_X8_state_36 n m v1 v2 v3 v4 h = some o → Run X (d + 1) 174 36 [some (.ref 96), some (.int v1), some (.int v2), some (.int v3), some (.int v4)] [] h (some (.long o.1), o.2) ∧ SHP L hi o.2 := by
  intro m
  induction m with
  | zero => intro v1 v2 v3 v4 h o SH hf; cases hf
  | succ m ih =>
    intro v1 v2 v3 v4 h o SH hf
    rw [g_X8_state_36] at hf
    refine And.imp_left (rs_iload i_X8_state_36 rfl) ?_
    refine And.imp_left (rs_iload_n i_X8_state_38 rfl) ?_
    by_cases c1 : v1 ≤ v4
    · replace hf := (if_pos c1).symm.trans hf
      refine And.imp_left (rs_icT i_X8_state_39 (ct_ge c1) (tg := 57) (by decide)) ?_
      refine And.imp_left (rs_iload_n i_X8_state_57 rfl) ?_
      by_cases c2 : v2 = 0
      · replace hf := (if_pos c2).symm.trans hf
        refine And.imp_left (rs_tsw i_X8_state_58 (off := 42) (by rw [c2]; decide) (tg := 100) (by decide)) ?_
        refine And.imp_left (rs_aload_n i_X8_state_100 rfl) ?_
        obtain ⟨o12, e12, hf⟩ := bind_some hf
        obtain ⟨u12, SH2⟩ := k_X8_least (X := X) (d := d) (by omega) (by omega) SH e12
        refine And.imp_left (rs_inV i_X8_state_101 m_X8_least rfl (As := []) (rest := []) rfl rfl (Nat.le_of_ble_eq_true rfl) (sO8 SH hh) u12 (st' := [.int o12.1]) rfl) ?_
        clear SH; have SH := SH2; clear SH2
        refine And.imp_left (rs_i2l i_X8_state_104) ?_
        have hf := Option.some.inj hf
        subst hf
        exact ⟨rs_lret i_X8_state_105 m_X8_state rfl, SH⟩
      · replace hf := (if_neg c2).symm.trans hf
        by_cases c3 : v2 = 1
        · replace hf := (if_pos c3).symm.trans hf
          refine And.imp_left (rs_tsw i_X8_state_58 (off := 48) (by rw [c3]; decide) (tg := 106) (by decide)) ?_
          refine And.imp_left (rs_aload_n i_X8_state_106 rfl) ?_
          obtain ⟨o11, e11, hf⟩ := bind_some hf
          obtain ⟨u11, SH2⟩ := k_X8_greatest (X := X) (d := d) (by omega) (by omega) SH e11
          refine And.imp_left (rs_inV i_X8_state_107 m_X8_greatest rfl (As := []) (rest := []) rfl rfl (Nat.le_of_ble_eq_true rfl) (sO8 SH hh) u11 (st' := [.int o11.1]) rfl) ?_
          clear SH; have SH := SH2; clear SH2
          refine And.imp_left (rs_i2l i_X8_state_110) ?_
          have hf := Option.some.inj hf
          subst hf
          exact ⟨rs_lret i_X8_state_111 m_X8_state rfl, SH⟩
        · replace hf := (if_neg c3).symm.trans hf
          by_cases c4 : v2 = 2
          · replace hf := (if_pos c4).symm.trans hf
            refine And.imp_left (rs_tsw i_X8_state_58 (off := 54) (by rw [c4]; decide) (tg := 112) (by decide)) ?_
            refine And.imp_left (rs_aload_n i_X8_state_112 rfl) ?_
            obtain ⟨o10, e10, hf⟩ := bind_some hf
            obtain ⟨u10, SH2⟩ := k_X8_spread (X := X) (d := d) (by omega) (by omega) SH e10
            refine And.imp_left (rs_inV i_X8_state_113 m_X8_spread rfl (As := []) (rest := []) rfl rfl (Nat.le_of_ble_eq_true rfl) (sO8 SH hh) u10 (st' := [.int o10.1]) rfl) ?_
            clear SH; have SH := SH2; clear SH2
            refine And.imp_left (rs_i2l i_X8_state_116) ?_
            have hf := Option.some.inj hf
            subst hf
            exact ⟨rs_lret i_X8_state_117 m_X8_state rfl, SH⟩
          · replace hf := (if_neg c4).symm.trans hf
            by_cases c5 : v2 = 3
            · replace hf := (if_pos c5).symm.trans hf
              refine And.imp_left (rs_tsw i_X8_state_58 (off := 60) (by rw [c5]; decide) (tg := 118) (by decide)) ?_
              refine And.imp_left (rs_aload_n i_X8_state_118 rfl) ?_
              refine And.imp_left (rs_getI i_X8_state_119 (by decide) (by decide) (sO8 SH hh)) ?_
              refine And.imp_left (rs_i2l i_X8_state_122) ?_
              have hf := Option.some.inj hf
              subst hf
              exact ⟨rs_lret i_X8_state_123 m_X8_state rfl, SH⟩
            · replace hf := (if_neg c5).symm.trans hf
              by_cases c6 : v2 = 4
              · replace hf := (if_pos c6).symm.trans hf
                refine And.imp_left (rs_tsw i_X8_state_58 (off := 66) (by rw [c6]; decide) (tg := 124) (by decide)) ?_
                refine And.imp_left (rs_aload_n i_X8_state_124 rfl) ?_
                obtain ⟨o9, e9, hf⟩ := bind_some hf
                obtain ⟨u9, SH2⟩ := k_X8_doubled (X := X) (d := d) (by omega) (by omega) SH e9
                refine And.imp_left (rs_inV i_X8_state_125 m_X8_doubled rfl (As := []) (rest := []) rfl rfl (Nat.le_of_ble_eq_true rfl) (sO8 SH hh) u9 (st' := [.long o9.1]) rfl) ?_
                clear SH; have SH := SH2; clear SH2
                have hf := Option.some.inj hf
                subst hf
                exact ⟨rs_lret i_X8_state_128 m_X8_state rfl, SH⟩
              · replace hf := (if_neg c6).symm.trans hf
                by_cases c7 : v2 = 5
                · replace hf := (if_pos c7).symm.trans hf
                  refine And.imp_left (rs_tsw i_X8_state_58 (off := 71) (by rw [c7]; decide) (tg := 129) (by decide)) ?_
                  refine And.imp_left (rs_aload_n i_X8_state_129 rfl) ?_
                  refine And.imp_left (rs_getI i_X8_state_130 (by decide) (by decide) (sO8 SH hh)) ?_
                  refine And.imp_left (rs_i2l i_X8_state_133) ?_
                  have hf := Option.some.inj hf
                  subst hf
                  exact ⟨rs_lret i_X8_state_134 m_X8_state rfl, SH⟩
                · replace hf := (if_neg c7).symm.trans hf
                  by_cases c8 : v2 = 6
                  · replace hf := (if_pos c8).symm.trans hf
                    refine And.imp_left (rs_tsw i_X8_state_58 (off := 77) (by rw [c8]; decide) (tg := 135) (by decide)) ?_
                    refine And.imp_left (rs_aload_n i_X8_state_135 rfl) ?_
                    refine And.imp_left (rs_getI i_X8_state_136 (by decide) (by decide) (sO8 SH hh)) ?_
                    refine And.imp_left (rs_i2l i_X8_state_139) ?_
                    have hf := Option.some.inj hf
                    subst hf
                    exact ⟨rs_lret i_X8_state_140 m_X8_state rfl, SH⟩
                  · replace hf := (if_neg c8).symm.trans hf
                    refine And.imp_left (rs_tsw i_X8_state_58 (off := 83) (swt_df (by have z0 := ne_ti c2; rw [show (0 : Int32).toInt = 0 from by decide] at z0; have z1 := ne_ti c3; rw [show (1 : Int32).toInt = 1 from by decide] at z1; have z2 := ne_ti c4; rw [show (2 : Int32).toInt = 2 from by decide] at z2; have z3 := ne_ti c5; rw [show (3 : Int32).toInt = 3 from by decide] at z3; have z4 := ne_ti c6; rw [show (4 : Int32).toInt = 4 from by decide] at z4; have z5 := ne_ti c7; rw [show (5 : Int32).toInt = 5 from by decide] at z5; have z6 := ne_ti c8; rw [show (6 : Int32).toInt = 6 from by decide] at z6; omega)) (tg := 141) (by decide)) ?_
                    refine And.imp_left (rs_iload_n i_X8_state_141 rfl) ?_
                    refine And.imp_left (rs_i2l i_X8_state_142) ?_
                    have hf := Option.some.inj hf
                    subst hf
                    exact ⟨rs_lret i_X8_state_143 m_X8_state rfl, SH⟩
    · replace hf := (if_neg c1).symm.trans hf
      refine And.imp_left (rs_icF i_X8_state_39 (cf_ge c1)) ?_
      refine And.imp_left (rs_iload_n i_X8_state_42 rfl) ?_
      refine And.imp_left (rs_aload_n i_X8_state_43 rfl) ?_
      refine And.imp_left (rs_iload i_X8_state_44 rfl) ?_
      obtain ⟨o13, e13, hf⟩ := bind_some hf
      obtain ⟨u13, SH2⟩ := k_X8_takesOf (X := X) (d := d) (by omega) (by omega) SH e13
      refine And.imp_left (rs_inV i_X8_state_46 m_X8_takesOf rfl (As := [.int v4]) (rest := [.int v3]) rfl rfl (Nat.le_of_ble_eq_true rfl) (sO8 SH hh) u13 (st' := [.int o13.1, .int v3]) rfl) ?_
      clear SH; have SH := SH2; clear SH2
      refine And.imp_left (rs_iadd i_X8_state_49) ?_
      refine And.imp_left (rs_istore_n i_X8_state_50 (Nat.le_of_ble_eq_true rfl) (lv' := [some (.ref 96), some (.int v1), some (.int v2), some (.int (v3 + o13.1)), some (.int v4)]) rfl) ?_
      refine And.imp_left (rs_iinc i_X8_state_51 rfl (v := v4 + 1) rfl (Nat.le_of_ble_eq_true rfl) (lv' := [some (.ref 96), some (.int v1), some (.int v2), some (.int (v3 + o13.1)), some (.int (v4 + 1))]) rfl) ?_
      refine And.imp_left (rs_goto i_X8_state_54 (tg := 36) (by decide)) ?_
      exact ih _ _ _ _ _ _ SH hf
noncomputable def g_X8_state_0 (n : Nat) (v1 : Int32) (v2 : Int32) (h : Hp) : Option (Int64 × Hp) :=
  (g_X8_areSteps v1 h).bind fun o1 =>
  if o1.1 ≠ 0 then
    (g_X8_in v2 0 7 o1.2).bind fun o3 =>
    if o3.1 ≠ 0 then
      (g_X8_goes n v1 o3.2).bind fun o5 =>
      g_X8_state_36 n n v1 v2 0 0 o5
    else
      some ((-7), o3.2)
  else
    some ((-5), o1.2)
set_option maxRecDepth 100000 in
set_option maxHeartbeats 4000000 in
theorem q_X8_state_0 {X : Nat → Int32} {d : Nat} (hd : 7 ≤ (d + 1)) {L hi : Nat} (hh : 125 ≤ hi) {n : Nat} {v1 : Int32} {v2 : Int32} {h : Hp} {o : (Int64 × Hp)}  (SH : SHP L hi h) (hf : g_X8_state_0 n v1 v2 h = some o) : Run X (d + 1) 174 0 [some (.ref 96), some (.int v1), some (.int v2), none, none] [] h (some (.long o.1), o.2) ∧ SHP L hi o.2 := by
  unfold g_X8_state_0 at hf
  refine And.imp_left (rs_aload_n i_X8_state_0 rfl) ?_
  refine And.imp_left (rs_iload_n i_X8_state_1 rfl) ?_
  obtain ⟨o1, e1, hf⟩ := bind_some hf
  obtain ⟨u1, SH2⟩ := k_X8_areSteps (X := X) (d := d) (by omega) (by omega) SH e1
  refine And.imp_left (rs_inV i_X8_state_2 m_X8_areSteps rfl (As := [.int v1]) (rest := []) rfl rfl (Nat.le_of_ble_eq_true rfl) (sO8 SH hh) u1 (st' := [.int o1.1]) rfl) ?_
  clear SH; have SH := SH2; clear SH2
  by_cases c2 : o1.1 ≠ 0
  · replace hf := (if_pos c2).symm.trans hf
    refine And.imp_left (rs_ifT i_X8_state_5 (ct_ne c2) (tg := 12) (by decide)) ?_
    refine And.imp_left (rs_iload_n i_X8_state_12 rfl) ?_
    refine And.imp_left (rs_iconst i_X8_state_13 (v := 0) (by decide)) ?_
    refine And.imp_left (rs_bipush i_X8_state_14 (v := 7) (by decide)) ?_
    obtain ⟨o3, e3, hf⟩ := bind_some hf
    obtain ⟨u3, SH2⟩ := k_X8_in (X := X) (d := d) (by omega) (by omega) SH e3
    refine And.imp_left (rs_inS i_X8_state_16 (by decide) m_X8_in rfl (As := [.int v2, .int 0, .int 7]) (rest := []) rfl rfl (Nat.le_of_ble_eq_true rfl) u3 (st' := [.int o3.1]) rfl) ?_
    clear SH; have SH := SH2; clear SH2
    by_cases c4 : o3.1 ≠ 0
    · replace hf := (if_pos c4).symm.trans hf
      refine And.imp_left (rs_ifT i_X8_state_19 (ct_ne c4) (tg := 26) (by decide)) ?_
      refine And.imp_left (rs_aload_n i_X8_state_26 rfl) ?_
      refine And.imp_left (rs_iload_n i_X8_state_27 rfl) ?_
      obtain ⟨o5, e5, hf⟩ := bind_some hf
      obtain ⟨u5, SH2⟩ := k_X8_goes (X := X) (d := d) (by omega) (by omega) SH e5
      refine And.imp_left (rs_inV i_X8_state_28 m_X8_goes rfl (As := [.int v1]) (rest := []) rfl rfl (Nat.le_of_ble_eq_true rfl) (sO8 SH hh) u5 (st' := []) rfl) ?_
      clear SH; have SH := SH2; clear SH2
      refine And.imp_left (rs_iconst i_X8_state_31 (v := 0) (by decide)) ?_
      refine And.imp_left (rs_istore_n i_X8_state_32 (Nat.le_of_ble_eq_true rfl) (lv' := [some (.ref 96), some (.int v1), some (.int v2), some (.int 0), none]) rfl) ?_
      refine And.imp_left (rs_iconst i_X8_state_33 (v := 0) (by decide)) ?_
      refine And.imp_left (rs_istore i_X8_state_34 (Nat.le_of_ble_eq_true rfl) (lv' := [some (.ref 96), some (.int v1), some (.int v2), some (.int 0), some (.int 0)]) rfl) ?_
      exact q_X8_state_36 hd hh _ _ _ _ _ _ _ SH hf
    · replace hf := (if_neg c4).symm.trans hf
      refine And.imp_left (rs_ifF i_X8_state_19 (cf_ne c4)) ?_
      refine And.imp_left (rs_ldc2 i_X8_state_22 (v := (-7)) (by decide)) ?_
      have hf := Option.some.inj hf
      subst hf
      exact ⟨rs_lret i_X8_state_25 m_X8_state rfl, SH⟩
  · replace hf := (if_neg c2).symm.trans hf
    refine And.imp_left (rs_ifF i_X8_state_5 (cf_ne c2)) ?_
    refine And.imp_left (rs_ldc2 i_X8_state_8 (v := (-5)) (by decide)) ?_
    have hf := Option.some.inj hf
    subst hf
    exact ⟨rs_lret i_X8_state_11 m_X8_state rfl, SH⟩
noncomputable def g_X8_state (n : Nat) (v1 : Int32) (v2 : Int32) (h : Hp) : Option (Int64 × Hp) := g_X8_state_0 n v1 v2 h
theorem k_X8_state {X : Nat → Int32} {d : Nat} (hd : 7 ≤ d) {L hi : Nat} (hh : 125 ≤ hi) {n : Nat} {v1 : Int32} {v2 : Int32} {h : Hp} {o : (Int64 × Hp)}  (SH : SHP L hi h) (hf : g_X8_state n v1 v2 h = some o) : Calls X d 174 [.ref 96, .int v1, .int v2] h (some (.long o.1), o.2) ∧ SHP L hi o.2 := by
  obtain ⟨d, rfl⟩ : ∃ z, d = z + 1 := ⟨d - 1, by omega⟩
  obtain ⟨r, S2⟩ := q_X8_state_0 hd hh SH hf
  exact ⟨⟨_, rfl, r⟩, S2⟩
noncomputable def g_X8_both_0 (n : Nat) (v1 : Int32) (h : Hp) : Option (Int64 × Hp) :=
  (g_X8_goes n v1 h).bind fun o1 =>
  some ((((gL' o1 96 43) * (gL' o1 96 44)) / 1000000000), o1)
set_option maxRecDepth 100000 in
set_option maxHeartbeats 4000000 in
theorem q_X8_both_0 {X : Nat → Int32} {d : Nat} (hd : 7 ≤ (d + 1)) {L hi : Nat} (hh : 125 ≤ hi) {n : Nat} {v1 : Int32} {h : Hp} {o : (Int64 × Hp)}  (SH : SHP L hi h) (hf : g_X8_both_0 n v1 h = some o) : Run X (d + 1) 175 0 [some (.ref 96), some (.int v1)] [] h (some (.long o.1), o.2) ∧ SHP L hi o.2 := by
  unfold g_X8_both_0 at hf
  refine And.imp_left (rs_aload_n i_X8_both_0 rfl) ?_
  refine And.imp_left (rs_iload_n i_X8_both_1 rfl) ?_
  obtain ⟨o1, e1, hf⟩ := bind_some hf
  obtain ⟨u1, SH2⟩ := k_X8_goes (X := X) (d := d) (by omega) (by omega) SH e1
  refine And.imp_left (rs_inV i_X8_both_2 m_X8_goes rfl (As := [.int v1]) (rest := []) rfl rfl (Nat.le_of_ble_eq_true rfl) (sO8 SH hh) u1 (st' := []) rfl) ?_
  clear SH; have SH := SH2; clear SH2
  refine And.imp_left (rs_aload_n i_X8_both_5 rfl) ?_
  refine And.imp_left (rs_getL i_X8_both_6 (by decide) (by decide) (sO8 SH hh)) ?_
  refine And.imp_left (rs_aload_n i_X8_both_9 rfl) ?_
  refine And.imp_left (rs_getL i_X8_both_10 (by decide) (by decide) (sO8 SH hh)) ?_
  refine And.imp_left (rs_lmul i_X8_both_13) ?_
  refine And.imp_left (rs_ldc2 i_X8_both_14 (v := 1000000000) (by decide)) ?_
  refine And.imp_left (rs_ldiv i_X8_both_17 (by decide)) ?_
  have hf := Option.some.inj hf
  subst hf
  exact ⟨rs_lret i_X8_both_18 m_X8_both rfl, SH⟩
noncomputable def g_X8_both (n : Nat) (v1 : Int32) (h : Hp) : Option (Int64 × Hp) := g_X8_both_0 n v1 h
theorem k_X8_both {X : Nat → Int32} {d : Nat} (hd : 7 ≤ d) {L hi : Nat} (hh : 125 ≤ hi) {n : Nat} {v1 : Int32} {h : Hp} {o : (Int64 × Hp)}  (SH : SHP L hi h) (hf : g_X8_both n v1 h = some o) : Calls X d 175 [.ref 96, .int v1] h (some (.long o.1), o.2) ∧ SHP L hi o.2 := by
  obtain ⟨d, rfl⟩ : ∃ z, d = z + 1 := ⟨d - 1, by omega⟩
  obtain ⟨r, S2⟩ := q_X8_both_0 hd hh SH hf
  exact ⟨⟨_, rfl, r⟩, S2⟩
noncomputable def g_X8_whole_0 (n : Nat) (v1 : Int32) (v2 : Int32) (h : Hp) : Option (Int64 × Hp) :=
  (g_X8_areSteps v1 h).bind fun o1 =>
  if o1.1 = 0 then
    some ((-4611686018427387904), o1.2)
  else
    (g_X8_in v2 0 2 o1.2).bind fun o3 =>
    if o3.1 ≠ 0 then
      (g_X8_both n v1 o3.2).bind fun o5 =>
      if v2 ≠ 0 then
        if v2 ≠ 1 then
          some (o5.1, o5.2)
        else
          some ((gL' o5.2 96 44), o5.2)
      else
        some ((gL' o5.2 96 43), o5.2)
    else
      some ((-4611686018427387904), o3.2)
set_option maxRecDepth 100000 in
set_option maxHeartbeats 4000000 in
theorem q_X8_whole_0 {X : Nat → Int32} {d : Nat} (hd : 8 ≤ (d + 1)) {L hi : Nat} (hh : 125 ≤ hi) {n : Nat} {v1 : Int32} {v2 : Int32} {h : Hp} {o : (Int64 × Hp)}  (SH : SHP L hi h) (hf : g_X8_whole_0 n v1 v2 h = some o) : Run X (d + 1) 176 0 [some (.ref 96), some (.int v1), some (.int v2), none, none] [] h (some (.long o.1), o.2) ∧ SHP L hi o.2 := by
  unfold g_X8_whole_0 at hf
  refine And.imp_left (rs_aload_n i_X8_whole_0 rfl) ?_
  refine And.imp_left (rs_iload_n i_X8_whole_1 rfl) ?_
  obtain ⟨o1, e1, hf⟩ := bind_some hf
  obtain ⟨u1, SH2⟩ := k_X8_areSteps (X := X) (d := d) (by omega) (by omega) SH e1
  refine And.imp_left (rs_inV i_X8_whole_2 m_X8_areSteps rfl (As := [.int v1]) (rest := []) rfl rfl (Nat.le_of_ble_eq_true rfl) (sO8 SH hh) u1 (st' := [.int o1.1]) rfl) ?_
  clear SH; have SH := SH2; clear SH2
  by_cases c2 : o1.1 = 0
  · replace hf := (if_pos c2).symm.trans hf
    refine And.imp_left (rs_ifT i_X8_whole_5 (ct_eq c2) (tg := 17) (by decide)) ?_
    refine And.imp_left (rs_ldc2 i_X8_whole_17 (v := (-4611686018427387904)) (by decide)) ?_
    have hf := Option.some.inj hf
    subst hf
    exact ⟨rs_lret i_X8_whole_20 m_X8_whole rfl, SH⟩
  · replace hf := (if_neg c2).symm.trans hf
    refine And.imp_left (rs_ifF i_X8_whole_5 (cf_eq c2)) ?_
    refine And.imp_left (rs_iload_n i_X8_whole_8 rfl) ?_
    refine And.imp_left (rs_iconst i_X8_whole_9 (v := 0) (by decide)) ?_
    refine And.imp_left (rs_iconst i_X8_whole_10 (v := 2) (by decide)) ?_
    obtain ⟨o3, e3, hf⟩ := bind_some hf
    obtain ⟨u3, SH2⟩ := k_X8_in (X := X) (d := d) (by omega) (by omega) SH e3
    refine And.imp_left (rs_inS i_X8_whole_11 (by decide) m_X8_in rfl (As := [.int v2, .int 0, .int 2]) (rest := []) rfl rfl (Nat.le_of_ble_eq_true rfl) u3 (st' := [.int o3.1]) rfl) ?_
    clear SH; have SH := SH2; clear SH2
    by_cases c4 : o3.1 ≠ 0
    · replace hf := (if_pos c4).symm.trans hf
      refine And.imp_left (rs_ifT i_X8_whole_14 (ct_ne c4) (tg := 21) (by decide)) ?_
      refine And.imp_left (rs_aload_n i_X8_whole_21 rfl) ?_
      refine And.imp_left (rs_iload_n i_X8_whole_22 rfl) ?_
      obtain ⟨o5, e5, hf⟩ := bind_some hf
      obtain ⟨u5, SH2⟩ := k_X8_both (X := X) (d := d) (by omega) (by omega) SH e5
      refine And.imp_left (rs_inV i_X8_whole_23 m_X8_both rfl (As := [.int v1]) (rest := []) rfl rfl (Nat.le_of_ble_eq_true rfl) (sO8 SH hh) u5 (st' := [.long o5.1]) rfl) ?_
      clear SH; have SH := SH2; clear SH2
      refine And.imp_left (rs_lstore_n i_X8_whole_26 (Nat.le_of_ble_eq_true rfl) (lv' := [some (.ref 96), some (.int v1), some (.int v2), some (.long o5.1), none]) rfl) ?_
      refine And.imp_left (rs_iload_n i_X8_whole_27 rfl) ?_
      by_cases c6 : v2 ≠ 0
      · replace hf := (if_pos c6).symm.trans hf
        refine And.imp_left (rs_ifT i_X8_whole_28 (ct_ne c6) (tg := 38) (by decide)) ?_
        refine And.imp_left (rs_iload_n i_X8_whole_38 rfl) ?_
        refine And.imp_left (rs_iconst i_X8_whole_39 (v := 1) (by decide)) ?_
        by_cases c7 : v2 ≠ 1
        · replace hf := (if_pos c7).symm.trans hf
          refine And.imp_left (rs_icT i_X8_whole_40 (ct_ne c7) (tg := 50) (by decide)) ?_
          refine And.imp_left (rs_lload_n i_X8_whole_50 rfl) ?_
          have hf := Option.some.inj hf
          subst hf
          exact ⟨rs_lret i_X8_whole_51 m_X8_whole rfl, SH⟩
        · replace hf := (if_neg c7).symm.trans hf
          refine And.imp_left (rs_icF i_X8_whole_40 (cf_ne c7)) ?_
          refine And.imp_left (rs_aload_n i_X8_whole_43 rfl) ?_
          refine And.imp_left (rs_getL i_X8_whole_44 (by decide) (by decide) (sO8 SH hh)) ?_
          refine And.imp_left (rs_goto i_X8_whole_47 (tg := 51) (by decide)) ?_
          have hf := Option.some.inj hf
          subst hf
          exact ⟨rs_lret i_X8_whole_51 m_X8_whole rfl, SH⟩
      · replace hf := (if_neg c6).symm.trans hf
        refine And.imp_left (rs_ifF i_X8_whole_28 (cf_ne c6)) ?_
        refine And.imp_left (rs_aload_n i_X8_whole_31 rfl) ?_
        refine And.imp_left (rs_getL i_X8_whole_32 (by decide) (by decide) (sO8 SH hh)) ?_
        refine And.imp_left (rs_goto i_X8_whole_35 (tg := 51) (by decide)) ?_
        have hf := Option.some.inj hf
        subst hf
        exact ⟨rs_lret i_X8_whole_51 m_X8_whole rfl, SH⟩
    · replace hf := (if_neg c4).symm.trans hf
      refine And.imp_left (rs_ifF i_X8_whole_14 (cf_ne c4)) ?_
      refine And.imp_left (rs_ldc2 i_X8_whole_17 (v := (-4611686018427387904)) (by decide)) ?_
      have hf := Option.some.inj hf
      subst hf
      exact ⟨rs_lret i_X8_whole_20 m_X8_whole rfl, SH⟩
noncomputable def g_X8_whole (n : Nat) (v1 : Int32) (v2 : Int32) (h : Hp) : Option (Int64 × Hp) := g_X8_whole_0 n v1 v2 h
theorem k_X8_whole {X : Nat → Int32} {d : Nat} (hd : 8 ≤ d) {L hi : Nat} (hh : 125 ≤ hi) {n : Nat} {v1 : Int32} {v2 : Int32} {h : Hp} {o : (Int64 × Hp)}  (SH : SHP L hi h) (hf : g_X8_whole n v1 v2 h = some o) : Calls X d 176 [.ref 96, .int v1, .int v2] h (some (.long o.1), o.2) ∧ SHP L hi o.2 := by
  obtain ⟨d, rfl⟩ : ∃ z, d = z + 1 := ⟨d - 1, by omega⟩
  obtain ⟨r, S2⟩ := q_X8_whole_0 hd hh SH hf
  exact ⟨⟨_, rfl, r⟩, S2⟩
noncomputable def g_X8_stop_18 (n : Nat) : Nat → Int32 → Int32 → Hp → Option (Int32 × Hp)
  | 0, _, _, _ => none
  | m + 1, v1, v2, h =>
    if v2 ≤ 0 then
      some (0, h)
    else
      (g_X8_both n v2 h).bind fun o2 =>
      if (o2.1 * 100) < ((Int32.toInt64 v1) * 1000000000) then
        (g_X8_stop_18 n m) v1 (v2 + (-1)) o2.2
      else
        some (v2, o2.2)
set_option maxRecDepth 100000 in
set_option maxHeartbeats 4000000 in
theorem q_X8_stop_18 {X : Nat → Int32} {d : Nat} (hd : 8 ≤ (d + 1)) {L hi : Nat} (hh : 125 ≤ hi) {n : Nat} : ∀ (m : Nat) (v1 : Int32) (v2 : Int32) (h : Hp) (o : (Int32 × Hp)), SHP L hi h → g_X8_stop_18 n m v1 v2 h = some o → Run X (d + 1) 177 18 [some (.ref 96), some (.int v1), some (.int v2)] [] h (some (.int o.1), o.2) ∧ SHP L hi o.2 := by
  intro m
  induction m with
  | zero => intro v1 v2 h o SH hf; cases hf
  | succ m ih =>
    intro v1 v2 h o SH hf
    rw [g_X8_stop_18] at hf
    refine And.imp_left (rs_iload_n i_X8_stop_18 rfl) ?_
    by_cases c1 : v2 ≤ 0
    · replace hf := (if_pos c1).symm.trans hf
      refine And.imp_left (rs_ifT i_X8_stop_19 (ct_le c1) (tg := 49) (by decide)) ?_
      refine And.imp_left (rs_iconst i_X8_stop_49 (v := 0) (by decide)) ?_
      have hf := Option.some.inj hf
      subst hf
      exact ⟨rs_iret i_X8_stop_50 m_X8_stop rfl, SH⟩
    · replace hf := (if_neg c1).symm.trans hf
      refine And.imp_left (rs_ifF i_X8_stop_19 (cf_le c1)) ?_
      refine And.imp_left (rs_aload_n i_X8_stop_22 rfl) ?_
      refine And.imp_left (rs_iload_n i_X8_stop_23 rfl) ?_
      obtain ⟨o2, e2, hf⟩ := bind_some hf
      obtain ⟨u2, SH2⟩ := k_X8_both (X := X) (d := d) (by omega) (by omega) SH e2
      refine And.imp_left (rs_inV i_X8_stop_24 m_X8_both rfl (As := [.int v2]) (rest := []) rfl rfl (Nat.le_of_ble_eq_true rfl) (sO8 SH hh) u2 (st' := [.long o2.1]) rfl) ?_
      clear SH; have SH := SH2; clear SH2
      refine And.imp_left (rs_ldc2 i_X8_stop_27 (v := 100) (by decide)) ?_
      refine And.imp_left (rs_lmul i_X8_stop_30) ?_
      refine And.imp_left (rs_iload_n i_X8_stop_31 rfl) ?_
      refine And.imp_left (rs_i2l i_X8_stop_32) ?_
      refine And.imp_left (rs_ldc2 i_X8_stop_33 (v := 1000000000) (by decide)) ?_
      refine And.imp_left (rs_lmul i_X8_stop_36) ?_
      refine And.imp_left (rs_lcmp i_X8_stop_37) ?_
      by_cases c3 : (o2.1 * 100) < ((Int32.toInt64 v1) * 1000000000)
      · replace hf := (if_pos c3).symm.trans hf
        refine And.imp_left (rs_ifT i_X8_stop_38 (by rw [lc_lt]; exact decide_eq_true c3) (tg := 43) (by decide)) ?_
        refine And.imp_left (rs_iinc i_X8_stop_43 rfl (v := v2 + (-1)) rfl (Nat.le_of_ble_eq_true rfl) (lv' := [some (.ref 96), some (.int v1), some (.int (v2 + (-1)))]) rfl) ?_
        refine And.imp_left (rs_goto i_X8_stop_46 (tg := 18) (by decide)) ?_
        exact ih _ _ _ _ SH hf
      · replace hf := (if_neg c3).symm.trans hf
        refine And.imp_left (rs_ifF i_X8_stop_38 (by rw [lc_lt]; exact decide_eq_false c3)) ?_
        refine And.imp_left (rs_iload_n i_X8_stop_41 rfl) ?_
        have hf := Option.some.inj hf
        subst hf
        exact ⟨rs_iret i_X8_stop_42 m_X8_stop rfl, SH⟩
noncomputable def g_X8_stop_0 (n : Nat) (v1 : Int32) (h : Hp) : Option (Int32 × Hp) :=
  (g_X8_in v1 0 100 h).bind fun o1 =>
  if o1.1 ≠ 0 then
    g_X8_stop_18 n n v1 (gI o1.2 96 5) o1.2
  else
    some ((-2), o1.2)
set_option maxRecDepth 100000 in
set_option maxHeartbeats 4000000 in
theorem q_X8_stop_0 {X : Nat → Int32} {d : Nat} (hd : 8 ≤ (d + 1)) {L hi : Nat} (hh : 125 ≤ hi) {n : Nat} {v1 : Int32} {h : Hp} {o : (Int32 × Hp)}  (SH : SHP L hi h) (hf : g_X8_stop_0 n v1 h = some o) : Run X (d + 1) 177 0 [some (.ref 96), some (.int v1), none] [] h (some (.int o.1), o.2) ∧ SHP L hi o.2 := by
  unfold g_X8_stop_0 at hf
  refine And.imp_left (rs_iload_n i_X8_stop_0 rfl) ?_
  refine And.imp_left (rs_iconst i_X8_stop_1 (v := 0) (by decide)) ?_
  refine And.imp_left (rs_bipush i_X8_stop_2 (v := 100) (by decide)) ?_
  obtain ⟨o1, e1, hf⟩ := bind_some hf
  obtain ⟨u1, SH2⟩ := k_X8_in (X := X) (d := d) (by omega) (by omega) SH e1
  refine And.imp_left (rs_inS i_X8_stop_4 (by decide) m_X8_in rfl (As := [.int v1, .int 0, .int 100]) (rest := []) rfl rfl (Nat.le_of_ble_eq_true rfl) u1 (st' := [.int o1.1]) rfl) ?_
  clear SH; have SH := SH2; clear SH2
  by_cases c2 : o1.1 ≠ 0
  · replace hf := (if_pos c2).symm.trans hf
    refine And.imp_left (rs_ifT i_X8_stop_7 (ct_ne c2) (tg := 13) (by decide)) ?_
    refine And.imp_left (rs_aload_n i_X8_stop_13 rfl) ?_
    refine And.imp_left (rs_getI i_X8_stop_14 (by decide) (by decide) (sO8 SH hh)) ?_
    refine And.imp_left (rs_istore_n i_X8_stop_17 (Nat.le_of_ble_eq_true rfl) (lv' := [some (.ref 96), some (.int v1), some (.int (gI o1.2 96 5))]) rfl) ?_
    exact q_X8_stop_18 hd hh _ _ _ _ _ SH hf
  · replace hf := (if_neg c2).symm.trans hf
    refine And.imp_left (rs_ifF i_X8_stop_7 (cf_ne c2)) ?_
    refine And.imp_left (rs_bipush i_X8_stop_10 (v := (-2)) (by decide)) ?_
    have hf := Option.some.inj hf
    subst hf
    exact ⟨rs_iret i_X8_stop_12 m_X8_stop rfl, SH⟩
noncomputable def g_X8_stop (n : Nat) (v1 : Int32) (h : Hp) : Option (Int32 × Hp) := g_X8_stop_0 n v1 h
theorem k_X8_stop {X : Nat → Int32} {d : Nat} (hd : 8 ≤ d) {L hi : Nat} (hh : 125 ≤ hi) {n : Nat} {v1 : Int32} {h : Hp} {o : (Int32 × Hp)}  (SH : SHP L hi h) (hf : g_X8_stop n v1 h = some o) : Calls X d 177 [.ref 96, .int v1] h (some (.int o.1), o.2) ∧ SHP L hi o.2 := by
  obtain ⟨d, rfl⟩ : ∃ z, d = z + 1 := ⟨d - 1, by omega⟩
  obtain ⟨r, S2⟩ := q_X8_stop_0 hd hh SH hf
  exact ⟨⟨_, rfl, r⟩, S2⟩
noncomputable def g_X8_worst_60 (n : Nat) (K7 : Int32 → Int64 → Int32 → Hp → Option (Int32 × Hp)) (v1 : Int32) (v4 : Int32) (s0 : Int64) (h : Hp) : Option (Int32 × Hp) :=
  K7 v1 s0 (v4 + 1) h
set_option maxRecDepth 100000 in
set_option maxHeartbeats 4000000 in
theorem q_X8_worst_60 {X : Nat → Int32} {d : Nat} (hd : 8 ≤ (d + 1)) {L hi : Nat} (hh : 125 ≤ hi) {n : Nat} {K7 : Int32 → Int64 → Int32 → Hp → Option (Int32 × Hp)} (HK7 : ∀ (v1 : Int32) (v2 : Int64) (v4 : Int32) (w5 : Option Value) (w6 : Option Value) (h : Hp) (o : (Int32 × Hp)), SHP L hi h → K7 v1 v2 v4 h = some o → Run X (d + 1) 178 7 [some (.ref 96), some (.int v1), some (.long v2), none, some (.int v4), w5, w6] [] h (some (.int o.1), o.2) ∧ SHP L hi o.2) {v1 : Int32} {v4 : Int32} {s0 : Int64} {d2 : Int64} {d5 : Int64} {h : Hp} {o : (Int32 × Hp)}  (SH : SHP L hi h) (hf : g_X8_worst_60 n K7 v1 v4 s0 h = some o) : Run X (d + 1) 178 60 [some (.ref 96), some (.int v1), some (.long d2), none, some (.int v4), some (.long d5), none] [.long s0] h (some (.int o.1), o.2) ∧ SHP L hi o.2 := by
  unfold g_X8_worst_60 at hf
  refine And.imp_left (rs_lstore_n i_X8_worst_60 (Nat.le_of_ble_eq_true rfl) (lv' := [some (.ref 96), some (.int v1), some (.long s0), none, some (.int v4), some (.long d5), none]) rfl) ?_
  refine And.imp_left (rs_iinc i_X8_worst_61 rfl (v := v4 + 1) rfl (Nat.le_of_ble_eq_true rfl) (lv' := [some (.ref 96), some (.int v1), some (.long s0), none, some (.int (v4 + 1)), some (.long d5), none]) rfl) ?_
  refine And.imp_left (rs_goto i_X8_worst_64 (tg := 7) (by decide)) ?_
  exact HK7 _ _ _ _ _ _ _ SH hf
noncomputable def g_X8_worst_46 (n : Nat) (K7 : Int32 → Int64 → Int32 → Hp → Option (Int32 × Hp)) (v2 : Int64) (v4 : Int32) (v5 : Int64) (s0 : Int32) (h : Hp) : Option (Int32 × Hp) :=
  if v5 ≤ v2 then
    g_X8_worst_60 n K7 s0 v4 v2 h
  else
    g_X8_worst_60 n K7 s0 v4 v5 h
set_option maxRecDepth 100000 in
set_option maxHeartbeats 4000000 in
theorem q_X8_worst_46 {X : Nat → Int32} {d : Nat} (hd : 8 ≤ (d + 1)) {L hi : Nat} (hh : 125 ≤ hi) {n : Nat} {K7 : Int32 → Int64 → Int32 → Hp → Option (Int32 × Hp)} (HK7 : ∀ (v1 : Int32) (v2 : Int64) (v4 : Int32) (w5 : Option Value) (w6 : Option Value) (h : Hp) (o : (Int32 × Hp)), SHP L hi h → K7 v1 v2 v4 h = some o → Run X (d + 1) 178 7 [some (.ref 96), some (.int v1), some (.long v2), none, some (.int v4), w5, w6] [] h (some (.int o.1), o.2) ∧ SHP L hi o.2) {v2 : Int64} {v4 : Int32} {v5 : Int64} {s0 : Int32} {d1 : Int32} {h : Hp} {o : (Int32 × Hp)}  (SH : SHP L hi h) (hf : g_X8_worst_46 n K7 v2 v4 v5 s0 h = some o) : Run X (d + 1) 178 46 [some (.ref 96), some (.int d1), some (.long v2), none, some (.int v4), some (.long v5), none] [.int s0] h (some (.int o.1), o.2) ∧ SHP L hi o.2 := by
  unfold g_X8_worst_46 at hf
  refine And.imp_left (rs_istore_n i_X8_worst_46 (Nat.le_of_ble_eq_true rfl) (lv' := [some (.ref 96), some (.int s0), some (.long v2), none, some (.int v4), some (.long v5), none]) rfl) ?_
  refine And.imp_left (rs_lload i_X8_worst_47 rfl) ?_
  refine And.imp_left (rs_lload_n i_X8_worst_49 rfl) ?_
  refine And.imp_left (rs_lcmp i_X8_worst_50) ?_
  by_cases c1 : v5 ≤ v2
  · replace hf := (if_pos c1).symm.trans hf
    refine And.imp_left (rs_ifT i_X8_worst_51 (by rw [lc_le]; exact decide_eq_true c1) (tg := 59) (by decide)) ?_
    refine And.imp_left (rs_lload_n i_X8_worst_59 rfl) ?_
    exact q_X8_worst_60 hd hh HK7 SH hf
  · replace hf := (if_neg c1).symm.trans hf
    refine And.imp_left (rs_ifF i_X8_worst_51 (by rw [lc_le]; exact decide_eq_false c1)) ?_
    refine And.imp_left (rs_lload i_X8_worst_54 rfl) ?_
    refine And.imp_left (rs_goto i_X8_worst_56 (tg := 60) (by decide)) ?_
    exact q_X8_worst_60 hd hh HK7 SH hf
noncomputable def g_X8_worst_7 (n : Nat) : Nat → Int32 → Int64 → Int32 → Hp → Option (Int32 × Hp)
  | 0, _, _, _, _ => none
  | m + 1, v1, v2, v4, h =>
    if (gI h 96 5) ≤ v4 then
      some (v1, h)
    else
      (g_X8_both n v4 h).bind fun o2 =>
      (g_X8_both n (v4 + 1) o2.2).bind fun o3 =>
      if (o2.1 - o3.1) ≤ v2 then
        g_X8_worst_46 n (g_X8_worst_7 n m) v2 v4 (o2.1 - o3.1) v1 o3.2
      else
        g_X8_worst_46 n (g_X8_worst_7 n m) v2 v4 (o2.1 - o3.1) v4 o3.2
set_option maxRecDepth 100000 in
set_option maxHeartbeats 4000000 in
theorem q_X8_worst_7 {X : Nat → Int32} {d : Nat} (hd : 8 ≤ (d + 1)) {L hi : Nat} (hh : 125 ≤ hi) {n : Nat} : ∀ (m : Nat) (v1 : Int32) (v2 : Int64) (v4 : Int32) (w5 : Option Value) (w6 : Option Value) (h : Hp) (o : (Int32 × Hp)), SHP L hi h → g_X8_worst_7 n m v1 v2 v4 h = some o → Run X (d + 1) 178 7 [some (.ref 96), some (.int v1), some (.long v2), none, some (.int v4), w5, w6] [] h (some (.int o.1), o.2) ∧ SHP L hi o.2 := by
  intro m
  induction m with
  | zero => intro v1 v2 v4 w5 w6 h o SH hf; cases hf
  | succ m ih =>
    intro v1 v2 v4 w5 w6 h o SH hf
    rw [g_X8_worst_7] at hf
    refine And.imp_left (rs_iload i_X8_worst_7 rfl) ?_
    refine And.imp_left (rs_aload_n i_X8_worst_9 rfl) ?_
    refine And.imp_left (rs_getI i_X8_worst_10 (by decide) (by decide) (sO8 SH hh)) ?_
    by_cases c1 : (gI h 96 5) ≤ v4
    · replace hf := (if_pos c1).symm.trans hf
      refine And.imp_left (rs_icT i_X8_worst_13 (ct_ge c1) (tg := 67) (by decide)) ?_
      refine And.imp_left (rs_iload_n i_X8_worst_67 rfl) ?_
      have hf := Option.some.inj hf
      subst hf
      exact ⟨rs_iret i_X8_worst_68 m_X8_worst rfl, SH⟩
    · replace hf := (if_neg c1).symm.trans hf
      refine And.imp_left (rs_icF i_X8_worst_13 (cf_ge c1)) ?_
      refine And.imp_left (rs_aload_n i_X8_worst_16 rfl) ?_
      refine And.imp_left (rs_iload i_X8_worst_17 rfl) ?_
      obtain ⟨o2, e2, hf⟩ := bind_some hf
      obtain ⟨u2, SH2⟩ := k_X8_both (X := X) (d := d) (by omega) (by omega) SH e2
      refine And.imp_left (rs_inV i_X8_worst_19 m_X8_both rfl (As := [.int v4]) (rest := []) rfl rfl (Nat.le_of_ble_eq_true rfl) (sO8 SH hh) u2 (st' := [.long o2.1]) rfl) ?_
      clear SH; have SH := SH2; clear SH2
      refine And.imp_left (rs_aload_n i_X8_worst_22 rfl) ?_
      refine And.imp_left (rs_iload i_X8_worst_23 rfl) ?_
      refine And.imp_left (rs_iconst i_X8_worst_25 (v := 1) (by decide)) ?_
      refine And.imp_left (rs_iadd i_X8_worst_26) ?_
      obtain ⟨o3, e3, hf⟩ := bind_some hf
      obtain ⟨u3, SH2⟩ := k_X8_both (X := X) (d := d) (by omega) (by omega) SH e3
      refine And.imp_left (rs_inV i_X8_worst_27 m_X8_both rfl (As := [.int (v4 + 1)]) (rest := [.long o2.1]) rfl rfl (Nat.le_of_ble_eq_true rfl) (sO8 SH hh) u3 (st' := [.long o3.1, .long o2.1]) rfl) ?_
      clear SH; have SH := SH2; clear SH2
      refine And.imp_left (rs_lsub i_X8_worst_30) ?_
      refine And.imp_left (rs_lstore i_X8_worst_31 (Nat.le_of_ble_eq_true rfl) (lv' := [some (.ref 96), some (.int v1), some (.long v2), none, some (.int v4), some (.long (o2.1 - o3.1)), none]) rfl) ?_
      refine And.imp_left (rs_lload i_X8_worst_33 rfl) ?_
      refine And.imp_left (rs_lload_n i_X8_worst_35 rfl) ?_
      refine And.imp_left (rs_lcmp i_X8_worst_36) ?_
      by_cases c4 : (o2.1 - o3.1) ≤ v2
      · replace hf := (if_pos c4).symm.trans hf
        refine And.imp_left (rs_ifT i_X8_worst_37 (by rw [lc_le]; exact decide_eq_true c4) (tg := 45) (by decide)) ?_
        refine And.imp_left (rs_iload_n i_X8_worst_45 rfl) ?_
        exact q_X8_worst_46 hd hh ih SH hf
      · replace hf := (if_neg c4).symm.trans hf
        refine And.imp_left (rs_ifF i_X8_worst_37 (by rw [lc_le]; exact decide_eq_false c4)) ?_
        refine And.imp_left (rs_iload i_X8_worst_40 rfl) ?_
        refine And.imp_left (rs_goto i_X8_worst_42 (tg := 46) (by decide)) ?_
        exact q_X8_worst_46 hd hh ih SH hf
noncomputable def g_X8_worst_0 (n : Nat)  (h : Hp) : Option (Int32 × Hp) :=
  g_X8_worst_7 n n (-1) 0 0 h
set_option maxRecDepth 100000 in
set_option maxHeartbeats 4000000 in
theorem q_X8_worst_0 {X : Nat → Int32} {d : Nat} (hd : 8 ≤ (d + 1)) {L hi : Nat} (hh : 125 ≤ hi) {n : Nat}  {h : Hp} {o : (Int32 × Hp)}  (SH : SHP L hi h) (hf : g_X8_worst_0 n h = some o) : Run X (d + 1) 178 0 [some (.ref 96), none, none, none, none, none, none] [] h (some (.int o.1), o.2) ∧ SHP L hi o.2 := by
  unfold g_X8_worst_0 at hf
  refine And.imp_left (rs_iconst i_X8_worst_0 (v := (-1)) (by decide)) ?_
  refine And.imp_left (rs_istore_n i_X8_worst_1 (Nat.le_of_ble_eq_true rfl) (lv' := [some (.ref 96), some (.int (-1)), none, none, none, none, none]) rfl) ?_
  refine And.imp_left (rs_lconst i_X8_worst_2 (v := 0) (by decide)) ?_
  refine And.imp_left (rs_lstore_n i_X8_worst_3 (Nat.le_of_ble_eq_true rfl) (lv' := [some (.ref 96), some (.int (-1)), some (.long 0), none, none, none, none]) rfl) ?_
  refine And.imp_left (rs_iconst i_X8_worst_4 (v := 0) (by decide)) ?_
  refine And.imp_left (rs_istore i_X8_worst_5 (Nat.le_of_ble_eq_true rfl) (lv' := [some (.ref 96), some (.int (-1)), some (.long 0), none, some (.int 0), none, none]) rfl) ?_
  exact q_X8_worst_7 hd hh _ _ _ _ _ _ _ _ SH hf
noncomputable def g_X8_worst (n : Nat)  (h : Hp) : Option (Int32 × Hp) := g_X8_worst_0 n h
theorem k_X8_worst {X : Nat → Int32} {d : Nat} (hd : 8 ≤ d) {L hi : Nat} (hh : 125 ≤ hi) {n : Nat}  {h : Hp} {o : (Int32 × Hp)}  (SH : SHP L hi h) (hf : g_X8_worst n h = some o) : Calls X d 178 [.ref 96] h (some (.int o.1), o.2) ∧ SHP L hi o.2 := by
  obtain ⟨d, rfl⟩ : ∃ z, d = z + 1 := ⟨d - 1, by omega⟩
  obtain ⟨r, S2⟩ := q_X8_worst_0 hd hh SH hf
  exact ⟨⟨_, rfl, r⟩, S2⟩
noncomputable def g_X8_some_0 (v0 : Int32) (h : Hp) : Option (Int64 × Hp) :=
  if 1 ≤ v0 then
    some ((Int32.toInt64 v0), h)
  else
    some (1, h)
set_option maxRecDepth 100000 in
set_option maxHeartbeats 4000000 in
theorem q_X8_some_0 {X : Nat → Int32} {d : Nat} (hd : 0 ≤ d) {L hi : Nat} (hh : 125 ≤ hi) {v0 : Int32} {h : Hp} {o : (Int64 × Hp)}  (SH : SHP L hi h) (hf : g_X8_some_0 v0 h = some o) : Run X d 179 0 [some (.int v0)] [] h (some (.long o.1), o.2) ∧ SHP L hi o.2 := by
  unfold g_X8_some_0 at hf
  refine And.imp_left (rs_iload_n i_X8_some_0 rfl) ?_
  refine And.imp_left (rs_iconst i_X8_some_1 (v := 1) (by decide)) ?_
  by_cases c1 : 1 ≤ v0
  · replace hf := (if_pos c1).symm.trans hf
    refine And.imp_left (rs_icT i_X8_some_2 (ct_ge c1) (tg := 9) (by decide)) ?_
    refine And.imp_left (rs_iload_n i_X8_some_9 rfl) ?_
    refine And.imp_left (rs_i2l i_X8_some_10) ?_
    have hf := Option.some.inj hf
    subst hf
    exact ⟨rs_lret i_X8_some_11 m_X8_some rfl, SH⟩
  · replace hf := (if_neg c1).symm.trans hf
    refine And.imp_left (rs_icF i_X8_some_2 (cf_ge c1)) ?_
    refine And.imp_left (rs_lconst i_X8_some_5 (v := 1) (by decide)) ?_
    refine And.imp_left (rs_goto i_X8_some_6 (tg := 11) (by decide)) ?_
    have hf := Option.some.inj hf
    subst hf
    exact ⟨rs_lret i_X8_some_11 m_X8_some rfl, SH⟩
noncomputable def g_X8_some (v0 : Int32) (h : Hp) : Option (Int64 × Hp) := g_X8_some_0 v0 h
theorem k_X8_some {X : Nat → Int32} {d : Nat} (hd : 0 ≤ d) {L hi : Nat} (hh : 125 ≤ hi) {v0 : Int32} {h : Hp} {o : (Int64 × Hp)}  (SH : SHP L hi h) (hf : g_X8_some v0 h = some o) : Calls X d 179 [.int v0] h (some (.long o.1), o.2) ∧ SHP L hi o.2 := by
  obtain ⟨r, S2⟩ := q_X8_some_0 hd hh SH hf
  exact ⟨⟨_, rfl, r⟩, S2⟩
noncomputable def g_X8_window_124 (n : Nat) (K54 : Int32 → Int32 → Int32 → Int32 → Int32 → Int32 → Hp → Option (Int32 × Hp)) (v1 : Int32) (v2 : Int32) (v3 : Int32) (v4 : Int32) (v6 : Int32) (s0 : Int32) (s1 : Int32) (h : Hp) : Option (Int32 × Hp) :=
  K54 v1 v2 v3 v4 (s0 ||| s1) (v6 + 1) h
set_option maxRecDepth 100000 in
set_option maxHeartbeats 4000000 in
theorem q_X8_window_124 {X : Nat → Int32} {d : Nat} (hd : 7 ≤ (d + 1)) {L hi : Nat} (hh : 125 ≤ hi) {n : Nat} {K54 : Int32 → Int32 → Int32 → Int32 → Int32 → Int32 → Hp → Option (Int32 × Hp)} (HK54 : ∀ (v1 : Int32) (v2 : Int32) (v3 : Int32) (v4 : Int32) (v5 : Int32) (v6 : Int32) (h : Hp) (o : (Int32 × Hp)), SHP L hi h → K54 v1 v2 v3 v4 v5 v6 h = some o → Run X (d + 1) 180 54 [some (.ref 96), some (.int v1), some (.int v2), some (.int v3), some (.int v4), some (.int v5), some (.int v6)] [] h (some (.int o.1), o.2) ∧ SHP L hi o.2) {v1 : Int32} {v2 : Int32} {v3 : Int32} {v4 : Int32} {v6 : Int32} {s0 : Int32} {s1 : Int32} {d5 : Int32} {h : Hp} {o : (Int32 × Hp)}  (SH : SHP L hi h) (hf : g_X8_window_124 n K54 v1 v2 v3 v4 v6 s0 s1 h = some o) : Run X (d + 1) 180 124 [some (.ref 96), some (.int v1), some (.int v2), some (.int v3), some (.int v4), some (.int d5), some (.int v6)] [.int s1, .int s0] h (some (.int o.1), o.2) ∧ SHP L hi o.2 := by
  unfold g_X8_window_124 at hf
  refine And.imp_left (rs_ior i_X8_window_124) ?_
  refine And.imp_left (rs_istore i_X8_window_125 (Nat.le_of_ble_eq_true rfl) (lv' := [some (.ref 96), some (.int v1), some (.int v2), some (.int v3), some (.int v4), some (.int (s0 ||| s1)), some (.int v6)]) rfl) ?_
  refine And.imp_left (rs_iinc i_X8_window_127 rfl (v := v6 + 1) rfl (Nat.le_of_ble_eq_true rfl) (lv' := [some (.ref 96), some (.int v1), some (.int v2), some (.int v3), some (.int v4), some (.int (s0 ||| s1)), some (.int (v6 + 1))]) rfl) ?_
  refine And.imp_left (rs_goto i_X8_window_130 (tg := 54) (by decide)) ?_
  exact HK54 _ _ _ _ _ _ _ _ SH hf
noncomputable def g_X8_window_54 (n : Nat) : Nat → Int32 → Int32 → Int32 → Int32 → Int32 → Int32 → Hp → Option (Int32 × Hp)
  | 0, _, _, _, _, _, _, _ => none
  | m + 1, v1, v2, v3, v4, v5, v6, h =>
    if 9 < v6 then
      some (v5, h)
    else
      (g_X8_goes n v1 h).bind fun o2 =>
      (g_X8_allLength n o2).bind fun o3 =>
      (g_X8_draws n ((o3.1 * v2) / 10) v6 o3.2).bind fun o4 =>
      (g_X8_greatest n o4).bind fun o5 =>
      (g_X8_thickOf o5.1 o5.2).bind fun o6 =>
      (g_X8_some v4 o6.2).bind fun o7 =>
      (g_X8_least n o7.2).bind fun o8 =>
      (g_X8_thickOf o8.1 o8.2).bind fun o9 =>
      (g_X8_some o9.1 o9.2).bind fun o10 =>
      if ((Int32.toInt64 v3) * o10.1) ≤ ((Int32.toInt64 o6.1) * o7.1) then
        g_X8_window_124 n (g_X8_window_54 n m) v1 v2 v3 v4 v6 v5 0 o10.2
      else
        g_X8_window_124 n (g_X8_window_54 n m) v1 v2 v3 v4 v6 v5 (1 <<< (v6 &&& 31)) o10.2
set_option maxRecDepth 100000 in
set_option maxHeartbeats 4000000 in
theorem q_X8_window_54 {X : Nat → Int32} {d : Nat} (hd : 7 ≤ (d + 1)) {L hi : Nat} (hh : 125 ≤ hi) {n : Nat} : ∀ (m : Nat) (v1 : Int32) (v2 : Int32) (v3 : Int32) (v4 : Int32) (v5 : Int32) (v6 : Int32) (h : Hp) (o : (Int32 × Hp)), SHP L hi h → g_X8_window_54 n m v1 v2 v3 v4 v5 v6 h = some o → Run X (d + 1) 180 54 [some (.ref 96), some (.int v1), some (.int v2), some (.int v3), some (.int v4), some (.int v5), some (.int v6)] [] h (some (.int o.1), o.2) ∧ SHP L hi o.2 := by
  intro m
  induction m with
  | zero => intro v1 v2 v3 v4 v5 v6 h o SH hf; cases hf
  | succ m ih =>
    intro v1 v2 v3 v4 v5 v6 h o SH hf
    rw [g_X8_window_54] at hf
    refine And.imp_left (rs_iload i_X8_window_54 rfl) ?_
    refine And.imp_left (rs_bipush i_X8_window_56 (v := 9) (by decide)) ?_
    by_cases c1 : 9 < v6
    · replace hf := (if_pos c1).symm.trans hf
      refine And.imp_left (rs_icT i_X8_window_58 (ct_gt c1) (tg := 133) (by decide)) ?_
      refine And.imp_left (rs_iload i_X8_window_133 rfl) ?_
      have hf := Option.some.inj hf
      subst hf
      exact ⟨rs_iret i_X8_window_135 m_X8_window rfl, SH⟩
    · replace hf := (if_neg c1).symm.trans hf
      refine And.imp_left (rs_icF i_X8_window_58 (cf_gt c1)) ?_
      refine And.imp_left (rs_aload_n i_X8_window_61 rfl) ?_
      refine And.imp_left (rs_iload_n i_X8_window_62 rfl) ?_
      obtain ⟨o2, e2, hf⟩ := bind_some hf
      obtain ⟨u2, SH2⟩ := k_X8_goes (X := X) (d := d) (by omega) (by omega) SH e2
      refine And.imp_left (rs_inV i_X8_window_63 m_X8_goes rfl (As := [.int v1]) (rest := []) rfl rfl (Nat.le_of_ble_eq_true rfl) (sO8 SH hh) u2 (st' := []) rfl) ?_
      clear SH; have SH := SH2; clear SH2
      refine And.imp_left (rs_aload_n i_X8_window_66 rfl) ?_
      refine And.imp_left (rs_aload_n i_X8_window_67 rfl) ?_
      obtain ⟨o3, e3, hf⟩ := bind_some hf
      obtain ⟨u3, SH2⟩ := k_X8_allLength (X := X) (d := d) (by omega) (by omega) SH e3
      refine And.imp_left (rs_inV i_X8_window_68 m_X8_allLength rfl (As := []) (rest := [.ref 96]) rfl rfl (Nat.le_of_ble_eq_true rfl) (sO8 SH hh) u3 (st' := [.int o3.1, .ref 96]) rfl) ?_
      clear SH; have SH := SH2; clear SH2
      refine And.imp_left (rs_iload_n i_X8_window_71 rfl) ?_
      refine And.imp_left (rs_imul i_X8_window_72) ?_
      refine And.imp_left (rs_bipush i_X8_window_73 (v := 10) (by decide)) ?_
      refine And.imp_left (rs_idiv i_X8_window_75 (by decide)) ?_
      refine And.imp_left (rs_iload i_X8_window_76 rfl) ?_
      obtain ⟨o4, e4, hf⟩ := bind_some hf
      obtain ⟨u4, SH2⟩ := k_X8_draws (X := X) (d := d) (by omega) (by omega) SH e4
      refine And.imp_left (rs_inV i_X8_window_78 m_X8_draws rfl (As := [.int ((o3.1 * v2) / 10), .int v6]) (rest := []) rfl rfl (Nat.le_of_ble_eq_true rfl) (sO8 SH hh) u4 (st' := []) rfl) ?_
      clear SH; have SH := SH2; clear SH2
      refine And.imp_left (rs_iload i_X8_window_81 rfl) ?_
      refine And.imp_left (rs_aload_n i_X8_window_83 rfl) ?_
      refine And.imp_left (rs_aload_n i_X8_window_84 rfl) ?_
      obtain ⟨o5, e5, hf⟩ := bind_some hf
      obtain ⟨u5, SH2⟩ := k_X8_greatest (X := X) (d := d) (by omega) (by omega) SH e5
      refine And.imp_left (rs_inV i_X8_window_85 m_X8_greatest rfl (As := []) (rest := [.ref 96, .int v5]) rfl rfl (Nat.le_of_ble_eq_true rfl) (sO8 SH hh) u5 (st' := [.int o5.1, .ref 96, .int v5]) rfl) ?_
      clear SH; have SH := SH2; clear SH2
      obtain ⟨o6, e6, hf⟩ := bind_some hf
      obtain ⟨u6, SH2⟩ := k_X8_thickOf (X := X) (d := d) (by omega) (by omega) SH e6
      refine And.imp_left (rs_inV i_X8_window_88 m_X8_thickOf rfl (As := [.int o5.1]) (rest := [.int v5]) rfl rfl (Nat.le_of_ble_eq_true rfl) (sO8 SH hh) u6 (st' := [.int o6.1, .int v5]) rfl) ?_
      clear SH; have SH := SH2; clear SH2
      refine And.imp_left (rs_i2l i_X8_window_91) ?_
      refine And.imp_left (rs_iload i_X8_window_92 rfl) ?_
      obtain ⟨o7, e7, hf⟩ := bind_some hf
      obtain ⟨u7, SH2⟩ := k_X8_some (X := X) (d := d) (by omega) (by omega) SH e7
      refine And.imp_left (rs_inS i_X8_window_94 (by decide) m_X8_some rfl (As := [.int v4]) (rest := [.long (Int32.toInt64 o6.1), .int v5]) rfl rfl (Nat.le_of_ble_eq_true rfl) u7 (st' := [.long o7.1, .long (Int32.toInt64 o6.1), .int v5]) rfl) ?_
      clear SH; have SH := SH2; clear SH2
      refine And.imp_left (rs_lmul i_X8_window_97) ?_
      refine And.imp_left (rs_iload_n i_X8_window_98 rfl) ?_
      refine And.imp_left (rs_i2l i_X8_window_99) ?_
      refine And.imp_left (rs_aload_n i_X8_window_100 rfl) ?_
      refine And.imp_left (rs_aload_n i_X8_window_101 rfl) ?_
      obtain ⟨o8, e8, hf⟩ := bind_some hf
      obtain ⟨u8, SH2⟩ := k_X8_least (X := X) (d := d) (by omega) (by omega) SH e8
      refine And.imp_left (rs_inV i_X8_window_102 m_X8_least rfl (As := []) (rest := [.ref 96, .long (Int32.toInt64 v3), .long ((Int32.toInt64 o6.1) * o7.1), .int v5]) rfl rfl (Nat.le_of_ble_eq_true rfl) (sO8 SH hh) u8 (st' := [.int o8.1, .ref 96, .long (Int32.toInt64 v3), .long ((Int32.toInt64 o6.1) * o7.1), .int v5]) rfl) ?_
      clear SH; have SH := SH2; clear SH2
      obtain ⟨o9, e9, hf⟩ := bind_some hf
      obtain ⟨u9, SH2⟩ := k_X8_thickOf (X := X) (d := d) (by omega) (by omega) SH e9
      refine And.imp_left (rs_inV i_X8_window_105 m_X8_thickOf rfl (As := [.int o8.1]) (rest := [.long (Int32.toInt64 v3), .long ((Int32.toInt64 o6.1) * o7.1), .int v5]) rfl rfl (Nat.le_of_ble_eq_true rfl) (sO8 SH hh) u9 (st' := [.int o9.1, .long (Int32.toInt64 v3), .long ((Int32.toInt64 o6.1) * o7.1), .int v5]) rfl) ?_
      clear SH; have SH := SH2; clear SH2
      obtain ⟨o10, e10, hf⟩ := bind_some hf
      obtain ⟨u10, SH2⟩ := k_X8_some (X := X) (d := d) (by omega) (by omega) SH e10
      refine And.imp_left (rs_inS i_X8_window_108 (by decide) m_X8_some rfl (As := [.int o9.1]) (rest := [.long (Int32.toInt64 v3), .long ((Int32.toInt64 o6.1) * o7.1), .int v5]) rfl rfl (Nat.le_of_ble_eq_true rfl) u10 (st' := [.long o10.1, .long (Int32.toInt64 v3), .long ((Int32.toInt64 o6.1) * o7.1), .int v5]) rfl) ?_
      clear SH; have SH := SH2; clear SH2
      refine And.imp_left (rs_lmul i_X8_window_111) ?_
      refine And.imp_left (rs_lcmp i_X8_window_112) ?_
      by_cases c11 : ((Int32.toInt64 v3) * o10.1) ≤ ((Int32.toInt64 o6.1) * o7.1)
      · replace hf := (if_pos c11).symm.trans hf
        refine And.imp_left (rs_ifT i_X8_window_113 (by rw [lc_ge]; exact decide_eq_true c11) (tg := 123) (by decide)) ?_
        refine And.imp_left (rs_iconst i_X8_window_123 (v := 0) (by decide)) ?_
        exact q_X8_window_124 hd hh ih SH hf
      · replace hf := (if_neg c11).symm.trans hf
        refine And.imp_left (rs_ifF i_X8_window_113 (by rw [lc_ge]; exact decide_eq_false c11)) ?_
        refine And.imp_left (rs_iconst i_X8_window_116 (v := 1) (by decide)) ?_
        refine And.imp_left (rs_iload i_X8_window_117 rfl) ?_
        refine And.imp_left (rs_ishl i_X8_window_119) ?_
        refine And.imp_left (rs_goto i_X8_window_120 (tg := 124) (by decide)) ?_
        exact q_X8_window_124 hd hh ih SH hf
noncomputable def g_X8_window_0 (n : Nat) (v1 : Int32) (v2 : Int32) (h : Hp) : Option (Int32 × Hp) :=
  (g_X8_areSteps v1 h).bind fun o1 =>
  if o1.1 ≠ 0 then
    (g_X8_in v2 0 9 o1.2).bind fun o3 =>
    if o3.1 ≠ 0 then
      (g_X8_goes n v1 o3.2).bind fun o5 =>
      (g_X8_greatest n o5).bind fun o6 =>
      (g_X8_thickOf o6.1 o6.2).bind fun o7 =>
      (g_X8_least n o7.2).bind fun o8 =>
      (g_X8_thickOf o8.1 o8.2).bind fun o9 =>
      g_X8_window_54 n n v1 v2 o7.1 o9.1 0 1 o9.2
    else
      some ((-7), o3.2)
  else
    some ((-5), o1.2)
set_option maxRecDepth 100000 in
set_option maxHeartbeats 4000000 in
theorem q_X8_window_0 {X : Nat → Int32} {d : Nat} (hd : 7 ≤ (d + 1)) {L hi : Nat} (hh : 125 ≤ hi) {n : Nat} {v1 : Int32} {v2 : Int32} {h : Hp} {o : (Int32 × Hp)}  (SH : SHP L hi h) (hf : g_X8_window_0 n v1 v2 h = some o) : Run X (d + 1) 180 0 [some (.ref 96), some (.int v1), some (.int v2), none, none, none, none] [] h (some (.int o.1), o.2) ∧ SHP L hi o.2 := by
  unfold g_X8_window_0 at hf
  refine And.imp_left (rs_aload_n i_X8_window_0 rfl) ?_
  refine And.imp_left (rs_iload_n i_X8_window_1 rfl) ?_
  obtain ⟨o1, e1, hf⟩ := bind_some hf
  obtain ⟨u1, SH2⟩ := k_X8_areSteps (X := X) (d := d) (by omega) (by omega) SH e1
  refine And.imp_left (rs_inV i_X8_window_2 m_X8_areSteps rfl (As := [.int v1]) (rest := []) rfl rfl (Nat.le_of_ble_eq_true rfl) (sO8 SH hh) u1 (st' := [.int o1.1]) rfl) ?_
  clear SH; have SH := SH2; clear SH2
  by_cases c2 : o1.1 ≠ 0
  · replace hf := (if_pos c2).symm.trans hf
    refine And.imp_left (rs_ifT i_X8_window_5 (ct_ne c2) (tg := 11) (by decide)) ?_
    refine And.imp_left (rs_iload_n i_X8_window_11 rfl) ?_
    refine And.imp_left (rs_iconst i_X8_window_12 (v := 0) (by decide)) ?_
    refine And.imp_left (rs_bipush i_X8_window_13 (v := 9) (by decide)) ?_
    obtain ⟨o3, e3, hf⟩ := bind_some hf
    obtain ⟨u3, SH2⟩ := k_X8_in (X := X) (d := d) (by omega) (by omega) SH e3
    refine And.imp_left (rs_inS i_X8_window_15 (by decide) m_X8_in rfl (As := [.int v2, .int 0, .int 9]) (rest := []) rfl rfl (Nat.le_of_ble_eq_true rfl) u3 (st' := [.int o3.1]) rfl) ?_
    clear SH; have SH := SH2; clear SH2
    by_cases c4 : o3.1 ≠ 0
    · replace hf := (if_pos c4).symm.trans hf
      refine And.imp_left (rs_ifT i_X8_window_18 (ct_ne c4) (tg := 24) (by decide)) ?_
      refine And.imp_left (rs_aload_n i_X8_window_24 rfl) ?_
      refine And.imp_left (rs_iload_n i_X8_window_25 rfl) ?_
      obtain ⟨o5, e5, hf⟩ := bind_some hf
      obtain ⟨u5, SH2⟩ := k_X8_goes (X := X) (d := d) (by omega) (by omega) SH e5
      refine And.imp_left (rs_inV i_X8_window_26 m_X8_goes rfl (As := [.int v1]) (rest := []) rfl rfl (Nat.le_of_ble_eq_true rfl) (sO8 SH hh) u5 (st' := []) rfl) ?_
      clear SH; have SH := SH2; clear SH2
      refine And.imp_left (rs_aload_n i_X8_window_29 rfl) ?_
      refine And.imp_left (rs_aload_n i_X8_window_30 rfl) ?_
      obtain ⟨o6, e6, hf⟩ := bind_some hf
      obtain ⟨u6, SH2⟩ := k_X8_greatest (X := X) (d := d) (by omega) (by omega) SH e6
      refine And.imp_left (rs_inV i_X8_window_31 m_X8_greatest rfl (As := []) (rest := [.ref 96]) rfl rfl (Nat.le_of_ble_eq_true rfl) (sO8 SH hh) u6 (st' := [.int o6.1, .ref 96]) rfl) ?_
      clear SH; have SH := SH2; clear SH2
      obtain ⟨o7, e7, hf⟩ := bind_some hf
      obtain ⟨u7, SH2⟩ := k_X8_thickOf (X := X) (d := d) (by omega) (by omega) SH e7
      refine And.imp_left (rs_inV i_X8_window_34 m_X8_thickOf rfl (As := [.int o6.1]) (rest := []) rfl rfl (Nat.le_of_ble_eq_true rfl) (sO8 SH hh) u7 (st' := [.int o7.1]) rfl) ?_
      clear SH; have SH := SH2; clear SH2
      refine And.imp_left (rs_istore_n i_X8_window_37 (Nat.le_of_ble_eq_true rfl) (lv' := [some (.ref 96), some (.int v1), some (.int v2), some (.int o7.1), none, none, none]) rfl) ?_
      refine And.imp_left (rs_aload_n i_X8_window_38 rfl) ?_
      refine And.imp_left (rs_aload_n i_X8_window_39 rfl) ?_
      obtain ⟨o8, e8, hf⟩ := bind_some hf
      obtain ⟨u8, SH2⟩ := k_X8_least (X := X) (d := d) (by omega) (by omega) SH e8
      refine And.imp_left (rs_inV i_X8_window_40 m_X8_least rfl (As := []) (rest := [.ref 96]) rfl rfl (Nat.le_of_ble_eq_true rfl) (sO8 SH hh) u8 (st' := [.int o8.1, .ref 96]) rfl) ?_
      clear SH; have SH := SH2; clear SH2
      obtain ⟨o9, e9, hf⟩ := bind_some hf
      obtain ⟨u9, SH2⟩ := k_X8_thickOf (X := X) (d := d) (by omega) (by omega) SH e9
      refine And.imp_left (rs_inV i_X8_window_43 m_X8_thickOf rfl (As := [.int o8.1]) (rest := []) rfl rfl (Nat.le_of_ble_eq_true rfl) (sO8 SH hh) u9 (st' := [.int o9.1]) rfl) ?_
      clear SH; have SH := SH2; clear SH2
      refine And.imp_left (rs_istore i_X8_window_46 (Nat.le_of_ble_eq_true rfl) (lv' := [some (.ref 96), some (.int v1), some (.int v2), some (.int o7.1), some (.int o9.1), none, none]) rfl) ?_
      refine And.imp_left (rs_iconst i_X8_window_48 (v := 0) (by decide)) ?_
      refine And.imp_left (rs_istore i_X8_window_49 (Nat.le_of_ble_eq_true rfl) (lv' := [some (.ref 96), some (.int v1), some (.int v2), some (.int o7.1), some (.int o9.1), some (.int 0), none]) rfl) ?_
      refine And.imp_left (rs_iconst i_X8_window_51 (v := 1) (by decide)) ?_
      refine And.imp_left (rs_istore i_X8_window_52 (Nat.le_of_ble_eq_true rfl) (lv' := [some (.ref 96), some (.int v1), some (.int v2), some (.int o7.1), some (.int o9.1), some (.int 0), some (.int 1)]) rfl) ?_
      exact q_X8_window_54 hd hh _ _ _ _ _ _ _ _ _ SH hf
    · replace hf := (if_neg c4).symm.trans hf
      refine And.imp_left (rs_ifF i_X8_window_18 (cf_ne c4)) ?_
      refine And.imp_left (rs_bipush i_X8_window_21 (v := (-7)) (by decide)) ?_
      have hf := Option.some.inj hf
      subst hf
      exact ⟨rs_iret i_X8_window_23 m_X8_window rfl, SH⟩
  · replace hf := (if_neg c2).symm.trans hf
    refine And.imp_left (rs_ifF i_X8_window_5 (cf_ne c2)) ?_
    refine And.imp_left (rs_bipush i_X8_window_8 (v := (-5)) (by decide)) ?_
    have hf := Option.some.inj hf
    subst hf
    exact ⟨rs_iret i_X8_window_10 m_X8_window rfl, SH⟩
noncomputable def g_X8_window (n : Nat) (v1 : Int32) (v2 : Int32) (h : Hp) : Option (Int32 × Hp) := g_X8_window_0 n v1 v2 h
theorem k_X8_window {X : Nat → Int32} {d : Nat} (hd : 7 ≤ d) {L hi : Nat} (hh : 125 ≤ hi) {n : Nat} {v1 : Int32} {v2 : Int32} {h : Hp} {o : (Int32 × Hp)}  (SH : SHP L hi h) (hf : g_X8_window n v1 v2 h = some o) : Calls X d 180 [.ref 96, .int v1, .int v2] h (some (.int o.1), o.2) ∧ SHP L hi o.2 := by
  obtain ⟨d, rfl⟩ : ∃ z, d = z + 1 := ⟨d - 1, by omega⟩
  obtain ⟨r, S2⟩ := q_X8_window_0 hd hh SH hf
  exact ⟨⟨_, rfl, r⟩, S2⟩
noncomputable def g_X8_pace_109 (n : Nat) (K42 : Int32 → Int32 → Int32 → Int32 → Int64 → Int32 → Hp → Option (Int32 × Hp)) (v1 : Int32) (v2 : Int32) (v3 : Int32) (v4 : Int32) (v5 : Int64) (v7 : Int32) (h : Hp) : Option (Int32 × Hp) :=
  K42 v1 v2 v3 v4 v5 (v7 + 1) h
set_option maxRecDepth 100000 in
set_option maxHeartbeats 4000000 in
theorem q_X8_pace_109 {X : Nat → Int32} {d : Nat} (hd : 7 ≤ (d + 1)) {L hi : Nat} (hh : 125 ≤ hi) {n : Nat} {K42 : Int32 → Int32 → Int32 → Int32 → Int64 → Int32 → Hp → Option (Int32 × Hp)} (HK42 : ∀ (v1 : Int32) (v2 : Int32) (v3 : Int32) (v4 : Int32) (v5 : Int64) (v7 : Int32) (w8 : Option Value) (w9 : Option Value) (h : Hp) (o : (Int32 × Hp)), SHP L hi h → K42 v1 v2 v3 v4 v5 v7 h = some o → Run X (d + 1) 181 42 [some (.ref 96), some (.int v1), some (.int v2), some (.int v3), some (.int v4), some (.long v5), none, some (.int v7), w8, w9] [] h (some (.int o.1), o.2) ∧ SHP L hi o.2) {v1 : Int32} {v2 : Int32} {v3 : Int32} {v4 : Int32} {v5 : Int64} {v7 : Int32} {d8 : Int64} {h : Hp} {o : (Int32 × Hp)}  (SH : SHP L hi h) (hf : g_X8_pace_109 n K42 v1 v2 v3 v4 v5 v7 h = some o) : Run X (d + 1) 181 109 [some (.ref 96), some (.int v1), some (.int v2), some (.int v3), some (.int v4), some (.long v5), none, some (.int v7), some (.long d8), none] [] h (some (.int o.1), o.2) ∧ SHP L hi o.2 := by
  unfold g_X8_pace_109 at hf
  refine And.imp_left (rs_iinc i_X8_pace_109 rfl (v := v7 + 1) rfl (Nat.le_of_ble_eq_true rfl) (lv' := [some (.ref 96), some (.int v1), some (.int v2), some (.int v3), some (.int v4), some (.long v5), none, some (.int (v7 + 1)), some (.long d8), none]) rfl) ?_
  refine And.imp_left (rs_goto i_X8_pace_112 (tg := 42) (by decide)) ?_
  exact HK42 _ _ _ _ _ _ _ _ _ _ SH hf
noncomputable def g_X8_pace_101 (n : Nat) (K42 : Int32 → Int32 → Int32 → Int32 → Int64 → Int32 → Hp → Option (Int32 × Hp)) (v1 : Int32) (v2 : Int32) (v3 : Int32) (v7 : Int32) (v8 : Int64) (h : Hp) : Option (Int32 × Hp) :=
  g_X8_pace_109 n K42 v1 v2 v3 v7 v8 v7 h
set_option maxRecDepth 100000 in
set_option maxHeartbeats 4000000 in
theorem q_X8_pace_101 {X : Nat → Int32} {d : Nat} (hd : 7 ≤ (d + 1)) {L hi : Nat} (hh : 125 ≤ hi) {n : Nat} {K42 : Int32 → Int32 → Int32 → Int32 → Int64 → Int32 → Hp → Option (Int32 × Hp)} (HK42 : ∀ (v1 : Int32) (v2 : Int32) (v3 : Int32) (v4 : Int32) (v5 : Int64) (v7 : Int32) (w8 : Option Value) (w9 : Option Value) (h : Hp) (o : (Int32 × Hp)), SHP L hi h → K42 v1 v2 v3 v4 v5 v7 h = some o → Run X (d + 1) 181 42 [some (.ref 96), some (.int v1), some (.int v2), some (.int v3), some (.int v4), some (.long v5), none, some (.int v7), w8, w9] [] h (some (.int o.1), o.2) ∧ SHP L hi o.2) {v1 : Int32} {v2 : Int32} {v3 : Int32} {v7 : Int32} {v8 : Int64} {d4 : Int32} {d5 : Int64} {h : Hp} {o : (Int32 × Hp)}  (SH : SHP L hi h) (hf : g_X8_pace_101 n K42 v1 v2 v3 v7 v8 h = some o) : Run X (d + 1) 181 101 [some (.ref 96), some (.int v1), some (.int v2), some (.int v3), some (.int d4), some (.long d5), none, some (.int v7), some (.long v8), none] [] h (some (.int o.1), o.2) ∧ SHP L hi o.2 := by
  unfold g_X8_pace_101 at hf
  refine And.imp_left (rs_iload i_X8_pace_101 rfl) ?_
  refine And.imp_left (rs_istore i_X8_pace_103 (Nat.le_of_ble_eq_true rfl) (lv' := [some (.ref 96), some (.int v1), some (.int v2), some (.int v3), some (.int v7), some (.long d5), none, some (.int v7), some (.long v8), none]) rfl) ?_
  refine And.imp_left (rs_lload i_X8_pace_105 rfl) ?_
  refine And.imp_left (rs_lstore i_X8_pace_107 (Nat.le_of_ble_eq_true rfl) (lv' := [some (.ref 96), some (.int v1), some (.int v2), some (.int v3), some (.int v7), some (.long v8), none, some (.int v7), some (.long v8), none]) rfl) ?_
  exact q_X8_pace_109 hd hh HK42 SH hf
noncomputable def g_X8_pace_86 (n : Nat) (K42 : Int32 → Int32 → Int32 → Int32 → Int64 → Int32 → Hp → Option (Int32 × Hp)) (v1 : Int32) (v2 : Int32) (v3 : Int32) (v4 : Int32) (v5 : Int64) (v7 : Int32) (s0 : Int64) (h : Hp) : Option (Int32 × Hp) :=
  if v4 = 0 then
    g_X8_pace_101 n K42 v1 v2 v3 v7 s0 h
  else
    if s0 ≤ v5 then
      g_X8_pace_109 n K42 v1 v2 v3 v4 v5 v7 h
    else
      g_X8_pace_101 n K42 v1 v2 v3 v7 s0 h
set_option maxRecDepth 100000 in
set_option maxHeartbeats 4000000 in
theorem q_X8_pace_86 {X : Nat → Int32} {d : Nat} (hd : 7 ≤ (d + 1)) {L hi : Nat} (hh : 125 ≤ hi) {n : Nat} {K42 : Int32 → Int32 → Int32 → Int32 → Int64 → Int32 → Hp → Option (Int32 × Hp)} (HK42 : ∀ (v1 : Int32) (v2 : Int32) (v3 : Int32) (v4 : Int32) (v5 : Int64) (v7 : Int32) (w8 : Option Value) (w9 : Option Value) (h : Hp) (o : (Int32 × Hp)), SHP L hi h → K42 v1 v2 v3 v4 v5 v7 h = some o → Run X (d + 1) 181 42 [some (.ref 96), some (.int v1), some (.int v2), some (.int v3), some (.int v4), some (.long v5), none, some (.int v7), w8, w9] [] h (some (.int o.1), o.2) ∧ SHP L hi o.2) {v1 : Int32} {v2 : Int32} {v3 : Int32} {v4 : Int32} {v5 : Int64} {v7 : Int32} {s0 : Int64} {w8 : Option Value} {w9 : Option Value} {h : Hp} {o : (Int32 × Hp)}  (SH : SHP L hi h) (hf : g_X8_pace_86 n K42 v1 v2 v3 v4 v5 v7 s0 h = some o) : Run X (d + 1) 181 86 [some (.ref 96), some (.int v1), some (.int v2), some (.int v3), some (.int v4), some (.long v5), none, some (.int v7), w8, w9] [.long s0] h (some (.int o.1), o.2) ∧ SHP L hi o.2 := by
  unfold g_X8_pace_86 at hf
  refine And.imp_left (rs_lstore i_X8_pace_86 (Nat.le_of_ble_eq_true rfl) (lv' := [some (.ref 96), some (.int v1), some (.int v2), some (.int v3), some (.int v4), some (.long v5), none, some (.int v7), some (.long s0), none]) rfl) ?_
  refine And.imp_left (rs_iload i_X8_pace_88 rfl) ?_
  by_cases c1 : v4 = 0
  · replace hf := (if_pos c1).symm.trans hf
    refine And.imp_left (rs_ifT i_X8_pace_90 (ct_eq c1) (tg := 101) (by decide)) ?_
    exact q_X8_pace_101 hd hh HK42 SH hf
  · replace hf := (if_neg c1).symm.trans hf
    refine And.imp_left (rs_ifF i_X8_pace_90 (cf_eq c1)) ?_
    refine And.imp_left (rs_lload i_X8_pace_93 rfl) ?_
    refine And.imp_left (rs_lload i_X8_pace_95 rfl) ?_
    refine And.imp_left (rs_lcmp i_X8_pace_97) ?_
    by_cases c2 : s0 ≤ v5
    · replace hf := (if_pos c2).symm.trans hf
      refine And.imp_left (rs_ifT i_X8_pace_98 (by rw [lc_le]; exact decide_eq_true c2) (tg := 109) (by decide)) ?_
      exact q_X8_pace_109 hd hh HK42 SH hf
    · replace hf := (if_neg c2).symm.trans hf
      refine And.imp_left (rs_ifF i_X8_pace_98 (by rw [lc_le]; exact decide_eq_false c2)) ?_
      exact q_X8_pace_101 hd hh HK42 SH hf
noncomputable def g_X8_pace_42 (n : Nat) : Nat → Int32 → Int32 → Int32 → Int32 → Int64 → Int32 → Hp → Option (Int32 × Hp)
  | 0, _, _, _, _, _, _, _ => none
  | m + 1, v1, v2, v3, v4, v5, v7, h =>
    if 9 < v7 then
      some (v4, h)
    else
      (g_X8_goes n v1 h).bind fun o2 =>
      (g_X8_allLength n o2).bind fun o3 =>
      (g_X8_draws n ((o3.1 * v2) / 10) v7 o3.2).bind fun o4 =>
      if v3 ≠ 0 then
        (g_X8_spread n o4).bind fun o6 =>
        g_X8_pace_86 n (g_X8_pace_42 n m) v1 v2 v3 v4 v5 v7 (Int32.toInt64 (-o6.1)) o6.2
      else
        g_X8_pace_86 n (g_X8_pace_42 n m) v1 v2 v3 v4 v5 v7 (gL' o4 96 43) o4
set_option maxRecDepth 100000 in
set_option maxHeartbeats 4000000 in
theorem q_X8_pace_42 {X : Nat → Int32} {d : Nat} (hd : 7 ≤ (d + 1)) {L hi : Nat} (hh : 125 ≤ hi) {n : Nat} : ∀ (m : Nat) (v1 : Int32) (v2 : Int32) (v3 : Int32) (v4 : Int32) (v5 : Int64) (v7 : Int32) (w8 : Option Value) (w9 : Option Value) (h : Hp) (o : (Int32 × Hp)), SHP L hi h → g_X8_pace_42 n m v1 v2 v3 v4 v5 v7 h = some o → Run X (d + 1) 181 42 [some (.ref 96), some (.int v1), some (.int v2), some (.int v3), some (.int v4), some (.long v5), none, some (.int v7), w8, w9] [] h (some (.int o.1), o.2) ∧ SHP L hi o.2 := by
  intro m
  induction m with
  | zero => intro v1 v2 v3 v4 v5 v7 w8 w9 h o SH hf; cases hf
  | succ m ih =>
    intro v1 v2 v3 v4 v5 v7 w8 w9 h o SH hf
    rw [g_X8_pace_42] at hf
    refine And.imp_left (rs_iload i_X8_pace_42 rfl) ?_
    refine And.imp_left (rs_bipush i_X8_pace_44 (v := 9) (by decide)) ?_
    by_cases c1 : 9 < v7
    · replace hf := (if_pos c1).symm.trans hf
      refine And.imp_left (rs_icT i_X8_pace_46 (ct_gt c1) (tg := 115) (by decide)) ?_
      refine And.imp_left (rs_iload i_X8_pace_115 rfl) ?_
      have hf := Option.some.inj hf
      subst hf
      exact ⟨rs_iret i_X8_pace_117 m_X8_pace rfl, SH⟩
    · replace hf := (if_neg c1).symm.trans hf
      refine And.imp_left (rs_icF i_X8_pace_46 (cf_gt c1)) ?_
      refine And.imp_left (rs_aload_n i_X8_pace_49 rfl) ?_
      refine And.imp_left (rs_iload_n i_X8_pace_50 rfl) ?_
      obtain ⟨o2, e2, hf⟩ := bind_some hf
      obtain ⟨u2, SH2⟩ := k_X8_goes (X := X) (d := d) (by omega) (by omega) SH e2
      refine And.imp_left (rs_inV i_X8_pace_51 m_X8_goes rfl (As := [.int v1]) (rest := []) rfl rfl (Nat.le_of_ble_eq_true rfl) (sO8 SH hh) u2 (st' := []) rfl) ?_
      clear SH; have SH := SH2; clear SH2
      refine And.imp_left (rs_aload_n i_X8_pace_54 rfl) ?_
      refine And.imp_left (rs_aload_n i_X8_pace_55 rfl) ?_
      obtain ⟨o3, e3, hf⟩ := bind_some hf
      obtain ⟨u3, SH2⟩ := k_X8_allLength (X := X) (d := d) (by omega) (by omega) SH e3
      refine And.imp_left (rs_inV i_X8_pace_56 m_X8_allLength rfl (As := []) (rest := [.ref 96]) rfl rfl (Nat.le_of_ble_eq_true rfl) (sO8 SH hh) u3 (st' := [.int o3.1, .ref 96]) rfl) ?_
      clear SH; have SH := SH2; clear SH2
      refine And.imp_left (rs_iload_n i_X8_pace_59 rfl) ?_
      refine And.imp_left (rs_imul i_X8_pace_60) ?_
      refine And.imp_left (rs_bipush i_X8_pace_61 (v := 10) (by decide)) ?_
      refine And.imp_left (rs_idiv i_X8_pace_63 (by decide)) ?_
      refine And.imp_left (rs_iload i_X8_pace_64 rfl) ?_
      obtain ⟨o4, e4, hf⟩ := bind_some hf
      obtain ⟨u4, SH2⟩ := k_X8_draws (X := X) (d := d) (by omega) (by omega) SH e4
      refine And.imp_left (rs_inV i_X8_pace_66 m_X8_draws rfl (As := [.int ((o3.1 * v2) / 10), .int v7]) (rest := []) rfl rfl (Nat.le_of_ble_eq_true rfl) (sO8 SH hh) u4 (st' := []) rfl) ?_
      clear SH; have SH := SH2; clear SH2
      refine And.imp_left (rs_iload_n i_X8_pace_69 rfl) ?_
      by_cases c5 : v3 ≠ 0
      · replace hf := (if_pos c5).symm.trans hf
        refine And.imp_left (rs_ifT i_X8_pace_70 (ct_ne c5) (tg := 80) (by decide)) ?_
        refine And.imp_left (rs_aload_n i_X8_pace_80 rfl) ?_
        obtain ⟨o6, e6, hf⟩ := bind_some hf
        obtain ⟨u6, SH2⟩ := k_X8_spread (X := X) (d := d) (by omega) (by omega) SH e6
        refine And.imp_left (rs_inV i_X8_pace_81 m_X8_spread rfl (As := []) (rest := []) rfl rfl (Nat.le_of_ble_eq_true rfl) (sO8 SH hh) u6 (st' := [.int o6.1]) rfl) ?_
        clear SH; have SH := SH2; clear SH2
        refine And.imp_left (rs_ineg i_X8_pace_84) ?_
        refine And.imp_left (rs_i2l i_X8_pace_85) ?_
        exact q_X8_pace_86 hd hh ih SH hf
      · replace hf := (if_neg c5).symm.trans hf
        refine And.imp_left (rs_ifF i_X8_pace_70 (cf_ne c5)) ?_
        refine And.imp_left (rs_aload_n i_X8_pace_73 rfl) ?_
        refine And.imp_left (rs_getL i_X8_pace_74 (by decide) (by decide) (sO8 SH hh)) ?_
        refine And.imp_left (rs_goto i_X8_pace_77 (tg := 86) (by decide)) ?_
        exact q_X8_pace_86 hd hh ih SH hf
noncomputable def g_X8_pace_0 (n : Nat) (v1 : Int32) (v2 : Int32) (v3 : Int32) (h : Hp) : Option (Int32 × Hp) :=
  (g_X8_areSteps v1 h).bind fun o1 =>
  if o1.1 ≠ 0 then
    (g_X8_in v2 0 9 o1.2).bind fun o3 =>
    if o3.1 = 0 then
      some ((-7), o3.2)
    else
      (g_X8_in v3 0 1 o3.2).bind fun o5 =>
      if o5.1 ≠ 0 then
        g_X8_pace_42 n n v1 v2 v3 0 0 1 o5.2
      else
        some ((-7), o5.2)
  else
    some ((-5), o1.2)
set_option maxRecDepth 100000 in
set_option maxHeartbeats 4000000 in
theorem q_X8_pace_0 {X : Nat → Int32} {d : Nat} (hd : 7 ≤ (d + 1)) {L hi : Nat} (hh : 125 ≤ hi) {n : Nat} {v1 : Int32} {v2 : Int32} {v3 : Int32} {h : Hp} {o : (Int32 × Hp)}  (SH : SHP L hi h) (hf : g_X8_pace_0 n v1 v2 v3 h = some o) : Run X (d + 1) 181 0 [some (.ref 96), some (.int v1), some (.int v2), some (.int v3), none, none, none, none, none, none] [] h (some (.int o.1), o.2) ∧ SHP L hi o.2 := by
  unfold g_X8_pace_0 at hf
  refine And.imp_left (rs_aload_n i_X8_pace_0 rfl) ?_
  refine And.imp_left (rs_iload_n i_X8_pace_1 rfl) ?_
  obtain ⟨o1, e1, hf⟩ := bind_some hf
  obtain ⟨u1, SH2⟩ := k_X8_areSteps (X := X) (d := d) (by omega) (by omega) SH e1
  refine And.imp_left (rs_inV i_X8_pace_2 m_X8_areSteps rfl (As := [.int v1]) (rest := []) rfl rfl (Nat.le_of_ble_eq_true rfl) (sO8 SH hh) u1 (st' := [.int o1.1]) rfl) ?_
  clear SH; have SH := SH2; clear SH2
  by_cases c2 : o1.1 ≠ 0
  · replace hf := (if_pos c2).symm.trans hf
    refine And.imp_left (rs_ifT i_X8_pace_5 (ct_ne c2) (tg := 11) (by decide)) ?_
    refine And.imp_left (rs_iload_n i_X8_pace_11 rfl) ?_
    refine And.imp_left (rs_iconst i_X8_pace_12 (v := 0) (by decide)) ?_
    refine And.imp_left (rs_bipush i_X8_pace_13 (v := 9) (by decide)) ?_
    obtain ⟨o3, e3, hf⟩ := bind_some hf
    obtain ⟨u3, SH2⟩ := k_X8_in (X := X) (d := d) (by omega) (by omega) SH e3
    refine And.imp_left (rs_inS i_X8_pace_15 (by decide) m_X8_in rfl (As := [.int v2, .int 0, .int 9]) (rest := []) rfl rfl (Nat.le_of_ble_eq_true rfl) u3 (st' := [.int o3.1]) rfl) ?_
    clear SH; have SH := SH2; clear SH2
    by_cases c4 : o3.1 = 0
    · replace hf := (if_pos c4).symm.trans hf
      refine And.imp_left (rs_ifT i_X8_pace_18 (ct_eq c4) (tg := 30) (by decide)) ?_
      refine And.imp_left (rs_bipush i_X8_pace_30 (v := (-7)) (by decide)) ?_
      have hf := Option.some.inj hf
      subst hf
      exact ⟨rs_iret i_X8_pace_32 m_X8_pace rfl, SH⟩
    · replace hf := (if_neg c4).symm.trans hf
      refine And.imp_left (rs_ifF i_X8_pace_18 (cf_eq c4)) ?_
      refine And.imp_left (rs_iload_n i_X8_pace_21 rfl) ?_
      refine And.imp_left (rs_iconst i_X8_pace_22 (v := 0) (by decide)) ?_
      refine And.imp_left (rs_iconst i_X8_pace_23 (v := 1) (by decide)) ?_
      obtain ⟨o5, e5, hf⟩ := bind_some hf
      obtain ⟨u5, SH2⟩ := k_X8_in (X := X) (d := d) (by omega) (by omega) SH e5
      refine And.imp_left (rs_inS i_X8_pace_24 (by decide) m_X8_in rfl (As := [.int v3, .int 0, .int 1]) (rest := []) rfl rfl (Nat.le_of_ble_eq_true rfl) u5 (st' := [.int o5.1]) rfl) ?_
      clear SH; have SH := SH2; clear SH2
      by_cases c6 : o5.1 ≠ 0
      · replace hf := (if_pos c6).symm.trans hf
        refine And.imp_left (rs_ifT i_X8_pace_27 (ct_ne c6) (tg := 33) (by decide)) ?_
        refine And.imp_left (rs_iconst i_X8_pace_33 (v := 0) (by decide)) ?_
        refine And.imp_left (rs_istore i_X8_pace_34 (Nat.le_of_ble_eq_true rfl) (lv' := [some (.ref 96), some (.int v1), some (.int v2), some (.int v3), some (.int 0), none, none, none, none, none]) rfl) ?_
        refine And.imp_left (rs_lconst i_X8_pace_36 (v := 0) (by decide)) ?_
        refine And.imp_left (rs_lstore i_X8_pace_37 (Nat.le_of_ble_eq_true rfl) (lv' := [some (.ref 96), some (.int v1), some (.int v2), some (.int v3), some (.int 0), some (.long 0), none, none, none, none]) rfl) ?_
        refine And.imp_left (rs_iconst i_X8_pace_39 (v := 1) (by decide)) ?_
        refine And.imp_left (rs_istore i_X8_pace_40 (Nat.le_of_ble_eq_true rfl) (lv' := [some (.ref 96), some (.int v1), some (.int v2), some (.int v3), some (.int 0), some (.long 0), none, some (.int 1), none, none]) rfl) ?_
        exact q_X8_pace_42 hd hh _ _ _ _ _ _ _ _ _ _ _ SH hf
      · replace hf := (if_neg c6).symm.trans hf
        refine And.imp_left (rs_ifF i_X8_pace_27 (cf_ne c6)) ?_
        refine And.imp_left (rs_bipush i_X8_pace_30 (v := (-7)) (by decide)) ?_
        have hf := Option.some.inj hf
        subst hf
        exact ⟨rs_iret i_X8_pace_32 m_X8_pace rfl, SH⟩
  · replace hf := (if_neg c2).symm.trans hf
    refine And.imp_left (rs_ifF i_X8_pace_5 (cf_ne c2)) ?_
    refine And.imp_left (rs_bipush i_X8_pace_8 (v := (-5)) (by decide)) ?_
    have hf := Option.some.inj hf
    subst hf
    exact ⟨rs_iret i_X8_pace_10 m_X8_pace rfl, SH⟩
noncomputable def g_X8_pace (n : Nat) (v1 : Int32) (v2 : Int32) (v3 : Int32) (h : Hp) : Option (Int32 × Hp) := g_X8_pace_0 n v1 v2 v3 h
theorem k_X8_pace {X : Nat → Int32} {d : Nat} (hd : 7 ≤ d) {L hi : Nat} (hh : 125 ≤ hi) {n : Nat} {v1 : Int32} {v2 : Int32} {v3 : Int32} {h : Hp} {o : (Int32 × Hp)}  (SH : SHP L hi h) (hf : g_X8_pace n v1 v2 v3 h = some o) : Calls X d 181 [.ref 96, .int v1, .int v2, .int v3] h (some (.int o.1), o.2) ∧ SHP L hi o.2 := by
  obtain ⟨d, rfl⟩ : ∃ z, d = z + 1 := ⟨d - 1, by omega⟩
  obtain ⟨r, S2⟩ := q_X8_pace_0 hd hh SH hf
  exact ⟨⟨_, rfl, r⟩, S2⟩
noncomputable def g_X8_rest_44 (n : Nat) : Nat → Int32 → Int32 → Int32 → Int32 → Hp → Option (Int32 × Hp)
  | 0, _, _, _, _, _ => none
  | m + 1, v1, v2, v3, v4, h =>
    if 30 < v4 then
      some ((-1), h)
    else
      (g_X8_goes n v1 h).bind fun o2 =>
      (g_X8_rests n v4 o2).bind fun o3 =>
      (g_X8_allLength n o3).bind fun o4 =>
      (g_X8_draws n ((o4.1 * (v2 / 10)) / 10) (v2 - v2 / 10 * 10) o4.2).bind fun o5 =>
      if ((gL' o5 96 43) * 100) < ((Int32.toInt64 v3) * (gL' o2 96 43)) then
        (g_X8_rest_44 n m) v1 v2 v3 (v4 + 1) o5
      else
        some (v4, o5)
set_option maxRecDepth 100000 in
set_option maxHeartbeats 4000000 in
theorem q_X8_rest_44 {X : Nat → Int32} {d : Nat} (hd : 7 ≤ (d + 1)) {L hi : Nat} (hh : 125 ≤ hi) {n : Nat} : ∀ (m : Nat) (v1 : Int32) (v2 : Int32) (v3 : Int32) (v4 : Int32) (w5 : Option Value) (w6 : Option Value) (h : Hp) (o : (Int32 × Hp)), SHP L hi h → g_X8_rest_44 n m v1 v2 v3 v4 h = some o → Run X (d + 1) 182 44 [some (.ref 96), some (.int v1), some (.int v2), some (.int v3), some (.int v4), w5, w6] [] h (some (.int o.1), o.2) ∧ SHP L hi o.2 := by
  intro m
  induction m with
  | zero => intro v1 v2 v3 v4 w5 w6 h o SH hf; cases hf
  | succ m ih =>
    intro v1 v2 v3 v4 w5 w6 h o SH hf
    rw [g_X8_rest_44] at hf
    refine And.imp_left (rs_iload i_X8_rest_44 rfl) ?_
    refine And.imp_left (rs_bipush i_X8_rest_46 (v := 30) (by decide)) ?_
    by_cases c1 : 30 < v4
    · replace hf := (if_pos c1).symm.trans hf
      refine And.imp_left (rs_icT i_X8_rest_48 (ct_gt c1) (tg := 114) (by decide)) ?_
      refine And.imp_left (rs_iconst i_X8_rest_114 (v := (-1)) (by decide)) ?_
      have hf := Option.some.inj hf
      subst hf
      exact ⟨rs_iret i_X8_rest_115 m_X8_rest rfl, SH⟩
    · replace hf := (if_neg c1).symm.trans hf
      refine And.imp_left (rs_icF i_X8_rest_48 (cf_gt c1)) ?_
      refine And.imp_left (rs_aload_n i_X8_rest_51 rfl) ?_
      refine And.imp_left (rs_iload_n i_X8_rest_52 rfl) ?_
      obtain ⟨o2, e2, hf⟩ := bind_some hf
      obtain ⟨u2, SH2⟩ := k_X8_goes (X := X) (d := d) (by omega) (by omega) SH e2
      refine And.imp_left (rs_inV i_X8_rest_53 m_X8_goes rfl (As := [.int v1]) (rest := []) rfl rfl (Nat.le_of_ble_eq_true rfl) (sO8 SH hh) u2 (st' := []) rfl) ?_
      clear SH; have SH := SH2; clear SH2
      refine And.imp_left (rs_aload_n i_X8_rest_56 rfl) ?_
      refine And.imp_left (rs_getL i_X8_rest_57 (by decide) (by decide) (sO8 SH hh)) ?_
      refine And.imp_left (rs_lstore i_X8_rest_60 (Nat.le_of_ble_eq_true rfl) (lv' := [some (.ref 96), some (.int v1), some (.int v2), some (.int v3), some (.int v4), some (.long (gL' o2 96 43)), none]) rfl) ?_
      refine And.imp_left (rs_aload_n i_X8_rest_62 rfl) ?_
      refine And.imp_left (rs_iload i_X8_rest_63 rfl) ?_
      obtain ⟨o3, e3, hf⟩ := bind_some hf
      obtain ⟨u3, SH2⟩ := k_X8_rests (X := X) (d := d) (by omega) (by omega) SH e3
      refine And.imp_left (rs_inV i_X8_rest_65 m_X8_rests rfl (As := [.int v4]) (rest := []) rfl rfl (Nat.le_of_ble_eq_true rfl) (sO8 SH hh) u3 (st' := []) rfl) ?_
      clear SH; have SH := SH2; clear SH2
      refine And.imp_left (rs_aload_n i_X8_rest_68 rfl) ?_
      refine And.imp_left (rs_aload_n i_X8_rest_69 rfl) ?_
      obtain ⟨o4, e4, hf⟩ := bind_some hf
      obtain ⟨u4, SH2⟩ := k_X8_allLength (X := X) (d := d) (by omega) (by omega) SH e4
      refine And.imp_left (rs_inV i_X8_rest_70 m_X8_allLength rfl (As := []) (rest := [.ref 96]) rfl rfl (Nat.le_of_ble_eq_true rfl) (sO8 SH hh) u4 (st' := [.int o4.1, .ref 96]) rfl) ?_
      clear SH; have SH := SH2; clear SH2
      refine And.imp_left (rs_iload_n i_X8_rest_73 rfl) ?_
      refine And.imp_left (rs_bipush i_X8_rest_74 (v := 10) (by decide)) ?_
      refine And.imp_left (rs_idiv i_X8_rest_76 (by decide)) ?_
      refine And.imp_left (rs_imul i_X8_rest_77) ?_
      refine And.imp_left (rs_bipush i_X8_rest_78 (v := 10) (by decide)) ?_
      refine And.imp_left (rs_idiv i_X8_rest_80 (by decide)) ?_
      refine And.imp_left (rs_iload_n i_X8_rest_81 rfl) ?_
      refine And.imp_left (rs_bipush i_X8_rest_82 (v := 10) (by decide)) ?_
      refine And.imp_left (rs_irem i_X8_rest_84 (by decide)) ?_
      obtain ⟨o5, e5, hf⟩ := bind_some hf
      obtain ⟨u5, SH2⟩ := k_X8_draws (X := X) (d := d) (by omega) (by omega) SH e5
      refine And.imp_left (rs_inV i_X8_rest_85 m_X8_draws rfl (As := [.int ((o4.1 * (v2 / 10)) / 10), .int (v2 - v2 / 10 * 10)]) (rest := []) rfl rfl (Nat.le_of_ble_eq_true rfl) (sO8 SH hh) u5 (st' := []) rfl) ?_
      clear SH; have SH := SH2; clear SH2
      refine And.imp_left (rs_aload_n i_X8_rest_88 rfl) ?_
      refine And.imp_left (rs_getL i_X8_rest_89 (by decide) (by decide) (sO8 SH hh)) ?_
      refine And.imp_left (rs_ldc2 i_X8_rest_92 (v := 100) (by decide)) ?_
      refine And.imp_left (rs_lmul i_X8_rest_95) ?_
      refine And.imp_left (rs_iload_n i_X8_rest_96 rfl) ?_
      refine And.imp_left (rs_i2l i_X8_rest_97) ?_
      refine And.imp_left (rs_lload i_X8_rest_98 rfl) ?_
      refine And.imp_left (rs_lmul i_X8_rest_100) ?_
      refine And.imp_left (rs_lcmp i_X8_rest_101) ?_
      by_cases c6 : ((gL' o5 96 43) * 100) < ((Int32.toInt64 v3) * (gL' o2 96 43))
      · replace hf := (if_pos c6).symm.trans hf
        refine And.imp_left (rs_ifT i_X8_rest_102 (by rw [lc_lt]; exact decide_eq_true c6) (tg := 108) (by decide)) ?_
        refine And.imp_left (rs_iinc i_X8_rest_108 rfl (v := v4 + 1) rfl (Nat.le_of_ble_eq_true rfl) (lv' := [some (.ref 96), some (.int v1), some (.int v2), some (.int v3), some (.int (v4 + 1)), some (.long (gL' o2 96 43)), none]) rfl) ?_
        refine And.imp_left (rs_goto i_X8_rest_111 (tg := 44) (by decide)) ?_
        exact ih _ _ _ _ _ _ _ _ SH hf
      · replace hf := (if_neg c6).symm.trans hf
        refine And.imp_left (rs_ifF i_X8_rest_102 (by rw [lc_lt]; exact decide_eq_false c6)) ?_
        refine And.imp_left (rs_iload i_X8_rest_105 rfl) ?_
        have hf := Option.some.inj hf
        subst hf
        exact ⟨rs_iret i_X8_rest_107 m_X8_rest rfl, SH⟩
noncomputable def g_X8_rest_0 (n : Nat) (v1 : Int32) (v2 : Int32) (v3 : Int32) (h : Hp) : Option (Int32 × Hp) :=
  (g_X8_areSteps v1 h).bind fun o1 =>
  if o1.1 ≠ 0 then
    (g_X8_in v2 0 99 o1.2).bind fun o3 =>
    if o3.1 = 0 then
      some ((-7), o3.2)
    else
      if (v2 - v2 / 10 * 10) = 0 then
        some ((-7), o3.2)
      else
        (g_X8_in v3 0 100 o3.2).bind fun o6 =>
        if o6.1 ≠ 0 then
          g_X8_rest_44 n n v1 v2 v3 0 o6.2
        else
          some ((-7), o6.2)
  else
    some ((-5), o1.2)
set_option maxRecDepth 100000 in
set_option maxHeartbeats 4000000 in
theorem q_X8_rest_0 {X : Nat → Int32} {d : Nat} (hd : 7 ≤ (d + 1)) {L hi : Nat} (hh : 125 ≤ hi) {n : Nat} {v1 : Int32} {v2 : Int32} {v3 : Int32} {h : Hp} {o : (Int32 × Hp)}  (SH : SHP L hi h) (hf : g_X8_rest_0 n v1 v2 v3 h = some o) : Run X (d + 1) 182 0 [some (.ref 96), some (.int v1), some (.int v2), some (.int v3), none, none, none] [] h (some (.int o.1), o.2) ∧ SHP L hi o.2 := by
  unfold g_X8_rest_0 at hf
  refine And.imp_left (rs_aload_n i_X8_rest_0 rfl) ?_
  refine And.imp_left (rs_iload_n i_X8_rest_1 rfl) ?_
  obtain ⟨o1, e1, hf⟩ := bind_some hf
  obtain ⟨u1, SH2⟩ := k_X8_areSteps (X := X) (d := d) (by omega) (by omega) SH e1
  refine And.imp_left (rs_inV i_X8_rest_2 m_X8_areSteps rfl (As := [.int v1]) (rest := []) rfl rfl (Nat.le_of_ble_eq_true rfl) (sO8 SH hh) u1 (st' := [.int o1.1]) rfl) ?_
  clear SH; have SH := SH2; clear SH2
  by_cases c2 : o1.1 ≠ 0
  · replace hf := (if_pos c2).symm.trans hf
    refine And.imp_left (rs_ifT i_X8_rest_5 (ct_ne c2) (tg := 11) (by decide)) ?_
    refine And.imp_left (rs_iload_n i_X8_rest_11 rfl) ?_
    refine And.imp_left (rs_iconst i_X8_rest_12 (v := 0) (by decide)) ?_
    refine And.imp_left (rs_bipush i_X8_rest_13 (v := 99) (by decide)) ?_
    obtain ⟨o3, e3, hf⟩ := bind_some hf
    obtain ⟨u3, SH2⟩ := k_X8_in (X := X) (d := d) (by omega) (by omega) SH e3
    refine And.imp_left (rs_inS i_X8_rest_15 (by decide) m_X8_in rfl (As := [.int v2, .int 0, .int 99]) (rest := []) rfl rfl (Nat.le_of_ble_eq_true rfl) u3 (st' := [.int o3.1]) rfl) ?_
    clear SH; have SH := SH2; clear SH2
    by_cases c4 : o3.1 = 0
    · replace hf := (if_pos c4).symm.trans hf
      refine And.imp_left (rs_ifT i_X8_rest_18 (ct_eq c4) (tg := 38) (by decide)) ?_
      refine And.imp_left (rs_bipush i_X8_rest_38 (v := (-7)) (by decide)) ?_
      have hf := Option.some.inj hf
      subst hf
      exact ⟨rs_iret i_X8_rest_40 m_X8_rest rfl, SH⟩
    · replace hf := (if_neg c4).symm.trans hf
      refine And.imp_left (rs_ifF i_X8_rest_18 (cf_eq c4)) ?_
      refine And.imp_left (rs_iload_n i_X8_rest_21 rfl) ?_
      refine And.imp_left (rs_bipush i_X8_rest_22 (v := 10) (by decide)) ?_
      refine And.imp_left (rs_irem i_X8_rest_24 (by decide)) ?_
      by_cases c5 : (v2 - v2 / 10 * 10) = 0
      · replace hf := (if_pos c5).symm.trans hf
        refine And.imp_left (rs_ifT i_X8_rest_25 (ct_eq c5) (tg := 38) (by decide)) ?_
        refine And.imp_left (rs_bipush i_X8_rest_38 (v := (-7)) (by decide)) ?_
        have hf := Option.some.inj hf
        subst hf
        exact ⟨rs_iret i_X8_rest_40 m_X8_rest rfl, SH⟩
      · replace hf := (if_neg c5).symm.trans hf
        refine And.imp_left (rs_ifF i_X8_rest_25 (cf_eq c5)) ?_
        refine And.imp_left (rs_iload_n i_X8_rest_28 rfl) ?_
        refine And.imp_left (rs_iconst i_X8_rest_29 (v := 0) (by decide)) ?_
        refine And.imp_left (rs_bipush i_X8_rest_30 (v := 100) (by decide)) ?_
        obtain ⟨o6, e6, hf⟩ := bind_some hf
        obtain ⟨u6, SH2⟩ := k_X8_in (X := X) (d := d) (by omega) (by omega) SH e6
        refine And.imp_left (rs_inS i_X8_rest_32 (by decide) m_X8_in rfl (As := [.int v3, .int 0, .int 100]) (rest := []) rfl rfl (Nat.le_of_ble_eq_true rfl) u6 (st' := [.int o6.1]) rfl) ?_
        clear SH; have SH := SH2; clear SH2
        by_cases c7 : o6.1 ≠ 0
        · replace hf := (if_pos c7).symm.trans hf
          refine And.imp_left (rs_ifT i_X8_rest_35 (ct_ne c7) (tg := 41) (by decide)) ?_
          refine And.imp_left (rs_iconst i_X8_rest_41 (v := 0) (by decide)) ?_
          refine And.imp_left (rs_istore i_X8_rest_42 (Nat.le_of_ble_eq_true rfl) (lv' := [some (.ref 96), some (.int v1), some (.int v2), some (.int v3), some (.int 0), none, none]) rfl) ?_
          exact q_X8_rest_44 hd hh _ _ _ _ _ _ _ _ _ SH hf
        · replace hf := (if_neg c7).symm.trans hf
          refine And.imp_left (rs_ifF i_X8_rest_35 (cf_ne c7)) ?_
          refine And.imp_left (rs_bipush i_X8_rest_38 (v := (-7)) (by decide)) ?_
          have hf := Option.some.inj hf
          subst hf
          exact ⟨rs_iret i_X8_rest_40 m_X8_rest rfl, SH⟩
  · replace hf := (if_neg c2).symm.trans hf
    refine And.imp_left (rs_ifF i_X8_rest_5 (cf_ne c2)) ?_
    refine And.imp_left (rs_bipush i_X8_rest_8 (v := (-5)) (by decide)) ?_
    have hf := Option.some.inj hf
    subst hf
    exact ⟨rs_iret i_X8_rest_10 m_X8_rest rfl, SH⟩
noncomputable def g_X8_rest (n : Nat) (v1 : Int32) (v2 : Int32) (v3 : Int32) (h : Hp) : Option (Int32 × Hp) := g_X8_rest_0 n v1 v2 v3 h
theorem k_X8_rest {X : Nat → Int32} {d : Nat} (hd : 7 ≤ d) {L hi : Nat} (hh : 125 ≤ hi) {n : Nat} {v1 : Int32} {v2 : Int32} {v3 : Int32} {h : Hp} {o : (Int32 × Hp)}  (SH : SHP L hi h) (hf : g_X8_rest n v1 v2 v3 h = some o) : Calls X d 182 [.ref 96, .int v1, .int v2, .int v3] h (some (.int o.1), o.2) ∧ SHP L hi o.2 := by
  obtain ⟨d, rfl⟩ : ∃ z, d = z + 1 := ⟨d - 1, by omega⟩
  obtain ⟨r, S2⟩ := q_X8_rest_0 hd hh SH hf
  exact ⟨⟨_, rfl, r⟩, S2⟩
noncomputable def g_X8_dust_26 (n : Nat) : Nat → Int32 → Int32 → Int32 → Hp → Option (Int32 × Hp)
  | 0, _, _, _, _ => none
  | m + 1, v1, v2, v3, h =>
    if 99 < v3 then
      some ((-1), h)
    else
      (g_X8_goes n v1 h).bind fun o2 =>
      (g_X8_dusts v3 o2).bind fun o3 =>
      (g_X8_doubles n o3).bind fun o4 =>
      if ((Int32.toInt64 v2) * (gL' o2 96 44)) < (((gL' o2 96 44) - (gL' o4 96 44)) * 100) then
        (g_X8_dust_26 n m) v1 v2 (v3 + 1) o4
      else
        some (v3, o4)
set_option maxRecDepth 100000 in
set_option maxHeartbeats 4000000 in
theorem q_X8_dust_26 {X : Nat → Int32} {d : Nat} (hd : 7 ≤ (d + 1)) {L hi : Nat} (hh : 125 ≤ hi) {n : Nat} : ∀ (m : Nat) (v1 : Int32) (v2 : Int32) (v3 : Int32) (w4 : Option Value) (w5 : Option Value) (h : Hp) (o : (Int32 × Hp)), SHP L hi h → g_X8_dust_26 n m v1 v2 v3 h = some o → Run X (d + 1) 183 26 [some (.ref 96), some (.int v1), some (.int v2), some (.int v3), w4, w5] [] h (some (.int o.1), o.2) ∧ SHP L hi o.2 := by
  intro m
  induction m with
  | zero => intro v1 v2 v3 w4 w5 h o SH hf; cases hf
  | succ m ih =>
    intro v1 v2 v3 w4 w5 h o SH hf
    rw [g_X8_dust_26] at hf
    refine And.imp_left (rs_iload_n i_X8_dust_26 rfl) ?_
    refine And.imp_left (rs_bipush i_X8_dust_27 (v := 99) (by decide)) ?_
    by_cases c1 : 99 < v3
    · replace hf := (if_pos c1).symm.trans hf
      refine And.imp_left (rs_icT i_X8_dust_29 (ct_gt c1) (tg := 80) (by decide)) ?_
      refine And.imp_left (rs_iconst i_X8_dust_80 (v := (-1)) (by decide)) ?_
      have hf := Option.some.inj hf
      subst hf
      exact ⟨rs_iret i_X8_dust_81 m_X8_dust rfl, SH⟩
    · replace hf := (if_neg c1).symm.trans hf
      refine And.imp_left (rs_icF i_X8_dust_29 (cf_gt c1)) ?_
      refine And.imp_left (rs_aload_n i_X8_dust_32 rfl) ?_
      refine And.imp_left (rs_iload_n i_X8_dust_33 rfl) ?_
      obtain ⟨o2, e2, hf⟩ := bind_some hf
      obtain ⟨u2, SH2⟩ := k_X8_goes (X := X) (d := d) (by omega) (by omega) SH e2
      refine And.imp_left (rs_inV i_X8_dust_34 m_X8_goes rfl (As := [.int v1]) (rest := []) rfl rfl (Nat.le_of_ble_eq_true rfl) (sO8 SH hh) u2 (st' := []) rfl) ?_
      clear SH; have SH := SH2; clear SH2
      refine And.imp_left (rs_aload_n i_X8_dust_37 rfl) ?_
      refine And.imp_left (rs_getL i_X8_dust_38 (by decide) (by decide) (sO8 SH hh)) ?_
      refine And.imp_left (rs_lstore i_X8_dust_41 (Nat.le_of_ble_eq_true rfl) (lv' := [some (.ref 96), some (.int v1), some (.int v2), some (.int v3), some (.long (gL' o2 96 44)), none]) rfl) ?_
      refine And.imp_left (rs_aload_n i_X8_dust_43 rfl) ?_
      refine And.imp_left (rs_iload_n i_X8_dust_44 rfl) ?_
      obtain ⟨o3, e3, hf⟩ := bind_some hf
      obtain ⟨u3, SH2⟩ := k_X8_dusts (X := X) (d := d) (by omega) (by omega) SH e3
      refine And.imp_left (rs_inV i_X8_dust_45 m_X8_dusts rfl (As := [.int v3]) (rest := []) rfl rfl (Nat.le_of_ble_eq_true rfl) (sO8 SH hh) u3 (st' := []) rfl) ?_
      clear SH; have SH := SH2; clear SH2
      refine And.imp_left (rs_aload_n i_X8_dust_48 rfl) ?_
      obtain ⟨o4, e4, hf⟩ := bind_some hf
      obtain ⟨u4, SH2⟩ := k_X8_doubles (X := X) (d := d) (by omega) (by omega) SH e4
      refine And.imp_left (rs_inV i_X8_dust_49 m_X8_doubles rfl (As := []) (rest := []) rfl rfl (Nat.le_of_ble_eq_true rfl) (sO8 SH hh) u4 (st' := []) rfl) ?_
      clear SH; have SH := SH2; clear SH2
      refine And.imp_left (rs_lload i_X8_dust_52 rfl) ?_
      refine And.imp_left (rs_aload_n i_X8_dust_54 rfl) ?_
      refine And.imp_left (rs_getL i_X8_dust_55 (by decide) (by decide) (sO8 SH hh)) ?_
      refine And.imp_left (rs_lsub i_X8_dust_58) ?_
      refine And.imp_left (rs_ldc2 i_X8_dust_59 (v := 100) (by decide)) ?_
      refine And.imp_left (rs_lmul i_X8_dust_62) ?_
      refine And.imp_left (rs_iload_n i_X8_dust_63 rfl) ?_
      refine And.imp_left (rs_i2l i_X8_dust_64) ?_
      refine And.imp_left (rs_lload i_X8_dust_65 rfl) ?_
      refine And.imp_left (rs_lmul i_X8_dust_67) ?_
      refine And.imp_left (rs_lcmp i_X8_dust_68) ?_
      by_cases c5 : ((Int32.toInt64 v2) * (gL' o2 96 44)) < (((gL' o2 96 44) - (gL' o4 96 44)) * 100)
      · replace hf := (if_pos c5).symm.trans hf
        refine And.imp_left (rs_ifT i_X8_dust_69 (by rw [lc_gt]; exact decide_eq_true c5) (tg := 74) (by decide)) ?_
        refine And.imp_left (rs_iinc i_X8_dust_74 rfl (v := v3 + 1) rfl (Nat.le_of_ble_eq_true rfl) (lv' := [some (.ref 96), some (.int v1), some (.int v2), some (.int (v3 + 1)), some (.long (gL' o2 96 44)), none]) rfl) ?_
        refine And.imp_left (rs_goto i_X8_dust_77 (tg := 26) (by decide)) ?_
        exact ih _ _ _ _ _ _ _ SH hf
      · replace hf := (if_neg c5).symm.trans hf
        refine And.imp_left (rs_ifF i_X8_dust_69 (by rw [lc_gt]; exact decide_eq_false c5)) ?_
        refine And.imp_left (rs_iload_n i_X8_dust_72 rfl) ?_
        have hf := Option.some.inj hf
        subst hf
        exact ⟨rs_iret i_X8_dust_73 m_X8_dust rfl, SH⟩
noncomputable def g_X8_dust_0 (n : Nat) (v1 : Int32) (v2 : Int32) (h : Hp) : Option (Int32 × Hp) :=
  (g_X8_areSteps v1 h).bind fun o1 =>
  if o1.1 ≠ 0 then
    (g_X8_in v2 0 100 o1.2).bind fun o3 =>
    if o3.1 ≠ 0 then
      g_X8_dust_26 n n v1 v2 0 o3.2
    else
      some ((-7), o3.2)
  else
    some ((-5), o1.2)
set_option maxRecDepth 100000 in
set_option maxHeartbeats 4000000 in
theorem q_X8_dust_0 {X : Nat → Int32} {d : Nat} (hd : 7 ≤ (d + 1)) {L hi : Nat} (hh : 125 ≤ hi) {n : Nat} {v1 : Int32} {v2 : Int32} {h : Hp} {o : (Int32 × Hp)}  (SH : SHP L hi h) (hf : g_X8_dust_0 n v1 v2 h = some o) : Run X (d + 1) 183 0 [some (.ref 96), some (.int v1), some (.int v2), none, none, none] [] h (some (.int o.1), o.2) ∧ SHP L hi o.2 := by
  unfold g_X8_dust_0 at hf
  refine And.imp_left (rs_aload_n i_X8_dust_0 rfl) ?_
  refine And.imp_left (rs_iload_n i_X8_dust_1 rfl) ?_
  obtain ⟨o1, e1, hf⟩ := bind_some hf
  obtain ⟨u1, SH2⟩ := k_X8_areSteps (X := X) (d := d) (by omega) (by omega) SH e1
  refine And.imp_left (rs_inV i_X8_dust_2 m_X8_areSteps rfl (As := [.int v1]) (rest := []) rfl rfl (Nat.le_of_ble_eq_true rfl) (sO8 SH hh) u1 (st' := [.int o1.1]) rfl) ?_
  clear SH; have SH := SH2; clear SH2
  by_cases c2 : o1.1 ≠ 0
  · replace hf := (if_pos c2).symm.trans hf
    refine And.imp_left (rs_ifT i_X8_dust_5 (ct_ne c2) (tg := 11) (by decide)) ?_
    refine And.imp_left (rs_iload_n i_X8_dust_11 rfl) ?_
    refine And.imp_left (rs_iconst i_X8_dust_12 (v := 0) (by decide)) ?_
    refine And.imp_left (rs_bipush i_X8_dust_13 (v := 100) (by decide)) ?_
    obtain ⟨o3, e3, hf⟩ := bind_some hf
    obtain ⟨u3, SH2⟩ := k_X8_in (X := X) (d := d) (by omega) (by omega) SH e3
    refine And.imp_left (rs_inS i_X8_dust_15 (by decide) m_X8_in rfl (As := [.int v2, .int 0, .int 100]) (rest := []) rfl rfl (Nat.le_of_ble_eq_true rfl) u3 (st' := [.int o3.1]) rfl) ?_
    clear SH; have SH := SH2; clear SH2
    by_cases c4 : o3.1 ≠ 0
    · replace hf := (if_pos c4).symm.trans hf
      refine And.imp_left (rs_ifT i_X8_dust_18 (ct_ne c4) (tg := 24) (by decide)) ?_
      refine And.imp_left (rs_iconst i_X8_dust_24 (v := 0) (by decide)) ?_
      refine And.imp_left (rs_istore_n i_X8_dust_25 (Nat.le_of_ble_eq_true rfl) (lv' := [some (.ref 96), some (.int v1), some (.int v2), some (.int 0), none, none]) rfl) ?_
      exact q_X8_dust_26 hd hh _ _ _ _ _ _ _ _ SH hf
    · replace hf := (if_neg c4).symm.trans hf
      refine And.imp_left (rs_ifF i_X8_dust_18 (cf_ne c4)) ?_
      refine And.imp_left (rs_bipush i_X8_dust_21 (v := (-7)) (by decide)) ?_
      have hf := Option.some.inj hf
      subst hf
      exact ⟨rs_iret i_X8_dust_23 m_X8_dust rfl, SH⟩
  · replace hf := (if_neg c2).symm.trans hf
    refine And.imp_left (rs_ifF i_X8_dust_5 (cf_ne c2)) ?_
    refine And.imp_left (rs_bipush i_X8_dust_8 (v := (-5)) (by decide)) ?_
    have hf := Option.some.inj hf
    subst hf
    exact ⟨rs_iret i_X8_dust_10 m_X8_dust rfl, SH⟩
noncomputable def g_X8_dust (n : Nat) (v1 : Int32) (v2 : Int32) (h : Hp) : Option (Int32 × Hp) := g_X8_dust_0 n v1 v2 h
theorem k_X8_dust {X : Nat → Int32} {d : Nat} (hd : 7 ≤ d) {L hi : Nat} (hh : 125 ≤ hi) {n : Nat} {v1 : Int32} {v2 : Int32} {h : Hp} {o : (Int32 × Hp)}  (SH : SHP L hi h) (hf : g_X8_dust n v1 v2 h = some o) : Calls X d 183 [.ref 96, .int v1, .int v2] h (some (.int o.1), o.2) ∧ SHP L hi o.2 := by
  obtain ⟨d, rfl⟩ : ∃ z, d = z + 1 := ⟨d - 1, by omega⟩
  obtain ⟨r, S2⟩ := q_X8_dust_0 hd hh SH hf
  exact ⟨⟨_, rfl, r⟩, S2⟩
noncomputable def g_X8_doublings_43 (n : Nat) : Nat → Int32 → Int32 → Int32 → Hp → Option (Int32 × Hp)
  | 0, _, _, _, _ => none
  | m + 1, v2, v3, v4, h =>
    if 20 ≤ v4 then
      some (20, h)
    else
      (g_X8_allLength n h).bind fun o2 =>
      (g_X8_draws n o2.1 v2 o2.2).bind fun o3 =>
      (g_X8_doubles n o3).bind fun o4 =>
      (g_X8_least n o4).bind fun o5 =>
      (g_X8_thickOf o5.1 o5.2).bind fun o6 =>
      if v3 ≤ o6.1 then
        (g_X8_doublings_43 n m) v2 v3 (v4 + 1) o6.2
      else
        some (v4, o6.2)
set_option maxRecDepth 100000 in
set_option maxHeartbeats 4000000 in
theorem q_X8_doublings_43 {X : Nat → Int32} {d : Nat} (hd : 7 ≤ (d + 1)) {L hi : Nat} (hh : 125 ≤ hi) {n : Nat} : ∀ (m : Nat) (v2 : Int32) (v3 : Int32) (v4 : Int32) (d1 : Int32) (h : Hp) (o : (Int32 × Hp)), SHP L hi h → g_X8_doublings_43 n m v2 v3 v4 h = some o → Run X (d + 1) 184 43 [some (.ref 96), some (.int d1), some (.int v2), some (.int v3), some (.int v4)] [] h (some (.int o.1), o.2) ∧ SHP L hi o.2 := by
  intro m
  induction m with
  | zero => intro v2 v3 v4 d1 h o SH hf; cases hf
  | succ m ih =>
    intro v2 v3 v4 d1 h o SH hf
    rw [g_X8_doublings_43] at hf
    refine And.imp_left (rs_iload i_X8_doublings_43 rfl) ?_
    refine And.imp_left (rs_bipush i_X8_doublings_45 (v := 20) (by decide)) ?_
    by_cases c1 : 20 ≤ v4
    · replace hf := (if_pos c1).symm.trans hf
      refine And.imp_left (rs_icT i_X8_doublings_47 (ct_ge c1) (tg := 84) (by decide)) ?_
      refine And.imp_left (rs_bipush i_X8_doublings_84 (v := 20) (by decide)) ?_
      have hf := Option.some.inj hf
      subst hf
      exact ⟨rs_iret i_X8_doublings_86 m_X8_doublings rfl, SH⟩
    · replace hf := (if_neg c1).symm.trans hf
      refine And.imp_left (rs_icF i_X8_doublings_47 (cf_ge c1)) ?_
      refine And.imp_left (rs_aload_n i_X8_doublings_50 rfl) ?_
      refine And.imp_left (rs_aload_n i_X8_doublings_51 rfl) ?_
      obtain ⟨o2, e2, hf⟩ := bind_some hf
      obtain ⟨u2, SH2⟩ := k_X8_allLength (X := X) (d := d) (by omega) (by omega) SH e2
      refine And.imp_left (rs_inV i_X8_doublings_52 m_X8_allLength rfl (As := []) (rest := [.ref 96]) rfl rfl (Nat.le_of_ble_eq_true rfl) (sO8 SH hh) u2 (st' := [.int o2.1, .ref 96]) rfl) ?_
      clear SH; have SH := SH2; clear SH2
      refine And.imp_left (rs_iload_n i_X8_doublings_55 rfl) ?_
      obtain ⟨o3, e3, hf⟩ := bind_some hf
      obtain ⟨u3, SH2⟩ := k_X8_draws (X := X) (d := d) (by omega) (by omega) SH e3
      refine And.imp_left (rs_inV i_X8_doublings_56 m_X8_draws rfl (As := [.int o2.1, .int v2]) (rest := []) rfl rfl (Nat.le_of_ble_eq_true rfl) (sO8 SH hh) u3 (st' := []) rfl) ?_
      clear SH; have SH := SH2; clear SH2
      refine And.imp_left (rs_aload_n i_X8_doublings_59 rfl) ?_
      obtain ⟨o4, e4, hf⟩ := bind_some hf
      obtain ⟨u4, SH2⟩ := k_X8_doubles (X := X) (d := d) (by omega) (by omega) SH e4
      refine And.imp_left (rs_inV i_X8_doublings_60 m_X8_doubles rfl (As := []) (rest := []) rfl rfl (Nat.le_of_ble_eq_true rfl) (sO8 SH hh) u4 (st' := []) rfl) ?_
      clear SH; have SH := SH2; clear SH2
      refine And.imp_left (rs_aload_n i_X8_doublings_63 rfl) ?_
      refine And.imp_left (rs_aload_n i_X8_doublings_64 rfl) ?_
      obtain ⟨o5, e5, hf⟩ := bind_some hf
      obtain ⟨u5, SH2⟩ := k_X8_least (X := X) (d := d) (by omega) (by omega) SH e5
      refine And.imp_left (rs_inV i_X8_doublings_65 m_X8_least rfl (As := []) (rest := [.ref 96]) rfl rfl (Nat.le_of_ble_eq_true rfl) (sO8 SH hh) u5 (st' := [.int o5.1, .ref 96]) rfl) ?_
      clear SH; have SH := SH2; clear SH2
      obtain ⟨o6, e6, hf⟩ := bind_some hf
      obtain ⟨u6, SH2⟩ := k_X8_thickOf (X := X) (d := d) (by omega) (by omega) SH e6
      refine And.imp_left (rs_inV i_X8_doublings_68 m_X8_thickOf rfl (As := [.int o5.1]) (rest := []) rfl rfl (Nat.le_of_ble_eq_true rfl) (sO8 SH hh) u6 (st' := [.int o6.1]) rfl) ?_
      clear SH; have SH := SH2; clear SH2
      refine And.imp_left (rs_iload_n i_X8_doublings_71 rfl) ?_
      by_cases c7 : v3 ≤ o6.1
      · replace hf := (if_pos c7).symm.trans hf
        refine And.imp_left (rs_icT i_X8_doublings_72 (ct_ge c7) (tg := 78) (by decide)) ?_
        refine And.imp_left (rs_iinc i_X8_doublings_78 rfl (v := v4 + 1) rfl (Nat.le_of_ble_eq_true rfl) (lv' := [some (.ref 96), some (.int d1), some (.int v2), some (.int v3), some (.int (v4 + 1))]) rfl) ?_
        refine And.imp_left (rs_goto i_X8_doublings_81 (tg := 43) (by decide)) ?_
        exact ih _ _ _ _ _ _ SH hf
      · replace hf := (if_neg c7).symm.trans hf
        refine And.imp_left (rs_icF i_X8_doublings_72 (cf_ge c7)) ?_
        refine And.imp_left (rs_iload i_X8_doublings_75 rfl) ?_
        have hf := Option.some.inj hf
        subst hf
        exact ⟨rs_iret i_X8_doublings_77 m_X8_doublings rfl, SH⟩
noncomputable def g_X8_doublings_0 (n : Nat) (v1 : Int32) (v2 : Int32) (v3 : Int32) (h : Hp) : Option (Int32 × Hp) :=
  (g_X8_areSteps v1 h).bind fun o1 =>
  if o1.1 ≠ 0 then
    (g_X8_in v2 1 9 o1.2).bind fun o3 =>
    if o3.1 = 0 then
      some ((-7), o3.2)
    else
      (g_X8_in v3 1 9999 o3.2).bind fun o5 =>
      if o5.1 ≠ 0 then
        (g_X8_goes n v1 o5.2).bind fun o7 =>
        g_X8_doublings_43 n n v2 v3 0 o7
      else
        some ((-7), o5.2)
  else
    some ((-5), o1.2)
set_option maxRecDepth 100000 in
set_option maxHeartbeats 4000000 in
theorem q_X8_doublings_0 {X : Nat → Int32} {d : Nat} (hd : 7 ≤ (d + 1)) {L hi : Nat} (hh : 125 ≤ hi) {n : Nat} {v1 : Int32} {v2 : Int32} {v3 : Int32} {h : Hp} {o : (Int32 × Hp)}  (SH : SHP L hi h) (hf : g_X8_doublings_0 n v1 v2 v3 h = some o) : Run X (d + 1) 184 0 [some (.ref 96), some (.int v1), some (.int v2), some (.int v3), none] [] h (some (.int o.1), o.2) ∧ SHP L hi o.2 := by
  unfold g_X8_doublings_0 at hf
  refine And.imp_left (rs_aload_n i_X8_doublings_0 rfl) ?_
  refine And.imp_left (rs_iload_n i_X8_doublings_1 rfl) ?_
  obtain ⟨o1, e1, hf⟩ := bind_some hf
  obtain ⟨u1, SH2⟩ := k_X8_areSteps (X := X) (d := d) (by omega) (by omega) SH e1
  refine And.imp_left (rs_inV i_X8_doublings_2 m_X8_areSteps rfl (As := [.int v1]) (rest := []) rfl rfl (Nat.le_of_ble_eq_true rfl) (sO8 SH hh) u1 (st' := [.int o1.1]) rfl) ?_
  clear SH; have SH := SH2; clear SH2
  by_cases c2 : o1.1 ≠ 0
  · replace hf := (if_pos c2).symm.trans hf
    refine And.imp_left (rs_ifT i_X8_doublings_5 (ct_ne c2) (tg := 11) (by decide)) ?_
    refine And.imp_left (rs_iload_n i_X8_doublings_11 rfl) ?_
    refine And.imp_left (rs_iconst i_X8_doublings_12 (v := 1) (by decide)) ?_
    refine And.imp_left (rs_bipush i_X8_doublings_13 (v := 9) (by decide)) ?_
    obtain ⟨o3, e3, hf⟩ := bind_some hf
    obtain ⟨u3, SH2⟩ := k_X8_in (X := X) (d := d) (by omega) (by omega) SH e3
    refine And.imp_left (rs_inS i_X8_doublings_15 (by decide) m_X8_in rfl (As := [.int v2, .int 1, .int 9]) (rest := []) rfl rfl (Nat.le_of_ble_eq_true rfl) u3 (st' := [.int o3.1]) rfl) ?_
    clear SH; have SH := SH2; clear SH2
    by_cases c4 : o3.1 = 0
    · replace hf := (if_pos c4).symm.trans hf
      refine And.imp_left (rs_ifT i_X8_doublings_18 (ct_eq c4) (tg := 32) (by decide)) ?_
      refine And.imp_left (rs_bipush i_X8_doublings_32 (v := (-7)) (by decide)) ?_
      have hf := Option.some.inj hf
      subst hf
      exact ⟨rs_iret i_X8_doublings_34 m_X8_doublings rfl, SH⟩
    · replace hf := (if_neg c4).symm.trans hf
      refine And.imp_left (rs_ifF i_X8_doublings_18 (cf_eq c4)) ?_
      refine And.imp_left (rs_iload_n i_X8_doublings_21 rfl) ?_
      refine And.imp_left (rs_iconst i_X8_doublings_22 (v := 1) (by decide)) ?_
      refine And.imp_left (rs_sipush i_X8_doublings_23 (v := 9999) (by decide)) ?_
      obtain ⟨o5, e5, hf⟩ := bind_some hf
      obtain ⟨u5, SH2⟩ := k_X8_in (X := X) (d := d) (by omega) (by omega) SH e5
      refine And.imp_left (rs_inS i_X8_doublings_26 (by decide) m_X8_in rfl (As := [.int v3, .int 1, .int 9999]) (rest := []) rfl rfl (Nat.le_of_ble_eq_true rfl) u5 (st' := [.int o5.1]) rfl) ?_
      clear SH; have SH := SH2; clear SH2
      by_cases c6 : o5.1 ≠ 0
      · replace hf := (if_pos c6).symm.trans hf
        refine And.imp_left (rs_ifT i_X8_doublings_29 (ct_ne c6) (tg := 35) (by decide)) ?_
        refine And.imp_left (rs_aload_n i_X8_doublings_35 rfl) ?_
        refine And.imp_left (rs_iload_n i_X8_doublings_36 rfl) ?_
        obtain ⟨o7, e7, hf⟩ := bind_some hf
        obtain ⟨u7, SH2⟩ := k_X8_goes (X := X) (d := d) (by omega) (by omega) SH e7
        refine And.imp_left (rs_inV i_X8_doublings_37 m_X8_goes rfl (As := [.int v1]) (rest := []) rfl rfl (Nat.le_of_ble_eq_true rfl) (sO8 SH hh) u7 (st' := []) rfl) ?_
        clear SH; have SH := SH2; clear SH2
        refine And.imp_left (rs_iconst i_X8_doublings_40 (v := 0) (by decide)) ?_
        refine And.imp_left (rs_istore i_X8_doublings_41 (Nat.le_of_ble_eq_true rfl) (lv' := [some (.ref 96), some (.int v1), some (.int v2), some (.int v3), some (.int 0)]) rfl) ?_
        exact q_X8_doublings_43 hd hh _ _ _ _ _ _ _ SH hf
      · replace hf := (if_neg c6).symm.trans hf
        refine And.imp_left (rs_ifF i_X8_doublings_29 (cf_ne c6)) ?_
        refine And.imp_left (rs_bipush i_X8_doublings_32 (v := (-7)) (by decide)) ?_
        have hf := Option.some.inj hf
        subst hf
        exact ⟨rs_iret i_X8_doublings_34 m_X8_doublings rfl, SH⟩
  · replace hf := (if_neg c2).symm.trans hf
    refine And.imp_left (rs_ifF i_X8_doublings_5 (cf_ne c2)) ?_
    refine And.imp_left (rs_bipush i_X8_doublings_8 (v := (-5)) (by decide)) ?_
    have hf := Option.some.inj hf
    subst hf
    exact ⟨rs_iret i_X8_doublings_10 m_X8_doublings rfl, SH⟩
noncomputable def g_X8_doublings (n : Nat) (v1 : Int32) (v2 : Int32) (v3 : Int32) (h : Hp) : Option (Int32 × Hp) := g_X8_doublings_0 n v1 v2 v3 h
theorem k_X8_doublings {X : Nat → Int32} {d : Nat} (hd : 7 ≤ d) {L hi : Nat} (hh : 125 ≤ hi) {n : Nat} {v1 : Int32} {v2 : Int32} {v3 : Int32} {h : Hp} {o : (Int32 × Hp)}  (SH : SHP L hi h) (hf : g_X8_doublings n v1 v2 v3 h = some o) : Calls X d 184 [.ref 96, .int v1, .int v2, .int v3] h (some (.int o.1), o.2) ∧ SHP L hi o.2 := by
  obtain ⟨d, rfl⟩ : ∃ z, d = z + 1 := ⟨d - 1, by omega⟩
  obtain ⟨r, S2⟩ := q_X8_doublings_0 hd hh SH hf
  exact ⟨⟨_, rfl, r⟩, S2⟩
noncomputable def g_X8_sheetWrong_0 (v1 : Int32) (h : Hp) : Option (Int32 × Hp) :=
  (g_X8_in v1 0 3 h).bind fun o1 =>
  if o1.1 ≠ 0 then
    if inb v1 4 = true then
    if (gI o1.2 107 (ix v1)) ≠ (-1) then
      if (gI o1.2 108 (ix v1)) ≠ 12 then
        some ((-2), o1.2)
      else
        some (0, o1.2)
    else
      some ((-11), o1.2)
    else none
  else
    some ((-2), o1.2)
set_option maxRecDepth 100000 in
set_option maxHeartbeats 4000000 in
theorem q_X8_sheetWrong_0 {X : Nat → Int32} {d : Nat} (hd : 1 ≤ (d + 1)) {L hi : Nat} (hh : 125 ≤ hi) {v1 : Int32} {h : Hp} {o : (Int32 × Hp)}  (SH : SHP L hi h) (hf : g_X8_sheetWrong_0 v1 h = some o) : Run X (d + 1) 185 0 [some (.ref 96), some (.int v1)] [] h (some (.int o.1), o.2) ∧ SHP L hi o.2 := by
  unfold g_X8_sheetWrong_0 at hf
  refine And.imp_left (rs_iload_n i_X8_sheetWrong_0 rfl) ?_
  refine And.imp_left (rs_iconst i_X8_sheetWrong_1 (v := 0) (by decide)) ?_
  refine And.imp_left (rs_iconst i_X8_sheetWrong_2 (v := 3) (by decide)) ?_
  obtain ⟨o1, e1, hf⟩ := bind_some hf
  obtain ⟨u1, SH2⟩ := k_X8_in (X := X) (d := d) (by omega) (by omega) SH e1
  refine And.imp_left (rs_inS i_X8_sheetWrong_3 (by decide) m_X8_in rfl (As := [.int v1, .int 0, .int 3]) (rest := []) rfl rfl (Nat.le_of_ble_eq_true rfl) u1 (st' := [.int o1.1]) rfl) ?_
  clear SH; have SH := SH2; clear SH2
  by_cases c2 : o1.1 ≠ 0
  · replace hf := (if_pos c2).symm.trans hf
    refine And.imp_left (rs_ifT i_X8_sheetWrong_6 (ct_ne c2) (tg := 12) (by decide)) ?_
    refine And.imp_left (rs_aload_n i_X8_sheetWrong_12 rfl) ?_
    refine And.imp_left (rs_getR i_X8_sheetWrong_13 (by decide) (by decide) (sO8 SH hh) (sR8_22 SH hh)) ?_
    refine And.imp_left (rs_iload_n i_X8_sheetWrong_16 rfl) ?_
    obtain ⟨c3, hf⟩ := ite_some hf
    refine And.imp_left (rs_iald i_X8_sheetWrong_17 (mkI (sA SH hh (k := 9) (n := 4) (by decide)) c3)) ?_
    refine And.imp_left (rs_iconst i_X8_sheetWrong_18 (v := (-1)) (by decide)) ?_
    by_cases c4 : (gI o1.2 107 (ix v1)) ≠ (-1)
    · replace hf := (if_pos c4).symm.trans hf
      refine And.imp_left (rs_icT i_X8_sheetWrong_19 (ct_ne c4) (tg := 25) (by decide)) ?_
      refine And.imp_left (rs_aload_n i_X8_sheetWrong_25 rfl) ?_
      refine And.imp_left (rs_getR i_X8_sheetWrong_26 (by decide) (by decide) (sO8 SH hh) (sR8_23 SH hh)) ?_
      refine And.imp_left (rs_iload_n i_X8_sheetWrong_29 rfl) ?_
      refine And.imp_left (rs_iald i_X8_sheetWrong_30 (mkI (sA SH hh (k := 9) (n := 4) (by decide)) c3)) ?_
      refine And.imp_left (rs_bipush i_X8_sheetWrong_31 (v := 12) (by decide)) ?_
      by_cases c5 : (gI o1.2 108 (ix v1)) ≠ 12
      · replace hf := (if_pos c5).symm.trans hf
        refine And.imp_left (rs_icT i_X8_sheetWrong_33 (ct_ne c5) (tg := 40) (by decide)) ?_
        refine And.imp_left (rs_bipush i_X8_sheetWrong_40 (v := (-2)) (by decide)) ?_
        have hf := Option.some.inj hf
        subst hf
        exact ⟨rs_iret i_X8_sheetWrong_42 m_X8_sheetWrong rfl, SH⟩
      · replace hf := (if_neg c5).symm.trans hf
        refine And.imp_left (rs_icF i_X8_sheetWrong_33 (cf_ne c5)) ?_
        refine And.imp_left (rs_iconst i_X8_sheetWrong_36 (v := 0) (by decide)) ?_
        refine And.imp_left (rs_goto i_X8_sheetWrong_37 (tg := 42) (by decide)) ?_
        have hf := Option.some.inj hf
        subst hf
        exact ⟨rs_iret i_X8_sheetWrong_42 m_X8_sheetWrong rfl, SH⟩
    · replace hf := (if_neg c4).symm.trans hf
      refine And.imp_left (rs_icF i_X8_sheetWrong_19 (cf_ne c4)) ?_
      refine And.imp_left (rs_bipush i_X8_sheetWrong_22 (v := (-11)) (by decide)) ?_
      have hf := Option.some.inj hf
      subst hf
      exact ⟨rs_iret i_X8_sheetWrong_24 m_X8_sheetWrong rfl, SH⟩
  · replace hf := (if_neg c2).symm.trans hf
    refine And.imp_left (rs_ifF i_X8_sheetWrong_6 (cf_ne c2)) ?_
    refine And.imp_left (rs_bipush i_X8_sheetWrong_9 (v := (-2)) (by decide)) ?_
    have hf := Option.some.inj hf
    subst hf
    exact ⟨rs_iret i_X8_sheetWrong_11 m_X8_sheetWrong rfl, SH⟩
noncomputable def g_X8_sheetWrong (v1 : Int32) (h : Hp) : Option (Int32 × Hp) := g_X8_sheetWrong_0 v1 h
theorem k_X8_sheetWrong {X : Nat → Int32} {d : Nat} (hd : 1 ≤ d) {L hi : Nat} (hh : 125 ≤ hi) {v1 : Int32} {h : Hp} {o : (Int32 × Hp)}  (SH : SHP L hi h) (hf : g_X8_sheetWrong v1 h = some o) : Calls X d 185 [.ref 96, .int v1] h (some (.int o.1), o.2) ∧ SHP L hi o.2 := by
  obtain ⟨d, rfl⟩ : ∃ z, d = z + 1 := ⟨d - 1, by omega⟩
  obtain ⟨r, S2⟩ := q_X8_sheetWrong_0 hd hh SH hf
  exact ⟨⟨_, rfl, r⟩, S2⟩
noncomputable def g_X8_offFrom_29 (n : Nat) (K2 : Int32 → Int32 → Int32 → Hp → Option (Int32 × Hp)) (v1 : Int32) (v2 : Int32) (v3 : Int32) (v4 : Int64) (h : Hp) : Option (Int32 × Hp) :=
  if (Int32.toInt64 v2) < v4 then
    some (v3, h)
  else
    if (-v4) ≤ (Int32.toInt64 v2) then
      K2 v1 v2 (v3 + 1) h
    else
      some (v3, h)
set_option maxRecDepth 100000 in
set_option maxHeartbeats 4000000 in
theorem q_X8_offFrom_29 {X : Nat → Int32} {d : Nat} (hd : 1 ≤ (d + 1)) {L hi : Nat} (hh : 125 ≤ hi) {n : Nat} {K2 : Int32 → Int32 → Int32 → Hp → Option (Int32 × Hp)} (HK2 : ∀ (v1 : Int32) (v2 : Int32) (v3 : Int32) (w4 : Option Value) (w5 : Option Value) (h : Hp) (o : (Int32 × Hp)), SHP L hi h → K2 v1 v2 v3 h = some o → Run X (d + 1) 186 2 [some (.ref 96), some (.int v1), some (.int v2), some (.int v3), w4, w5] [] h (some (.int o.1), o.2) ∧ SHP L hi o.2) {v1 : Int32} {v2 : Int32} {v3 : Int32} {v4 : Int64} {h : Hp} {o : (Int32 × Hp)}  (SH : SHP L hi h) (hf : g_X8_offFrom_29 n K2 v1 v2 v3 v4 h = some o) : Run X (d + 1) 186 29 [some (.ref 96), some (.int v1), some (.int v2), some (.int v3), some (.long v4), none] [] h (some (.int o.1), o.2) ∧ SHP L hi o.2 := by
  unfold g_X8_offFrom_29 at hf
  refine And.imp_left (rs_lload i_X8_offFrom_29 rfl) ?_
  refine And.imp_left (rs_iload_n i_X8_offFrom_31 rfl) ?_
  refine And.imp_left (rs_i2l i_X8_offFrom_32) ?_
  refine And.imp_left (rs_lcmp i_X8_offFrom_33) ?_
  by_cases c1 : (Int32.toInt64 v2) < v4
  · replace hf := (if_pos c1).symm.trans hf
    refine And.imp_left (rs_ifT i_X8_offFrom_34 (by rw [lc_gt]; exact decide_eq_true c1) (tg := 46) (by decide)) ?_
    refine And.imp_left (rs_iload_n i_X8_offFrom_46 rfl) ?_
    have hf := Option.some.inj hf
    subst hf
    exact ⟨rs_iret i_X8_offFrom_47 m_X8_offFrom rfl, SH⟩
  · replace hf := (if_neg c1).symm.trans hf
    refine And.imp_left (rs_ifF i_X8_offFrom_34 (by rw [lc_gt]; exact decide_eq_false c1)) ?_
    refine And.imp_left (rs_lload i_X8_offFrom_37 rfl) ?_
    refine And.imp_left (rs_lneg i_X8_offFrom_39) ?_
    refine And.imp_left (rs_iload_n i_X8_offFrom_40 rfl) ?_
    refine And.imp_left (rs_i2l i_X8_offFrom_41) ?_
    refine And.imp_left (rs_lcmp i_X8_offFrom_42) ?_
    by_cases c2 : (-v4) ≤ (Int32.toInt64 v2)
    · replace hf := (if_pos c2).symm.trans hf
      refine And.imp_left (rs_ifT i_X8_offFrom_43 (by rw [lc_le]; exact decide_eq_true c2) (tg := 48) (by decide)) ?_
      refine And.imp_left (rs_iinc i_X8_offFrom_48 rfl (v := v3 + 1) rfl (Nat.le_of_ble_eq_true rfl) (lv' := [some (.ref 96), some (.int v1), some (.int v2), some (.int (v3 + 1)), some (.long v4), none]) rfl) ?_
      refine And.imp_left (rs_goto i_X8_offFrom_51 (tg := 2) (by decide)) ?_
      exact HK2 _ _ _ _ _ _ _ SH hf
    · replace hf := (if_neg c2).symm.trans hf
      refine And.imp_left (rs_ifF i_X8_offFrom_43 (by rw [lc_le]; exact decide_eq_false c2)) ?_
      refine And.imp_left (rs_iload_n i_X8_offFrom_46 rfl) ?_
      have hf := Option.some.inj hf
      subst hf
      exact ⟨rs_iret i_X8_offFrom_47 m_X8_offFrom rfl, SH⟩
noncomputable def g_X8_offFrom_2 (n : Nat) : Nat → Int32 → Int32 → Int32 → Hp → Option (Int32 × Hp)
  | 0, _, _, _, _ => none
  | m + 1, v1, v2, v3, h =>
    if 12 ≤ v3 then
      some ((-1), h)
    else
      (g_X8_thickOf v3 h).bind fun o2 =>
      if inb ((40 * v1) + v3) 160 = true then
      g_X8_offFrom_29 n (g_X8_offFrom_2 n m) v1 v2 v3 ((Int32.toInt64 o2.1) - (Int32.toInt64 (gI o2.2 109 (ix ((40 * v1) + v3))))) o2.2
      else none
set_option maxRecDepth 100000 in
set_option maxHeartbeats 4000000 in
theorem q_X8_offFrom_2 {X : Nat → Int32} {d : Nat} (hd : 1 ≤ (d + 1)) {L hi : Nat} (hh : 125 ≤ hi) {n : Nat} : ∀ (m : Nat) (v1 : Int32) (v2 : Int32) (v3 : Int32) (w4 : Option Value) (w5 : Option Value) (h : Hp) (o : (Int32 × Hp)), SHP L hi h → g_X8_offFrom_2 n m v1 v2 v3 h = some o → Run X (d + 1) 186 2 [some (.ref 96), some (.int v1), some (.int v2), some (.int v3), w4, w5] [] h (some (.int o.1), o.2) ∧ SHP L hi o.2 := by
  intro m
  induction m with
  | zero => intro v1 v2 v3 w4 w5 h o SH hf; cases hf
  | succ m ih =>
    intro v1 v2 v3 w4 w5 h o SH hf
    rw [g_X8_offFrom_2] at hf
    refine And.imp_left (rs_iload_n i_X8_offFrom_2 rfl) ?_
    refine And.imp_left (rs_bipush i_X8_offFrom_3 (v := 12) (by decide)) ?_
    by_cases c1 : 12 ≤ v3
    · replace hf := (if_pos c1).symm.trans hf
      refine And.imp_left (rs_icT i_X8_offFrom_5 (ct_ge c1) (tg := 54) (by decide)) ?_
      refine And.imp_left (rs_iconst i_X8_offFrom_54 (v := (-1)) (by decide)) ?_
      have hf := Option.some.inj hf
      subst hf
      exact ⟨rs_iret i_X8_offFrom_55 m_X8_offFrom rfl, SH⟩
    · replace hf := (if_neg c1).symm.trans hf
      refine And.imp_left (rs_icF i_X8_offFrom_5 (cf_ge c1)) ?_
      refine And.imp_left (rs_aload_n i_X8_offFrom_8 rfl) ?_
      refine And.imp_left (rs_iload_n i_X8_offFrom_9 rfl) ?_
      obtain ⟨o2, e2, hf⟩ := bind_some hf
      obtain ⟨u2, SH2⟩ := k_X8_thickOf (X := X) (d := d) (by omega) (by omega) SH e2
      refine And.imp_left (rs_inV i_X8_offFrom_10 m_X8_thickOf rfl (As := [.int v3]) (rest := []) rfl rfl (Nat.le_of_ble_eq_true rfl) (sO8 SH hh) u2 (st' := [.int o2.1]) rfl) ?_
      clear SH; have SH := SH2; clear SH2
      refine And.imp_left (rs_i2l i_X8_offFrom_13) ?_
      refine And.imp_left (rs_aload_n i_X8_offFrom_14 rfl) ?_
      refine And.imp_left (rs_getR i_X8_offFrom_15 (by decide) (by decide) (sO8 SH hh) (sR8_24 SH hh)) ?_
      refine And.imp_left (rs_bipush i_X8_offFrom_18 (v := 40) (by decide)) ?_
      refine And.imp_left (rs_iload_n i_X8_offFrom_20 rfl) ?_
      refine And.imp_left (rs_imul i_X8_offFrom_21) ?_
      refine And.imp_left (rs_iload_n i_X8_offFrom_22 rfl) ?_
      refine And.imp_left (rs_iadd i_X8_offFrom_23) ?_
      obtain ⟨c3, hf⟩ := ite_some hf
      refine And.imp_left (rs_iald i_X8_offFrom_24 (mkI (sA SH hh (k := 9) (n := 160) (by decide)) c3)) ?_
      refine And.imp_left (rs_i2l i_X8_offFrom_25) ?_
      refine And.imp_left (rs_lsub i_X8_offFrom_26) ?_
      refine And.imp_left (rs_lstore i_X8_offFrom_27 (Nat.le_of_ble_eq_true rfl) (lv' := [some (.ref 96), some (.int v1), some (.int v2), some (.int v3), some (.long ((Int32.toInt64 o2.1) - (Int32.toInt64 (gI o2.2 109 (ix ((40 * v1) + v3)))))), none]) rfl) ?_
      exact q_X8_offFrom_29 hd hh ih SH hf
noncomputable def g_X8_offFrom_0 (n : Nat) (v1 : Int32) (v2 : Int32) (h : Hp) : Option (Int32 × Hp) :=
  g_X8_offFrom_2 n n v1 v2 0 h
set_option maxRecDepth 100000 in
set_option maxHeartbeats 4000000 in
theorem q_X8_offFrom_0 {X : Nat → Int32} {d : Nat} (hd : 1 ≤ (d + 1)) {L hi : Nat} (hh : 125 ≤ hi) {n : Nat} {v1 : Int32} {v2 : Int32} {h : Hp} {o : (Int32 × Hp)}  (SH : SHP L hi h) (hf : g_X8_offFrom_0 n v1 v2 h = some o) : Run X (d + 1) 186 0 [some (.ref 96), some (.int v1), some (.int v2), none, none, none] [] h (some (.int o.1), o.2) ∧ SHP L hi o.2 := by
  unfold g_X8_offFrom_0 at hf
  refine And.imp_left (rs_iconst i_X8_offFrom_0 (v := 0) (by decide)) ?_
  refine And.imp_left (rs_istore_n i_X8_offFrom_1 (Nat.le_of_ble_eq_true rfl) (lv' := [some (.ref 96), some (.int v1), some (.int v2), some (.int 0), none, none]) rfl) ?_
  exact q_X8_offFrom_2 hd hh _ _ _ _ _ _ _ _ SH hf
noncomputable def g_X8_offFrom (n : Nat) (v1 : Int32) (v2 : Int32) (h : Hp) : Option (Int32 × Hp) := g_X8_offFrom_0 n v1 v2 h
theorem k_X8_offFrom {X : Nat → Int32} {d : Nat} (hd : 1 ≤ d) {L hi : Nat} (hh : 125 ≤ hi) {n : Nat} {v1 : Int32} {v2 : Int32} {h : Hp} {o : (Int32 × Hp)}  (SH : SHP L hi h) (hf : g_X8_offFrom n v1 v2 h = some o) : Calls X d 186 [.ref 96, .int v1, .int v2] h (some (.int o.1), o.2) ∧ SHP L hi o.2 := by
  obtain ⟨d, rfl⟩ : ∃ z, d = z + 1 := ⟨d - 1, by omega⟩
  obtain ⟨r, S2⟩ := q_X8_offFrom_0 hd hh SH hf
  exact ⟨⟨_, rfl, r⟩, S2⟩
noncomputable def g_X8_judge_0 (n : Nat) (v1 : Int32) (v2 : Int32) (v3 : Int32) (h : Hp) : Option (Int32 × Hp) :=
  (g_X8_areSteps v1 h).bind fun o1 =>
  if o1.1 ≠ 0 then
    (g_X8_sheetWrong v2 o1.2).bind fun o3 =>
    if o3.1 = 0 then
      (g_X8_in v3 0 9999 o3.2).bind fun o5 =>
      if o5.1 ≠ 0 then
        (g_X8_goes n v1 o5.2).bind fun o7 =>
        (g_X8_offFrom n v2 v3 o7).bind fun o8 =>
        some (o8.1, o8.2)
      else
        some ((-7), o5.2)
    else
      some (o3.1, o3.2)
  else
    some ((-5), o1.2)
set_option maxRecDepth 100000 in
set_option maxHeartbeats 4000000 in
theorem q_X8_judge_0 {X : Nat → Int32} {d : Nat} (hd : 7 ≤ (d + 1)) {L hi : Nat} (hh : 125 ≤ hi) {n : Nat} {v1 : Int32} {v2 : Int32} {v3 : Int32} {h : Hp} {o : (Int32 × Hp)}  (SH : SHP L hi h) (hf : g_X8_judge_0 n v1 v2 v3 h = some o) : Run X (d + 1) 187 0 [some (.ref 96), some (.int v1), some (.int v2), some (.int v3), none] [] h (some (.int o.1), o.2) ∧ SHP L hi o.2 := by
  unfold g_X8_judge_0 at hf
  refine And.imp_left (rs_aload_n i_X8_judge_0 rfl) ?_
  refine And.imp_left (rs_iload_n i_X8_judge_1 rfl) ?_
  obtain ⟨o1, e1, hf⟩ := bind_some hf
  obtain ⟨u1, SH2⟩ := k_X8_areSteps (X := X) (d := d) (by omega) (by omega) SH e1
  refine And.imp_left (rs_inV i_X8_judge_2 m_X8_areSteps rfl (As := [.int v1]) (rest := []) rfl rfl (Nat.le_of_ble_eq_true rfl) (sO8 SH hh) u1 (st' := [.int o1.1]) rfl) ?_
  clear SH; have SH := SH2; clear SH2
  by_cases c2 : o1.1 ≠ 0
  · replace hf := (if_pos c2).symm.trans hf
    refine And.imp_left (rs_ifT i_X8_judge_5 (ct_ne c2) (tg := 11) (by decide)) ?_
    refine And.imp_left (rs_aload_n i_X8_judge_11 rfl) ?_
    refine And.imp_left (rs_iload_n i_X8_judge_12 rfl) ?_
    obtain ⟨o3, e3, hf⟩ := bind_some hf
    obtain ⟨u3, SH2⟩ := k_X8_sheetWrong (X := X) (d := d) (by omega) (by omega) SH e3
    refine And.imp_left (rs_inV i_X8_judge_13 m_X8_sheetWrong rfl (As := [.int v2]) (rest := []) rfl rfl (Nat.le_of_ble_eq_true rfl) (sO8 SH hh) u3 (st' := [.int o3.1]) rfl) ?_
    clear SH; have SH := SH2; clear SH2
    refine And.imp_left (rs_istore i_X8_judge_16 (Nat.le_of_ble_eq_true rfl) (lv' := [some (.ref 96), some (.int v1), some (.int v2), some (.int v3), some (.int o3.1)]) rfl) ?_
    refine And.imp_left (rs_iload i_X8_judge_18 rfl) ?_
    by_cases c4 : o3.1 = 0
    · replace hf := (if_pos c4).symm.trans hf
      refine And.imp_left (rs_ifT i_X8_judge_20 (ct_eq c4) (tg := 26) (by decide)) ?_
      refine And.imp_left (rs_iload_n i_X8_judge_26 rfl) ?_
      refine And.imp_left (rs_iconst i_X8_judge_27 (v := 0) (by decide)) ?_
      refine And.imp_left (rs_sipush i_X8_judge_28 (v := 9999) (by decide)) ?_
      obtain ⟨o5, e5, hf⟩ := bind_some hf
      obtain ⟨u5, SH2⟩ := k_X8_in (X := X) (d := d) (by omega) (by omega) SH e5
      refine And.imp_left (rs_inS i_X8_judge_31 (by decide) m_X8_in rfl (As := [.int v3, .int 0, .int 9999]) (rest := []) rfl rfl (Nat.le_of_ble_eq_true rfl) u5 (st' := [.int o5.1]) rfl) ?_
      clear SH; have SH := SH2; clear SH2
      by_cases c6 : o5.1 ≠ 0
      · replace hf := (if_pos c6).symm.trans hf
        refine And.imp_left (rs_ifT i_X8_judge_34 (ct_ne c6) (tg := 40) (by decide)) ?_
        refine And.imp_left (rs_aload_n i_X8_judge_40 rfl) ?_
        refine And.imp_left (rs_iload_n i_X8_judge_41 rfl) ?_
        obtain ⟨o7, e7, hf⟩ := bind_some hf
        obtain ⟨u7, SH2⟩ := k_X8_goes (X := X) (d := d) (by omega) (by omega) SH e7
        refine And.imp_left (rs_inV i_X8_judge_42 m_X8_goes rfl (As := [.int v1]) (rest := []) rfl rfl (Nat.le_of_ble_eq_true rfl) (sO8 SH hh) u7 (st' := []) rfl) ?_
        clear SH; have SH := SH2; clear SH2
        refine And.imp_left (rs_aload_n i_X8_judge_45 rfl) ?_
        refine And.imp_left (rs_iload_n i_X8_judge_46 rfl) ?_
        refine And.imp_left (rs_iload_n i_X8_judge_47 rfl) ?_
        obtain ⟨o8, e8, hf⟩ := bind_some hf
        obtain ⟨u8, SH2⟩ := k_X8_offFrom (X := X) (d := d) (by omega) (by omega) SH e8
        refine And.imp_left (rs_inV i_X8_judge_48 m_X8_offFrom rfl (As := [.int v2, .int v3]) (rest := []) rfl rfl (Nat.le_of_ble_eq_true rfl) (sO8 SH hh) u8 (st' := [.int o8.1]) rfl) ?_
        clear SH; have SH := SH2; clear SH2
        have hf := Option.some.inj hf
        subst hf
        exact ⟨rs_iret i_X8_judge_51 m_X8_judge rfl, SH⟩
      · replace hf := (if_neg c6).symm.trans hf
        refine And.imp_left (rs_ifF i_X8_judge_34 (cf_ne c6)) ?_
        refine And.imp_left (rs_bipush i_X8_judge_37 (v := (-7)) (by decide)) ?_
        have hf := Option.some.inj hf
        subst hf
        exact ⟨rs_iret i_X8_judge_39 m_X8_judge rfl, SH⟩
    · replace hf := (if_neg c4).symm.trans hf
      refine And.imp_left (rs_ifF i_X8_judge_20 (cf_eq c4)) ?_
      refine And.imp_left (rs_iload i_X8_judge_23 rfl) ?_
      have hf := Option.some.inj hf
      subst hf
      exact ⟨rs_iret i_X8_judge_25 m_X8_judge rfl, SH⟩
  · replace hf := (if_neg c2).symm.trans hf
    refine And.imp_left (rs_ifF i_X8_judge_5 (cf_ne c2)) ?_
    refine And.imp_left (rs_bipush i_X8_judge_8 (v := (-5)) (by decide)) ?_
    have hf := Option.some.inj hf
    subst hf
    exact ⟨rs_iret i_X8_judge_10 m_X8_judge rfl, SH⟩
noncomputable def g_X8_judge (n : Nat) (v1 : Int32) (v2 : Int32) (v3 : Int32) (h : Hp) : Option (Int32 × Hp) := g_X8_judge_0 n v1 v2 v3 h
theorem k_X8_judge {X : Nat → Int32} {d : Nat} (hd : 7 ≤ d) {L hi : Nat} (hh : 125 ≤ hi) {n : Nat} {v1 : Int32} {v2 : Int32} {v3 : Int32} {h : Hp} {o : (Int32 × Hp)}  (SH : SHP L hi h) (hf : g_X8_judge n v1 v2 v3 h = some o) : Calls X d 187 [.ref 96, .int v1, .int v2, .int v3] h (some (.int o.1), o.2) ∧ SHP L hi o.2 := by
  obtain ⟨d, rfl⟩ : ∃ z, d = z + 1 := ⟨d - 1, by omega⟩
  obtain ⟨r, S2⟩ := q_X8_judge_0 hd hh SH hf
  exact ⟨⟨_, rfl, r⟩, S2⟩
noncomputable def g_X8_film_76 (n : Nat) (K45 : Int32 → Int32 → Hp → Option (Int32 × Hp)) (v2 : Int32) (v3 : Int32) (s0 : Nat) (s1 : Int32) (s2 : Int32) (h : Hp) : Option (Int32 × Hp) :=
  if inb s1 160 = true then
  K45 v2 (v3 + 1) (hsi h s0 (ix s1) s2)
  else none
set_option maxRecDepth 100000 in
set_option maxHeartbeats 4000000 in
theorem q_X8_film_76 {X : Nat → Int32} {d : Nat} (hd : 7 ≤ (d + 1)) {L hi : Nat} (hh : 125 ≤ hi) {n : Nat} {K45 : Int32 → Int32 → Hp → Option (Int32 × Hp)} (HK45 : ∀ (v2 : Int32) (v3 : Int32) (d1 : Int32) (h : Hp) (o : (Int32 × Hp)), SHP L hi h → K45 v2 v3 h = some o → Run X (d + 1) 188 45 [some (.ref 96), some (.int d1), some (.int v2), some (.int v3)] [] h (some (.int o.1), o.2) ∧ SHP L hi o.2) {v2 : Int32} {v3 : Int32} {s0 : Nat} {s1 : Int32} {s2 : Int32} {d1 : Int32} {h : Hp} {o : (Int32 × Hp)} (hs0 : ARY 125 s0 9 160) (SH : SHP L hi h) (hf : g_X8_film_76 n K45 v2 v3 s0 s1 s2 h = some o) : Run X (d + 1) 188 76 [some (.ref 96), some (.int d1), some (.int v2), some (.int v3)] [.int s2, .int s1, .ref s0] h (some (.int o.1), o.2) ∧ SHP L hi o.2 := by
  unfold g_X8_film_76 at hf
  obtain ⟨c1, hf⟩ := ite_some hf
  refine And.imp_left (rs_iast i_X8_film_76 (mkI (sA SH hh (k := 9) (n := 160) hs0) c1)) ?_
  have SH := shi SH s0 (ix s1) s2
  refine And.imp_left (rs_iinc i_X8_film_77 rfl (v := v3 + 1) rfl (Nat.le_of_ble_eq_true rfl) (lv' := [some (.ref 96), some (.int d1), some (.int v2), some (.int (v3 + 1))]) rfl) ?_
  refine And.imp_left (rs_goto i_X8_film_80 (tg := 45) (by decide)) ?_
  exact HK45 _ _ _ _ _ SH hf
noncomputable def g_X8_film_45 (n : Nat) : Nat → Int32 → Int32 → Hp → Option (Int32 × Hp)
  | 0, _, _, _ => none
  | m + 1, v2, v3, h =>
    if 40 ≤ v3 then
      some (12, h)
    else
      if 12 ≤ v3 then
        g_X8_film_76 n (g_X8_film_45 n m) v2 v3 109 ((40 * v2) + v3) 0 h
      else
        (g_X8_thickOf v3 h).bind fun o3 =>
        g_X8_film_76 n (g_X8_film_45 n m) v2 v3 109 ((40 * v2) + v3) o3.1 o3.2
set_option maxRecDepth 100000 in
set_option maxHeartbeats 4000000 in
theorem q_X8_film_45 {X : Nat → Int32} {d : Nat} (hd : 7 ≤ (d + 1)) {L hi : Nat} (hh : 125 ≤ hi) {n : Nat} : ∀ (m : Nat) (v2 : Int32) (v3 : Int32) (d1 : Int32) (h : Hp) (o : (Int32 × Hp)), SHP L hi h → g_X8_film_45 n m v2 v3 h = some o → Run X (d + 1) 188 45 [some (.ref 96), some (.int d1), some (.int v2), some (.int v3)] [] h (some (.int o.1), o.2) ∧ SHP L hi o.2 := by
  intro m
  induction m with
  | zero => intro v2 v3 d1 h o SH hf; cases hf
  | succ m ih =>
    intro v2 v3 d1 h o SH hf
    rw [g_X8_film_45] at hf
    refine And.imp_left (rs_iload_n i_X8_film_45 rfl) ?_
    refine And.imp_left (rs_bipush i_X8_film_46 (v := 40) (by decide)) ?_
    by_cases c1 : 40 ≤ v3
    · replace hf := (if_pos c1).symm.trans hf
      refine And.imp_left (rs_icT i_X8_film_48 (ct_ge c1) (tg := 83) (by decide)) ?_
      refine And.imp_left (rs_bipush i_X8_film_83 (v := 12) (by decide)) ?_
      have hf := Option.some.inj hf
      subst hf
      exact ⟨rs_iret i_X8_film_85 m_X8_film rfl, SH⟩
    · replace hf := (if_neg c1).symm.trans hf
      refine And.imp_left (rs_icF i_X8_film_48 (cf_ge c1)) ?_
      refine And.imp_left (rs_aload_n i_X8_film_51 rfl) ?_
      refine And.imp_left (rs_getR i_X8_film_52 (by decide) (by decide) (sO8 SH hh) (sR8_24 SH hh)) ?_
      refine And.imp_left (rs_bipush i_X8_film_55 (v := 40) (by decide)) ?_
      refine And.imp_left (rs_iload_n i_X8_film_57 rfl) ?_
      refine And.imp_left (rs_imul i_X8_film_58) ?_
      refine And.imp_left (rs_iload_n i_X8_film_59 rfl) ?_
      refine And.imp_left (rs_iadd i_X8_film_60) ?_
      refine And.imp_left (rs_iload_n i_X8_film_61 rfl) ?_
      refine And.imp_left (rs_bipush i_X8_film_62 (v := 12) (by decide)) ?_
      by_cases c2 : 12 ≤ v3
      · replace hf := (if_pos c2).symm.trans hf
        refine And.imp_left (rs_icT i_X8_film_64 (ct_ge c2) (tg := 75) (by decide)) ?_
        refine And.imp_left (rs_iconst i_X8_film_75 (v := 0) (by decide)) ?_
        exact q_X8_film_76 hd hh ih (by decide) SH hf
      · replace hf := (if_neg c2).symm.trans hf
        refine And.imp_left (rs_icF i_X8_film_64 (cf_ge c2)) ?_
        refine And.imp_left (rs_aload_n i_X8_film_67 rfl) ?_
        refine And.imp_left (rs_iload_n i_X8_film_68 rfl) ?_
        obtain ⟨o3, e3, hf⟩ := bind_some hf
        obtain ⟨u3, SH2⟩ := k_X8_thickOf (X := X) (d := d) (by omega) (by omega) SH e3
        refine And.imp_left (rs_inV i_X8_film_69 m_X8_thickOf rfl (As := [.int v3]) (rest := [.int ((40 * v2) + v3), .ref 109]) rfl rfl (Nat.le_of_ble_eq_true rfl) (sO8 SH hh) u3 (st' := [.int o3.1, .int ((40 * v2) + v3), .ref 109]) rfl) ?_
        clear SH; have SH := SH2; clear SH2
        refine And.imp_left (rs_goto i_X8_film_72 (tg := 76) (by decide)) ?_
        exact q_X8_film_76 hd hh ih (by decide) SH hf
noncomputable def g_X8_film_35 (n : Nat) (v2 : Int32) (h : Hp) : Option (Int32 × Hp) :=
  if inb v2 4 = true then
  g_X8_film_45 n n v2 0 (hsi h 108 (ix v2) 12)
  else none
set_option maxRecDepth 100000 in
set_option maxHeartbeats 4000000 in
theorem q_X8_film_35 {X : Nat → Int32} {d : Nat} (hd : 7 ≤ (d + 1)) {L hi : Nat} (hh : 125 ≤ hi) {n : Nat} {v2 : Int32} {d1 : Int32} {h : Hp} {o : (Int32 × Hp)}  (SH : SHP L hi h) (hf : g_X8_film_35 n v2 h = some o) : Run X (d + 1) 188 35 [some (.ref 96), some (.int d1), some (.int v2), none] [] h (some (.int o.1), o.2) ∧ SHP L hi o.2 := by
  unfold g_X8_film_35 at hf
  refine And.imp_left (rs_aload_n i_X8_film_35 rfl) ?_
  refine And.imp_left (rs_getR i_X8_film_36 (by decide) (by decide) (sO8 SH hh) (sR8_23 SH hh)) ?_
  refine And.imp_left (rs_iload_n i_X8_film_39 rfl) ?_
  refine And.imp_left (rs_bipush i_X8_film_40 (v := 12) (by decide)) ?_
  obtain ⟨c1, hf⟩ := ite_some hf
  refine And.imp_left (rs_iast i_X8_film_42 (mkI (sA SH hh (k := 9) (n := 4) (by decide)) c1)) ?_
  have SH := shi SH 108 (ix v2) 12
  refine And.imp_left (rs_iconst i_X8_film_43 (v := 0) (by decide)) ?_
  refine And.imp_left (rs_istore_n i_X8_film_44 (Nat.le_of_ble_eq_true rfl) (lv' := [some (.ref 96), some (.int d1), some (.int v2), some (.int 0)]) rfl) ?_
  exact q_X8_film_45 hd hh _ _ _ _ _ _ SH hf
noncomputable def g_X8_film_0 (n : Nat) (v1 : Int32) (v2 : Int32) (h : Hp) : Option (Int32 × Hp) :=
  (g_X8_areSteps v1 h).bind fun o1 =>
  if o1.1 ≠ 0 then
    (g_X8_in v2 0 3 o1.2).bind fun o3 =>
    if o3.1 ≠ 0 then
      (g_X8_goes n v1 o3.2).bind fun o5 =>
      if inb v2 4 = true then
      g_X8_film_35 n v2 (hsi o5 107 (ix v2) 2)
      else none
    else
      some ((-2), o3.2)
  else
    some ((-5), o1.2)
set_option maxRecDepth 100000 in
set_option maxHeartbeats 4000000 in
theorem q_X8_film_0 {X : Nat → Int32} {d : Nat} (hd : 7 ≤ (d + 1)) {L hi : Nat} (hh : 125 ≤ hi) {n : Nat} {v1 : Int32} {v2 : Int32} {h : Hp} {o : (Int32 × Hp)}  (SH : SHP L hi h) (hf : g_X8_film_0 n v1 v2 h = some o) : Run X (d + 1) 188 0 [some (.ref 96), some (.int v1), some (.int v2), none] [] h (some (.int o.1), o.2) ∧ SHP L hi o.2 := by
  unfold g_X8_film_0 at hf
  refine And.imp_left (rs_aload_n i_X8_film_0 rfl) ?_
  refine And.imp_left (rs_iload_n i_X8_film_1 rfl) ?_
  obtain ⟨o1, e1, hf⟩ := bind_some hf
  obtain ⟨u1, SH2⟩ := k_X8_areSteps (X := X) (d := d) (by omega) (by omega) SH e1
  refine And.imp_left (rs_inV i_X8_film_2 m_X8_areSteps rfl (As := [.int v1]) (rest := []) rfl rfl (Nat.le_of_ble_eq_true rfl) (sO8 SH hh) u1 (st' := [.int o1.1]) rfl) ?_
  clear SH; have SH := SH2; clear SH2
  by_cases c2 : o1.1 ≠ 0
  · replace hf := (if_pos c2).symm.trans hf
    refine And.imp_left (rs_ifT i_X8_film_5 (ct_ne c2) (tg := 11) (by decide)) ?_
    refine And.imp_left (rs_iload_n i_X8_film_11 rfl) ?_
    refine And.imp_left (rs_iconst i_X8_film_12 (v := 0) (by decide)) ?_
    refine And.imp_left (rs_iconst i_X8_film_13 (v := 3) (by decide)) ?_
    obtain ⟨o3, e3, hf⟩ := bind_some hf
    obtain ⟨u3, SH2⟩ := k_X8_in (X := X) (d := d) (by omega) (by omega) SH e3
    refine And.imp_left (rs_inS i_X8_film_14 (by decide) m_X8_in rfl (As := [.int v2, .int 0, .int 3]) (rest := []) rfl rfl (Nat.le_of_ble_eq_true rfl) u3 (st' := [.int o3.1]) rfl) ?_
    clear SH; have SH := SH2; clear SH2
    by_cases c4 : o3.1 ≠ 0
    · replace hf := (if_pos c4).symm.trans hf
      refine And.imp_left (rs_ifT i_X8_film_17 (ct_ne c4) (tg := 23) (by decide)) ?_
      refine And.imp_left (rs_aload_n i_X8_film_23 rfl) ?_
      refine And.imp_left (rs_iload_n i_X8_film_24 rfl) ?_
      obtain ⟨o5, e5, hf⟩ := bind_some hf
      obtain ⟨u5, SH2⟩ := k_X8_goes (X := X) (d := d) (by omega) (by omega) SH e5
      refine And.imp_left (rs_inV i_X8_film_25 m_X8_goes rfl (As := [.int v1]) (rest := []) rfl rfl (Nat.le_of_ble_eq_true rfl) (sO8 SH hh) u5 (st' := []) rfl) ?_
      clear SH; have SH := SH2; clear SH2
      refine And.imp_left (rs_aload_n i_X8_film_28 rfl) ?_
      refine And.imp_left (rs_getR i_X8_film_29 (by decide) (by decide) (sO8 SH hh) (sR8_22 SH hh)) ?_
      refine And.imp_left (rs_iload_n i_X8_film_32 rfl) ?_
      refine And.imp_left (rs_iconst i_X8_film_33 (v := 2) (by decide)) ?_
      obtain ⟨c6, hf⟩ := ite_some hf
      refine And.imp_left (rs_iast i_X8_film_34 (mkI (sA SH hh (k := 9) (n := 4) (by decide)) c6)) ?_
      have SH := shi SH 107 (ix v2) 2
      exact q_X8_film_35 hd hh SH hf
    · replace hf := (if_neg c4).symm.trans hf
      refine And.imp_left (rs_ifF i_X8_film_17 (cf_ne c4)) ?_
      refine And.imp_left (rs_bipush i_X8_film_20 (v := (-2)) (by decide)) ?_
      have hf := Option.some.inj hf
      subst hf
      exact ⟨rs_iret i_X8_film_22 m_X8_film rfl, SH⟩
  · replace hf := (if_neg c2).symm.trans hf
    refine And.imp_left (rs_ifF i_X8_film_5 (cf_ne c2)) ?_
    refine And.imp_left (rs_bipush i_X8_film_8 (v := (-5)) (by decide)) ?_
    have hf := Option.some.inj hf
    subst hf
    exact ⟨rs_iret i_X8_film_10 m_X8_film rfl, SH⟩
noncomputable def g_X8_film (n : Nat) (v1 : Int32) (v2 : Int32) (h : Hp) : Option (Int32 × Hp) := g_X8_film_0 n v1 v2 h
theorem k_X8_film {X : Nat → Int32} {d : Nat} (hd : 7 ≤ d) {L hi : Nat} (hh : 125 ≤ hi) {n : Nat} {v1 : Int32} {v2 : Int32} {h : Hp} {o : (Int32 × Hp)}  (SH : SHP L hi h) (hf : g_X8_film n v1 v2 h = some o) : Calls X d 188 [.ref 96, .int v1, .int v2] h (some (.int o.1), o.2) ∧ SHP L hi o.2 := by
  obtain ⟨d, rfl⟩ : ∃ z, d = z + 1 := ⟨d - 1, by omega⟩
  obtain ⟨r, S2⟩ := q_X8_film_0 hd hh SH hf
  exact ⟨⟨_, rfl, r⟩, S2⟩
noncomputable def g_X8_serves_90 (n : Nat) (K51 : Int32 → Int32 → Int32 → Int32 → Int32 → Int32 → Hp → Option (Int32 × Hp)) (v1 : Int32) (v2 : Int32) (v3 : Int32) (v5 : Int32) (v7 : Int32) (s0 : Int32) (s1 : Int32) (h : Hp) : Option (Int32 × Hp) :=
  K51 v1 v2 v3 v5 (s0 ||| s1) (v7 + 1) h
set_option maxRecDepth 100000 in
set_option maxHeartbeats 4000000 in
theorem q_X8_serves_90 {X : Nat → Int32} {d : Nat} (hd : 7 ≤ (d + 1)) {L hi : Nat} (hh : 125 ≤ hi) {n : Nat} {K51 : Int32 → Int32 → Int32 → Int32 → Int32 → Int32 → Hp → Option (Int32 × Hp)} (HK51 : ∀ (v1 : Int32) (v2 : Int32) (v3 : Int32) (v5 : Int32) (v6 : Int32) (v7 : Int32) (d4 : Int32) (h : Hp) (o : (Int32 × Hp)), SHP L hi h → K51 v1 v2 v3 v5 v6 v7 h = some o → Run X (d + 1) 189 51 [some (.ref 96), some (.int v1), some (.int v2), some (.int v3), some (.int d4), some (.int v5), some (.int v6), some (.int v7)] [] h (some (.int o.1), o.2) ∧ SHP L hi o.2) {v1 : Int32} {v2 : Int32} {v3 : Int32} {v5 : Int32} {v7 : Int32} {s0 : Int32} {s1 : Int32} {d4 : Int32} {d6 : Int32} {h : Hp} {o : (Int32 × Hp)}  (SH : SHP L hi h) (hf : g_X8_serves_90 n K51 v1 v2 v3 v5 v7 s0 s1 h = some o) : Run X (d + 1) 189 90 [some (.ref 96), some (.int v1), some (.int v2), some (.int v3), some (.int d4), some (.int v5), some (.int d6), some (.int v7)] [.int s1, .int s0] h (some (.int o.1), o.2) ∧ SHP L hi o.2 := by
  unfold g_X8_serves_90 at hf
  refine And.imp_left (rs_ior i_X8_serves_90) ?_
  refine And.imp_left (rs_istore i_X8_serves_91 (Nat.le_of_ble_eq_true rfl) (lv' := [some (.ref 96), some (.int v1), some (.int v2), some (.int v3), some (.int d4), some (.int v5), some (.int (s0 ||| s1)), some (.int v7)]) rfl) ?_
  refine And.imp_left (rs_iinc i_X8_serves_93 rfl (v := v7 + 1) rfl (Nat.le_of_ble_eq_true rfl) (lv' := [some (.ref 96), some (.int v1), some (.int v2), some (.int v3), some (.int d4), some (.int v5), some (.int (s0 ||| s1)), some (.int (v7 + 1))]) rfl) ?_
  refine And.imp_left (rs_goto i_X8_serves_96 (tg := 51) (by decide)) ?_
  exact HK51 _ _ _ _ _ _ _ _ _ SH hf
noncomputable def g_X8_serves_51 (n : Nat) : Nat → Int32 → Int32 → Int32 → Int32 → Int32 → Int32 → Hp → Option (Int32 × Hp)
  | 0, _, _, _, _, _, _, _ => none
  | m + 1, v1, v2, v3, v5, v6, v7, h =>
    if 9 < v7 then
      (g_X8_holds0 v3 v5 h).bind fun o2 =>
      some (v6, o2)
    else
      (g_X8_holds0 v3 v7 h).bind fun o3 =>
      (g_X8_goes n v1 o3).bind fun o4 =>
      (g_X8_offFrom n v2 0 o4).bind fun o5 =>
      if o5.1 ≠ (-1) then
        g_X8_serves_90 n (g_X8_serves_51 n m) v1 v2 v3 v5 v7 v6 0 o5.2
      else
        g_X8_serves_90 n (g_X8_serves_51 n m) v1 v2 v3 v5 v7 v6 (1 <<< (v7 &&& 31)) o5.2
set_option maxRecDepth 100000 in
set_option maxHeartbeats 4000000 in
theorem q_X8_serves_51 {X : Nat → Int32} {d : Nat} (hd : 7 ≤ (d + 1)) {L hi : Nat} (hh : 125 ≤ hi) {n : Nat} : ∀ (m : Nat) (v1 : Int32) (v2 : Int32) (v3 : Int32) (v5 : Int32) (v6 : Int32) (v7 : Int32) (d4 : Int32) (h : Hp) (o : (Int32 × Hp)), SHP L hi h → g_X8_serves_51 n m v1 v2 v3 v5 v6 v7 h = some o → Run X (d + 1) 189 51 [some (.ref 96), some (.int v1), some (.int v2), some (.int v3), some (.int d4), some (.int v5), some (.int v6), some (.int v7)] [] h (some (.int o.1), o.2) ∧ SHP L hi o.2 := by
  intro m
  induction m with
  | zero => intro v1 v2 v3 v5 v6 v7 d4 h o SH hf; cases hf
  | succ m ih =>
    intro v1 v2 v3 v5 v6 v7 d4 h o SH hf
    rw [g_X8_serves_51] at hf
    refine And.imp_left (rs_iload i_X8_serves_51 rfl) ?_
    refine And.imp_left (rs_bipush i_X8_serves_53 (v := 9) (by decide)) ?_
    by_cases c1 : 9 < v7
    · replace hf := (if_pos c1).symm.trans hf
      refine And.imp_left (rs_icT i_X8_serves_55 (ct_gt c1) (tg := 99) (by decide)) ?_
      refine And.imp_left (rs_aload_n i_X8_serves_99 rfl) ?_
      refine And.imp_left (rs_iload_n i_X8_serves_100 rfl) ?_
      refine And.imp_left (rs_iload i_X8_serves_101 rfl) ?_
      obtain ⟨o2, e2, hf⟩ := bind_some hf
      obtain ⟨u2, SH2⟩ := k_X8_holds0 (X := X) (d := d) (by omega) (by omega) SH e2
      refine And.imp_left (rs_inV i_X8_serves_103 m_X8_holds0 rfl (As := [.int v3, .int v5]) (rest := []) rfl rfl (Nat.le_of_ble_eq_true rfl) (sO8 SH hh) u2 (st' := []) rfl) ?_
      clear SH; have SH := SH2; clear SH2
      refine And.imp_left (rs_iload i_X8_serves_106 rfl) ?_
      have hf := Option.some.inj hf
      subst hf
      exact ⟨rs_iret i_X8_serves_108 m_X8_serves rfl, SH⟩
    · replace hf := (if_neg c1).symm.trans hf
      refine And.imp_left (rs_icF i_X8_serves_55 (cf_gt c1)) ?_
      refine And.imp_left (rs_aload_n i_X8_serves_58 rfl) ?_
      refine And.imp_left (rs_iload_n i_X8_serves_59 rfl) ?_
      refine And.imp_left (rs_iload i_X8_serves_60 rfl) ?_
      obtain ⟨o3, e3, hf⟩ := bind_some hf
      obtain ⟨u3, SH2⟩ := k_X8_holds0 (X := X) (d := d) (by omega) (by omega) SH e3
      refine And.imp_left (rs_inV i_X8_serves_62 m_X8_holds0 rfl (As := [.int v3, .int v7]) (rest := []) rfl rfl (Nat.le_of_ble_eq_true rfl) (sO8 SH hh) u3 (st' := []) rfl) ?_
      clear SH; have SH := SH2; clear SH2
      refine And.imp_left (rs_aload_n i_X8_serves_65 rfl) ?_
      refine And.imp_left (rs_iload_n i_X8_serves_66 rfl) ?_
      obtain ⟨o4, e4, hf⟩ := bind_some hf
      obtain ⟨u4, SH2⟩ := k_X8_goes (X := X) (d := d) (by omega) (by omega) SH e4
      refine And.imp_left (rs_inV i_X8_serves_67 m_X8_goes rfl (As := [.int v1]) (rest := []) rfl rfl (Nat.le_of_ble_eq_true rfl) (sO8 SH hh) u4 (st' := []) rfl) ?_
      clear SH; have SH := SH2; clear SH2
      refine And.imp_left (rs_iload i_X8_serves_70 rfl) ?_
      refine And.imp_left (rs_aload_n i_X8_serves_72 rfl) ?_
      refine And.imp_left (rs_iload_n i_X8_serves_73 rfl) ?_
      refine And.imp_left (rs_iconst i_X8_serves_74 (v := 0) (by decide)) ?_
      obtain ⟨o5, e5, hf⟩ := bind_some hf
      obtain ⟨u5, SH2⟩ := k_X8_offFrom (X := X) (d := d) (by omega) (by omega) SH e5
      refine And.imp_left (rs_inV i_X8_serves_75 m_X8_offFrom rfl (As := [.int v2, .int 0]) (rest := [.int v6]) rfl rfl (Nat.le_of_ble_eq_true rfl) (sO8 SH hh) u5 (st' := [.int o5.1, .int v6]) rfl) ?_
      clear SH; have SH := SH2; clear SH2
      refine And.imp_left (rs_iconst i_X8_serves_78 (v := (-1)) (by decide)) ?_
      by_cases c6 : o5.1 ≠ (-1)
      · replace hf := (if_pos c6).symm.trans hf
        refine And.imp_left (rs_icT i_X8_serves_79 (ct_ne c6) (tg := 89) (by decide)) ?_
        refine And.imp_left (rs_iconst i_X8_serves_89 (v := 0) (by decide)) ?_
        exact q_X8_serves_90 hd hh ih SH hf
      · replace hf := (if_neg c6).symm.trans hf
        refine And.imp_left (rs_icF i_X8_serves_79 (cf_ne c6)) ?_
        refine And.imp_left (rs_iconst i_X8_serves_82 (v := 1) (by decide)) ?_
        refine And.imp_left (rs_iload i_X8_serves_83 rfl) ?_
        refine And.imp_left (rs_ishl i_X8_serves_85) ?_
        refine And.imp_left (rs_goto i_X8_serves_86 (tg := 90) (by decide)) ?_
        exact q_X8_serves_90 hd hh ih SH hf
noncomputable def g_X8_serves_0 (n : Nat) (v1 : Int32) (v2 : Int32) (v3 : Int32) (h : Hp) : Option (Int32 × Hp) :=
  (g_X8_areSteps v1 h).bind fun o1 =>
  if o1.1 ≠ 0 then
    (g_X8_sheetWrong v2 o1.2).bind fun o3 =>
    if o3.1 = 0 then
      (g_X8_in v3 0 2 o3.2).bind fun o5 =>
      if o5.1 ≠ 0 then
        (g_X8_count v3 o5.2).bind fun o7 =>
        g_X8_serves_51 n n v1 v2 v3 o7.1 0 0 o7.2
      else
        some ((-7), o5.2)
    else
      some (o3.1, o3.2)
  else
    some ((-5), o1.2)
set_option maxRecDepth 100000 in
set_option maxHeartbeats 4000000 in
theorem q_X8_serves_0 {X : Nat → Int32} {d : Nat} (hd : 7 ≤ (d + 1)) {L hi : Nat} (hh : 125 ≤ hi) {n : Nat} {v1 : Int32} {v2 : Int32} {v3 : Int32} {h : Hp} {o : (Int32 × Hp)}  (SH : SHP L hi h) (hf : g_X8_serves_0 n v1 v2 v3 h = some o) : Run X (d + 1) 189 0 [some (.ref 96), some (.int v1), some (.int v2), some (.int v3), none, none, none, none] [] h (some (.int o.1), o.2) ∧ SHP L hi o.2 := by
  unfold g_X8_serves_0 at hf
  refine And.imp_left (rs_aload_n i_X8_serves_0 rfl) ?_
  refine And.imp_left (rs_iload_n i_X8_serves_1 rfl) ?_
  obtain ⟨o1, e1, hf⟩ := bind_some hf
  obtain ⟨u1, SH2⟩ := k_X8_areSteps (X := X) (d := d) (by omega) (by omega) SH e1
  refine And.imp_left (rs_inV i_X8_serves_2 m_X8_areSteps rfl (As := [.int v1]) (rest := []) rfl rfl (Nat.le_of_ble_eq_true rfl) (sO8 SH hh) u1 (st' := [.int o1.1]) rfl) ?_
  clear SH; have SH := SH2; clear SH2
  by_cases c2 : o1.1 ≠ 0
  · replace hf := (if_pos c2).symm.trans hf
    refine And.imp_left (rs_ifT i_X8_serves_5 (ct_ne c2) (tg := 11) (by decide)) ?_
    refine And.imp_left (rs_aload_n i_X8_serves_11 rfl) ?_
    refine And.imp_left (rs_iload_n i_X8_serves_12 rfl) ?_
    obtain ⟨o3, e3, hf⟩ := bind_some hf
    obtain ⟨u3, SH2⟩ := k_X8_sheetWrong (X := X) (d := d) (by omega) (by omega) SH e3
    refine And.imp_left (rs_inV i_X8_serves_13 m_X8_sheetWrong rfl (As := [.int v2]) (rest := []) rfl rfl (Nat.le_of_ble_eq_true rfl) (sO8 SH hh) u3 (st' := [.int o3.1]) rfl) ?_
    clear SH; have SH := SH2; clear SH2
    refine And.imp_left (rs_istore i_X8_serves_16 (Nat.le_of_ble_eq_true rfl) (lv' := [some (.ref 96), some (.int v1), some (.int v2), some (.int v3), some (.int o3.1), none, none, none]) rfl) ?_
    refine And.imp_left (rs_iload i_X8_serves_18 rfl) ?_
    by_cases c4 : o3.1 = 0
    · replace hf := (if_pos c4).symm.trans hf
      refine And.imp_left (rs_ifT i_X8_serves_20 (ct_eq c4) (tg := 26) (by decide)) ?_
      refine And.imp_left (rs_iload_n i_X8_serves_26 rfl) ?_
      refine And.imp_left (rs_iconst i_X8_serves_27 (v := 0) (by decide)) ?_
      refine And.imp_left (rs_iconst i_X8_serves_28 (v := 2) (by decide)) ?_
      obtain ⟨o5, e5, hf⟩ := bind_some hf
      obtain ⟨u5, SH2⟩ := k_X8_in (X := X) (d := d) (by omega) (by omega) SH e5
      refine And.imp_left (rs_inS i_X8_serves_29 (by decide) m_X8_in rfl (As := [.int v3, .int 0, .int 2]) (rest := []) rfl rfl (Nat.le_of_ble_eq_true rfl) u5 (st' := [.int o5.1]) rfl) ?_
      clear SH; have SH := SH2; clear SH2
      by_cases c6 : o5.1 ≠ 0
      · replace hf := (if_pos c6).symm.trans hf
        refine And.imp_left (rs_ifT i_X8_serves_32 (ct_ne c6) (tg := 38) (by decide)) ?_
        refine And.imp_left (rs_aload_n i_X8_serves_38 rfl) ?_
        refine And.imp_left (rs_iload_n i_X8_serves_39 rfl) ?_
        obtain ⟨o7, e7, hf⟩ := bind_some hf
        obtain ⟨u7, SH2⟩ := k_X8_count (X := X) (d := d) (by omega) (by omega) SH e7
        refine And.imp_left (rs_inV i_X8_serves_40 m_X8_count rfl (As := [.int v3]) (rest := []) rfl rfl (Nat.le_of_ble_eq_true rfl) (sO8 SH hh) u7 (st' := [.int o7.1]) rfl) ?_
        clear SH; have SH := SH2; clear SH2
        refine And.imp_left (rs_istore i_X8_serves_43 (Nat.le_of_ble_eq_true rfl) (lv' := [some (.ref 96), some (.int v1), some (.int v2), some (.int v3), some (.int o3.1), some (.int o7.1), none, none]) rfl) ?_
        refine And.imp_left (rs_iconst i_X8_serves_45 (v := 0) (by decide)) ?_
        refine And.imp_left (rs_istore i_X8_serves_46 (Nat.le_of_ble_eq_true rfl) (lv' := [some (.ref 96), some (.int v1), some (.int v2), some (.int v3), some (.int o3.1), some (.int o7.1), some (.int 0), none]) rfl) ?_
        refine And.imp_left (rs_iconst i_X8_serves_48 (v := 0) (by decide)) ?_
        refine And.imp_left (rs_istore i_X8_serves_49 (Nat.le_of_ble_eq_true rfl) (lv' := [some (.ref 96), some (.int v1), some (.int v2), some (.int v3), some (.int o3.1), some (.int o7.1), some (.int 0), some (.int 0)]) rfl) ?_
        exact q_X8_serves_51 hd hh _ _ _ _ _ _ _ _ _ _ SH hf
      · replace hf := (if_neg c6).symm.trans hf
        refine And.imp_left (rs_ifF i_X8_serves_32 (cf_ne c6)) ?_
        refine And.imp_left (rs_bipush i_X8_serves_35 (v := (-7)) (by decide)) ?_
        have hf := Option.some.inj hf
        subst hf
        exact ⟨rs_iret i_X8_serves_37 m_X8_serves rfl, SH⟩
    · replace hf := (if_neg c4).symm.trans hf
      refine And.imp_left (rs_ifF i_X8_serves_20 (cf_eq c4)) ?_
      refine And.imp_left (rs_iload i_X8_serves_23 rfl) ?_
      have hf := Option.some.inj hf
      subst hf
      exact ⟨rs_iret i_X8_serves_25 m_X8_serves rfl, SH⟩
  · replace hf := (if_neg c2).symm.trans hf
    refine And.imp_left (rs_ifF i_X8_serves_5 (cf_ne c2)) ?_
    refine And.imp_left (rs_bipush i_X8_serves_8 (v := (-5)) (by decide)) ?_
    have hf := Option.some.inj hf
    subst hf
    exact ⟨rs_iret i_X8_serves_10 m_X8_serves rfl, SH⟩
noncomputable def g_X8_serves (n : Nat) (v1 : Int32) (v2 : Int32) (v3 : Int32) (h : Hp) : Option (Int32 × Hp) := g_X8_serves_0 n v1 v2 v3 h
theorem k_X8_serves {X : Nat → Int32} {d : Nat} (hd : 7 ≤ d) {L hi : Nat} (hh : 125 ≤ hi) {n : Nat} {v1 : Int32} {v2 : Int32} {v3 : Int32} {h : Hp} {o : (Int32 × Hp)}  (SH : SHP L hi h) (hf : g_X8_serves n v1 v2 v3 h = some o) : Calls X d 189 [.ref 96, .int v1, .int v2, .int v3] h (some (.int o.1), o.2) ∧ SHP L hi o.2 := by
  obtain ⟨d, rfl⟩ : ∃ z, d = z + 1 := ⟨d - 1, by omega⟩
  obtain ⟨r, S2⟩ := q_X8_serves_0 hd hh SH hf
  exact ⟨⟨_, rfl, r⟩, S2⟩
noncomputable def g_X8_which_75 (n : Nat) (K35 : Int32 → Int32 → Int32 → Int32 → Int32 → Hp → Option (Int32 × Hp)) (v1 : Int32) (v2 : Int32) (v4 : Int32) (v6 : Int32) (s0 : Int32) (s1 : Int32) (h : Hp) : Option (Int32 × Hp) :=
  K35 v1 v2 v4 (s0 ||| s1) (v6 + 1) h
set_option maxRecDepth 100000 in
set_option maxHeartbeats 4000000 in
theorem q_X8_which_75 {X : Nat → Int32} {d : Nat} (hd : 7 ≤ (d + 1)) {L hi : Nat} (hh : 125 ≤ hi) {n : Nat} {K35 : Int32 → Int32 → Int32 → Int32 → Int32 → Hp → Option (Int32 × Hp)} (HK35 : ∀ (v1 : Int32) (v2 : Int32) (v4 : Int32) (v5 : Int32) (v6 : Int32) (d3 : Int32) (h : Hp) (o : (Int32 × Hp)), SHP L hi h → K35 v1 v2 v4 v5 v6 h = some o → Run X (d + 1) 190 35 [some (.ref 96), some (.int v1), some (.int v2), some (.int d3), some (.int v4), some (.int v5), some (.int v6)] [] h (some (.int o.1), o.2) ∧ SHP L hi o.2) {v1 : Int32} {v2 : Int32} {v4 : Int32} {v6 : Int32} {s0 : Int32} {s1 : Int32} {d3 : Int32} {d5 : Int32} {h : Hp} {o : (Int32 × Hp)}  (SH : SHP L hi h) (hf : g_X8_which_75 n K35 v1 v2 v4 v6 s0 s1 h = some o) : Run X (d + 1) 190 75 [some (.ref 96), some (.int v1), some (.int v2), some (.int d3), some (.int v4), some (.int d5), some (.int v6)] [.int s1, .int s0] h (some (.int o.1), o.2) ∧ SHP L hi o.2 := by
  unfold g_X8_which_75 at hf
  refine And.imp_left (rs_ior i_X8_which_75) ?_
  refine And.imp_left (rs_istore i_X8_which_76 (Nat.le_of_ble_eq_true rfl) (lv' := [some (.ref 96), some (.int v1), some (.int v2), some (.int d3), some (.int v4), some (.int (s0 ||| s1)), some (.int v6)]) rfl) ?_
  refine And.imp_left (rs_iinc i_X8_which_78 rfl (v := v6 + 1) rfl (Nat.le_of_ble_eq_true rfl) (lv' := [some (.ref 96), some (.int v1), some (.int v2), some (.int d3), some (.int v4), some (.int (s0 ||| s1)), some (.int (v6 + 1))]) rfl) ?_
  refine And.imp_left (rs_goto i_X8_which_81 (tg := 35) (by decide)) ?_
  exact HK35 _ _ _ _ _ _ _ _ SH hf
noncomputable def g_X8_which_50 (n : Nat) (K35 : Int32 → Int32 → Int32 → Int32 → Int32 → Hp → Option (Int32 × Hp)) (v1 : Int32) (v2 : Int32) (v4 : Int32) (v5 : Int32) (v6 : Int32) (h : Hp) : Option (Int32 × Hp) :=
  (g_X8_goes n v1 h).bind fun o1 =>
  (g_X8_offFrom n v2 0 o1).bind fun o2 =>
  if o2.1 ≠ (-1) then
    g_X8_which_75 n K35 v1 v2 v4 v6 v5 0 o2.2
  else
    g_X8_which_75 n K35 v1 v2 v4 v6 v5 (1 <<< (v6 &&& 31)) o2.2
set_option maxRecDepth 100000 in
set_option maxHeartbeats 4000000 in
theorem q_X8_which_50 {X : Nat → Int32} {d : Nat} (hd : 7 ≤ (d + 1)) {L hi : Nat} (hh : 125 ≤ hi) {n : Nat} {K35 : Int32 → Int32 → Int32 → Int32 → Int32 → Hp → Option (Int32 × Hp)} (HK35 : ∀ (v1 : Int32) (v2 : Int32) (v4 : Int32) (v5 : Int32) (v6 : Int32) (d3 : Int32) (h : Hp) (o : (Int32 × Hp)), SHP L hi h → K35 v1 v2 v4 v5 v6 h = some o → Run X (d + 1) 190 35 [some (.ref 96), some (.int v1), some (.int v2), some (.int d3), some (.int v4), some (.int v5), some (.int v6)] [] h (some (.int o.1), o.2) ∧ SHP L hi o.2) {v1 : Int32} {v2 : Int32} {v4 : Int32} {v5 : Int32} {v6 : Int32} {d3 : Int32} {h : Hp} {o : (Int32 × Hp)}  (SH : SHP L hi h) (hf : g_X8_which_50 n K35 v1 v2 v4 v5 v6 h = some o) : Run X (d + 1) 190 50 [some (.ref 96), some (.int v1), some (.int v2), some (.int d3), some (.int v4), some (.int v5), some (.int v6)] [] h (some (.int o.1), o.2) ∧ SHP L hi o.2 := by
  unfold g_X8_which_50 at hf
  refine And.imp_left (rs_aload_n i_X8_which_50 rfl) ?_
  refine And.imp_left (rs_iload_n i_X8_which_51 rfl) ?_
  obtain ⟨o1, e1, hf⟩ := bind_some hf
  obtain ⟨u1, SH2⟩ := k_X8_goes (X := X) (d := d) (by omega) (by omega) SH e1
  refine And.imp_left (rs_inV i_X8_which_52 m_X8_goes rfl (As := [.int v1]) (rest := []) rfl rfl (Nat.le_of_ble_eq_true rfl) (sO8 SH hh) u1 (st' := []) rfl) ?_
  clear SH; have SH := SH2; clear SH2
  refine And.imp_left (rs_iload i_X8_which_55 rfl) ?_
  refine And.imp_left (rs_aload_n i_X8_which_57 rfl) ?_
  refine And.imp_left (rs_iload_n i_X8_which_58 rfl) ?_
  refine And.imp_left (rs_iconst i_X8_which_59 (v := 0) (by decide)) ?_
  obtain ⟨o2, e2, hf⟩ := bind_some hf
  obtain ⟨u2, SH2⟩ := k_X8_offFrom (X := X) (d := d) (by omega) (by omega) SH e2
  refine And.imp_left (rs_inV i_X8_which_60 m_X8_offFrom rfl (As := [.int v2, .int 0]) (rest := [.int v5]) rfl rfl (Nat.le_of_ble_eq_true rfl) (sO8 SH hh) u2 (st' := [.int o2.1, .int v5]) rfl) ?_
  clear SH; have SH := SH2; clear SH2
  refine And.imp_left (rs_iconst i_X8_which_63 (v := (-1)) (by decide)) ?_
  by_cases c3 : o2.1 ≠ (-1)
  · replace hf := (if_pos c3).symm.trans hf
    refine And.imp_left (rs_icT i_X8_which_64 (ct_ne c3) (tg := 74) (by decide)) ?_
    refine And.imp_left (rs_iconst i_X8_which_74 (v := 0) (by decide)) ?_
    exact q_X8_which_75 hd hh HK35 SH hf
  · replace hf := (if_neg c3).symm.trans hf
    refine And.imp_left (rs_icF i_X8_which_64 (cf_ne c3)) ?_
    refine And.imp_left (rs_iconst i_X8_which_67 (v := 1) (by decide)) ?_
    refine And.imp_left (rs_iload i_X8_which_68 rfl) ?_
    refine And.imp_left (rs_ishl i_X8_which_70) ?_
    refine And.imp_left (rs_goto i_X8_which_71 (tg := 75) (by decide)) ?_
    exact q_X8_which_75 hd hh HK35 SH hf
noncomputable def g_X8_which_35 (n : Nat) : Nat → Int32 → Int32 → Int32 → Int32 → Int32 → Hp → Option (Int32 × Hp)
  | 0, _, _, _, _, _, _ => none
  | m + 1, v1, v2, v4, v5, v6, h =>
    if (gI h 96 13) ≤ v6 then
      some (v5, (hsi h 96 14 v4))
    else
      g_X8_which_50 n (g_X8_which_35 n m) v1 v2 v4 v5 v6 (hsi h 96 14 v6)
set_option maxRecDepth 100000 in
set_option maxHeartbeats 4000000 in
theorem q_X8_which_35 {X : Nat → Int32} {d : Nat} (hd : 7 ≤ (d + 1)) {L hi : Nat} (hh : 125 ≤ hi) {n : Nat} : ∀ (m : Nat) (v1 : Int32) (v2 : Int32) (v4 : Int32) (v5 : Int32) (v6 : Int32) (d3 : Int32) (h : Hp) (o : (Int32 × Hp)), SHP L hi h → g_X8_which_35 n m v1 v2 v4 v5 v6 h = some o → Run X (d + 1) 190 35 [some (.ref 96), some (.int v1), some (.int v2), some (.int d3), some (.int v4), some (.int v5), some (.int v6)] [] h (some (.int o.1), o.2) ∧ SHP L hi o.2 := by
  intro m
  induction m with
  | zero => intro v1 v2 v4 v5 v6 d3 h o SH hf; cases hf
  | succ m ih =>
    intro v1 v2 v4 v5 v6 d3 h o SH hf
    rw [g_X8_which_35] at hf
    refine And.imp_left (rs_iload i_X8_which_35 rfl) ?_
    refine And.imp_left (rs_aload_n i_X8_which_37 rfl) ?_
    refine And.imp_left (rs_getI i_X8_which_38 (by decide) (by decide) (sO8 SH hh)) ?_
    by_cases c1 : (gI h 96 13) ≤ v6
    · replace hf := (if_pos c1).symm.trans hf
      refine And.imp_left (rs_icT i_X8_which_41 (ct_ge c1) (tg := 84) (by decide)) ?_
      refine And.imp_left (rs_aload_n i_X8_which_84 rfl) ?_
      refine And.imp_left (rs_iload i_X8_which_85 rfl) ?_
      refine And.imp_left (rs_putI i_X8_which_87 (by decide) (sO8 SH hh)) ?_
      have SH := shi SH 96 14 v4
      refine And.imp_left (rs_iload i_X8_which_90 rfl) ?_
      have hf := Option.some.inj hf
      subst hf
      exact ⟨rs_iret i_X8_which_92 m_X8_which rfl, SH⟩
    · replace hf := (if_neg c1).symm.trans hf
      refine And.imp_left (rs_icF i_X8_which_41 (cf_ge c1)) ?_
      refine And.imp_left (rs_aload_n i_X8_which_44 rfl) ?_
      refine And.imp_left (rs_iload i_X8_which_45 rfl) ?_
      refine And.imp_left (rs_putI i_X8_which_47 (by decide) (sO8 SH hh)) ?_
      have SH := shi SH 96 14 v6
      exact q_X8_which_50 hd hh ih SH hf
noncomputable def g_X8_which_0 (n : Nat) (v1 : Int32) (v2 : Int32) (h : Hp) : Option (Int32 × Hp) :=
  (g_X8_areSteps v1 h).bind fun o1 =>
  if o1.1 ≠ 0 then
    (g_X8_sheetWrong v2 o1.2).bind fun o3 =>
    if o3.1 = 0 then
      g_X8_which_35 n n v1 v2 (gI o3.2 96 14) 0 0 o3.2
    else
      some (o3.1, o3.2)
  else
    some ((-5), o1.2)
set_option maxRecDepth 100000 in
set_option maxHeartbeats 4000000 in
theorem q_X8_which_0 {X : Nat → Int32} {d : Nat} (hd : 7 ≤ (d + 1)) {L hi : Nat} (hh : 125 ≤ hi) {n : Nat} {v1 : Int32} {v2 : Int32} {h : Hp} {o : (Int32 × Hp)}  (SH : SHP L hi h) (hf : g_X8_which_0 n v1 v2 h = some o) : Run X (d + 1) 190 0 [some (.ref 96), some (.int v1), some (.int v2), none, none, none, none] [] h (some (.int o.1), o.2) ∧ SHP L hi o.2 := by
  unfold g_X8_which_0 at hf
  refine And.imp_left (rs_aload_n i_X8_which_0 rfl) ?_
  refine And.imp_left (rs_iload_n i_X8_which_1 rfl) ?_
  obtain ⟨o1, e1, hf⟩ := bind_some hf
  obtain ⟨u1, SH2⟩ := k_X8_areSteps (X := X) (d := d) (by omega) (by omega) SH e1
  refine And.imp_left (rs_inV i_X8_which_2 m_X8_areSteps rfl (As := [.int v1]) (rest := []) rfl rfl (Nat.le_of_ble_eq_true rfl) (sO8 SH hh) u1 (st' := [.int o1.1]) rfl) ?_
  clear SH; have SH := SH2; clear SH2
  by_cases c2 : o1.1 ≠ 0
  · replace hf := (if_pos c2).symm.trans hf
    refine And.imp_left (rs_ifT i_X8_which_5 (ct_ne c2) (tg := 11) (by decide)) ?_
    refine And.imp_left (rs_aload_n i_X8_which_11 rfl) ?_
    refine And.imp_left (rs_iload_n i_X8_which_12 rfl) ?_
    obtain ⟨o3, e3, hf⟩ := bind_some hf
    obtain ⟨u3, SH2⟩ := k_X8_sheetWrong (X := X) (d := d) (by omega) (by omega) SH e3
    refine And.imp_left (rs_inV i_X8_which_13 m_X8_sheetWrong rfl (As := [.int v2]) (rest := []) rfl rfl (Nat.le_of_ble_eq_true rfl) (sO8 SH hh) u3 (st' := [.int o3.1]) rfl) ?_
    clear SH; have SH := SH2; clear SH2
    refine And.imp_left (rs_istore_n i_X8_which_16 (Nat.le_of_ble_eq_true rfl) (lv' := [some (.ref 96), some (.int v1), some (.int v2), some (.int o3.1), none, none, none]) rfl) ?_
    refine And.imp_left (rs_iload_n i_X8_which_17 rfl) ?_
    by_cases c4 : o3.1 = 0
    · replace hf := (if_pos c4).symm.trans hf
      refine And.imp_left (rs_ifT i_X8_which_18 (ct_eq c4) (tg := 23) (by decide)) ?_
      refine And.imp_left (rs_aload_n i_X8_which_23 rfl) ?_
      refine And.imp_left (rs_getI i_X8_which_24 (by decide) (by decide) (sO8 SH hh)) ?_
      refine And.imp_left (rs_istore i_X8_which_27 (Nat.le_of_ble_eq_true rfl) (lv' := [some (.ref 96), some (.int v1), some (.int v2), some (.int o3.1), some (.int (gI o3.2 96 14)), none, none]) rfl) ?_
      refine And.imp_left (rs_iconst i_X8_which_29 (v := 0) (by decide)) ?_
      refine And.imp_left (rs_istore i_X8_which_30 (Nat.le_of_ble_eq_true rfl) (lv' := [some (.ref 96), some (.int v1), some (.int v2), some (.int o3.1), some (.int (gI o3.2 96 14)), some (.int 0), none]) rfl) ?_
      refine And.imp_left (rs_iconst i_X8_which_32 (v := 0) (by decide)) ?_
      refine And.imp_left (rs_istore i_X8_which_33 (Nat.le_of_ble_eq_true rfl) (lv' := [some (.ref 96), some (.int v1), some (.int v2), some (.int o3.1), some (.int (gI o3.2 96 14)), some (.int 0), some (.int 0)]) rfl) ?_
      exact q_X8_which_35 hd hh _ _ _ _ _ _ _ _ _ SH hf
    · replace hf := (if_neg c4).symm.trans hf
      refine And.imp_left (rs_ifF i_X8_which_18 (cf_eq c4)) ?_
      refine And.imp_left (rs_iload_n i_X8_which_21 rfl) ?_
      have hf := Option.some.inj hf
      subst hf
      exact ⟨rs_iret i_X8_which_22 m_X8_which rfl, SH⟩
  · replace hf := (if_neg c2).symm.trans hf
    refine And.imp_left (rs_ifF i_X8_which_5 (cf_ne c2)) ?_
    refine And.imp_left (rs_bipush i_X8_which_8 (v := (-5)) (by decide)) ?_
    have hf := Option.some.inj hf
    subst hf
    exact ⟨rs_iret i_X8_which_10 m_X8_which rfl, SH⟩
noncomputable def g_X8_which (n : Nat) (v1 : Int32) (v2 : Int32) (h : Hp) : Option (Int32 × Hp) := g_X8_which_0 n v1 v2 h
theorem k_X8_which {X : Nat → Int32} {d : Nat} (hd : 7 ≤ d) {L hi : Nat} (hh : 125 ≤ hi) {n : Nat} {v1 : Int32} {v2 : Int32} {h : Hp} {o : (Int32 × Hp)}  (SH : SHP L hi h) (hf : g_X8_which n v1 v2 h = some o) : Calls X d 190 [.ref 96, .int v1, .int v2] h (some (.int o.1), o.2) ∧ SHP L hi o.2 := by
  obtain ⟨d, rfl⟩ : ∃ z, d = z + 1 := ⟨d - 1, by omega⟩
  obtain ⟨r, S2⟩ := q_X8_which_0 hd hh SH hf
  exact ⟨⟨_, rfl, r⟩, S2⟩
noncomputable def g_X8_fault_26 (n : Nat) : Nat → Int32 → Int32 → Int32 → Hp → Option (Int32 × Hp)
  | 0, _, _, _, _ => none
  | m + 1, v1, v2, v4, h =>
    if v1 ≤ v4 then
      some ((-1), h)
    else
      (g_X8_goesBut n v1 v4 h).bind fun o2 =>
      (g_X8_offFrom n v2 0 o2).bind fun o3 =>
      if o3.1 ≠ (-1) then
        (g_X8_fault_26 n m) v1 v2 (v4 + 1) o3.2
      else
        some (v4, o3.2)
set_option maxRecDepth 100000 in
set_option maxHeartbeats 4000000 in
theorem q_X8_fault_26 {X : Nat → Int32} {d : Nat} (hd : 6 ≤ (d + 1)) {L hi : Nat} (hh : 125 ≤ hi) {n : Nat} : ∀ (m : Nat) (v1 : Int32) (v2 : Int32) (v4 : Int32) (d3 : Int32) (h : Hp) (o : (Int32 × Hp)), SHP L hi h → g_X8_fault_26 n m v1 v2 v4 h = some o → Run X (d + 1) 191 26 [some (.ref 96), some (.int v1), some (.int v2), some (.int d3), some (.int v4)] [] h (some (.int o.1), o.2) ∧ SHP L hi o.2 := by
  intro m
  induction m with
  | zero => intro v1 v2 v4 d3 h o SH hf; cases hf
  | succ m ih =>
    intro v1 v2 v4 d3 h o SH hf
    rw [g_X8_fault_26] at hf
    refine And.imp_left (rs_iload i_X8_fault_26 rfl) ?_
    refine And.imp_left (rs_iload_n i_X8_fault_28 rfl) ?_
    by_cases c1 : v1 ≤ v4
    · replace hf := (if_pos c1).symm.trans hf
      refine And.imp_left (rs_icT i_X8_fault_29 (ct_ge c1) (tg := 58) (by decide)) ?_
      refine And.imp_left (rs_iconst i_X8_fault_58 (v := (-1)) (by decide)) ?_
      have hf := Option.some.inj hf
      subst hf
      exact ⟨rs_iret i_X8_fault_59 m_X8_fault rfl, SH⟩
    · replace hf := (if_neg c1).symm.trans hf
      refine And.imp_left (rs_icF i_X8_fault_29 (cf_ge c1)) ?_
      refine And.imp_left (rs_aload_n i_X8_fault_32 rfl) ?_
      refine And.imp_left (rs_iload_n i_X8_fault_33 rfl) ?_
      refine And.imp_left (rs_iload i_X8_fault_34 rfl) ?_
      obtain ⟨o2, e2, hf⟩ := bind_some hf
      obtain ⟨u2, SH2⟩ := k_X8_goesBut (X := X) (d := d) (by omega) (by omega) SH e2
      refine And.imp_left (rs_inV i_X8_fault_36 m_X8_goesBut rfl (As := [.int v1, .int v4]) (rest := []) rfl rfl (Nat.le_of_ble_eq_true rfl) (sO8 SH hh) u2 (st' := []) rfl) ?_
      clear SH; have SH := SH2; clear SH2
      refine And.imp_left (rs_aload_n i_X8_fault_39 rfl) ?_
      refine And.imp_left (rs_iload_n i_X8_fault_40 rfl) ?_
      refine And.imp_left (rs_iconst i_X8_fault_41 (v := 0) (by decide)) ?_
      obtain ⟨o3, e3, hf⟩ := bind_some hf
      obtain ⟨u3, SH2⟩ := k_X8_offFrom (X := X) (d := d) (by omega) (by omega) SH e3
      refine And.imp_left (rs_inV i_X8_fault_42 m_X8_offFrom rfl (As := [.int v2, .int 0]) (rest := []) rfl rfl (Nat.le_of_ble_eq_true rfl) (sO8 SH hh) u3 (st' := [.int o3.1]) rfl) ?_
      clear SH; have SH := SH2; clear SH2
      refine And.imp_left (rs_iconst i_X8_fault_45 (v := (-1)) (by decide)) ?_
      by_cases c4 : o3.1 ≠ (-1)
      · replace hf := (if_pos c4).symm.trans hf
        refine And.imp_left (rs_icT i_X8_fault_46 (ct_ne c4) (tg := 52) (by decide)) ?_
        refine And.imp_left (rs_iinc i_X8_fault_52 rfl (v := v4 + 1) rfl (Nat.le_of_ble_eq_true rfl) (lv' := [some (.ref 96), some (.int v1), some (.int v2), some (.int d3), some (.int (v4 + 1))]) rfl) ?_
        refine And.imp_left (rs_goto i_X8_fault_55 (tg := 26) (by decide)) ?_
        exact ih _ _ _ _ _ _ SH hf
      · replace hf := (if_neg c4).symm.trans hf
        refine And.imp_left (rs_icF i_X8_fault_46 (cf_ne c4)) ?_
        refine And.imp_left (rs_iload i_X8_fault_49 rfl) ?_
        have hf := Option.some.inj hf
        subst hf
        exact ⟨rs_iret i_X8_fault_51 m_X8_fault rfl, SH⟩
noncomputable def g_X8_fault_0 (n : Nat) (v1 : Int32) (v2 : Int32) (h : Hp) : Option (Int32 × Hp) :=
  (g_X8_areSteps v1 h).bind fun o1 =>
  if o1.1 ≠ 0 then
    (g_X8_sheetWrong v2 o1.2).bind fun o3 =>
    if o3.1 = 0 then
      g_X8_fault_26 n n v1 v2 0 o3.2
    else
      some (o3.1, o3.2)
  else
    some ((-5), o1.2)
set_option maxRecDepth 100000 in
set_option maxHeartbeats 4000000 in
theorem q_X8_fault_0 {X : Nat → Int32} {d : Nat} (hd : 6 ≤ (d + 1)) {L hi : Nat} (hh : 125 ≤ hi) {n : Nat} {v1 : Int32} {v2 : Int32} {h : Hp} {o : (Int32 × Hp)}  (SH : SHP L hi h) (hf : g_X8_fault_0 n v1 v2 h = some o) : Run X (d + 1) 191 0 [some (.ref 96), some (.int v1), some (.int v2), none, none] [] h (some (.int o.1), o.2) ∧ SHP L hi o.2 := by
  unfold g_X8_fault_0 at hf
  refine And.imp_left (rs_aload_n i_X8_fault_0 rfl) ?_
  refine And.imp_left (rs_iload_n i_X8_fault_1 rfl) ?_
  obtain ⟨o1, e1, hf⟩ := bind_some hf
  obtain ⟨u1, SH2⟩ := k_X8_areSteps (X := X) (d := d) (by omega) (by omega) SH e1
  refine And.imp_left (rs_inV i_X8_fault_2 m_X8_areSteps rfl (As := [.int v1]) (rest := []) rfl rfl (Nat.le_of_ble_eq_true rfl) (sO8 SH hh) u1 (st' := [.int o1.1]) rfl) ?_
  clear SH; have SH := SH2; clear SH2
  by_cases c2 : o1.1 ≠ 0
  · replace hf := (if_pos c2).symm.trans hf
    refine And.imp_left (rs_ifT i_X8_fault_5 (ct_ne c2) (tg := 11) (by decide)) ?_
    refine And.imp_left (rs_aload_n i_X8_fault_11 rfl) ?_
    refine And.imp_left (rs_iload_n i_X8_fault_12 rfl) ?_
    obtain ⟨o3, e3, hf⟩ := bind_some hf
    obtain ⟨u3, SH2⟩ := k_X8_sheetWrong (X := X) (d := d) (by omega) (by omega) SH e3
    refine And.imp_left (rs_inV i_X8_fault_13 m_X8_sheetWrong rfl (As := [.int v2]) (rest := []) rfl rfl (Nat.le_of_ble_eq_true rfl) (sO8 SH hh) u3 (st' := [.int o3.1]) rfl) ?_
    clear SH; have SH := SH2; clear SH2
    refine And.imp_left (rs_istore_n i_X8_fault_16 (Nat.le_of_ble_eq_true rfl) (lv' := [some (.ref 96), some (.int v1), some (.int v2), some (.int o3.1), none]) rfl) ?_
    refine And.imp_left (rs_iload_n i_X8_fault_17 rfl) ?_
    by_cases c4 : o3.1 = 0
    · replace hf := (if_pos c4).symm.trans hf
      refine And.imp_left (rs_ifT i_X8_fault_18 (ct_eq c4) (tg := 23) (by decide)) ?_
      refine And.imp_left (rs_iconst i_X8_fault_23 (v := 0) (by decide)) ?_
      refine And.imp_left (rs_istore i_X8_fault_24 (Nat.le_of_ble_eq_true rfl) (lv' := [some (.ref 96), some (.int v1), some (.int v2), some (.int o3.1), some (.int 0)]) rfl) ?_
      exact q_X8_fault_26 hd hh _ _ _ _ _ _ _ SH hf
    · replace hf := (if_neg c4).symm.trans hf
      refine And.imp_left (rs_ifF i_X8_fault_18 (cf_eq c4)) ?_
      refine And.imp_left (rs_iload_n i_X8_fault_21 rfl) ?_
      have hf := Option.some.inj hf
      subst hf
      exact ⟨rs_iret i_X8_fault_22 m_X8_fault rfl, SH⟩
  · replace hf := (if_neg c2).symm.trans hf
    refine And.imp_left (rs_ifF i_X8_fault_5 (cf_ne c2)) ?_
    refine And.imp_left (rs_bipush i_X8_fault_8 (v := (-5)) (by decide)) ?_
    have hf := Option.some.inj hf
    subst hf
    exact ⟨rs_iret i_X8_fault_10 m_X8_fault rfl, SH⟩
noncomputable def g_X8_fault (n : Nat) (v1 : Int32) (v2 : Int32) (h : Hp) : Option (Int32 × Hp) := g_X8_fault_0 n v1 v2 h
theorem k_X8_fault {X : Nat → Int32} {d : Nat} (hd : 6 ≤ d) {L hi : Nat} (hh : 125 ≤ hi) {n : Nat} {v1 : Int32} {v2 : Int32} {h : Hp} {o : (Int32 × Hp)}  (SH : SHP L hi h) (hf : g_X8_fault n v1 v2 h = some o) : Calls X d 191 [.ref 96, .int v1, .int v2] h (some (.int o.1), o.2) ∧ SHP L hi o.2 := by
  obtain ⟨d, rfl⟩ : ∃ z, d = z + 1 := ⟨d - 1, by omega⟩
  obtain ⟨r, S2⟩ := q_X8_fault_0 hd hh SH hf
  exact ⟨⟨_, rfl, r⟩, S2⟩
noncomputable def g_X8_uneven_119 (n : Nat) (K42 : Int32 → Int32 → Int32 → Int32 → Int32 → Int32 → Hp → Option (Int32 × Hp)) (v1 : Int32) (v2 : Int32) (v3 : Int32) (v4 : Int32) (v5 : Int32) (v6 : Int32) (h : Hp) : Option (Int32 × Hp) :=
  K42 v1 v2 v3 v4 v5 (v6 + 1) h
set_option maxRecDepth 100000 in
set_option maxHeartbeats 4000000 in
theorem q_X8_uneven_119 {X : Nat → Int32} {d : Nat} (hd : 7 ≤ (d + 1)) {L hi : Nat} (hh : 125 ≤ hi) {n : Nat} {K42 : Int32 → Int32 → Int32 → Int32 → Int32 → Int32 → Hp → Option (Int32 × Hp)} (HK42 : ∀ (v1 : Int32) (v2 : Int32) (v3 : Int32) (v4 : Int32) (v5 : Int32) (v6 : Int32) (w7 : Option Value) (w8 : Option Value) (h : Hp) (o : (Int32 × Hp)), SHP L hi h → K42 v1 v2 v3 v4 v5 v6 h = some o → Run X (d + 1) 192 42 [some (.ref 96), some (.int v1), some (.int v2), some (.int v3), some (.int v4), some (.int v5), some (.int v6), w7, w8] [] h (some (.int o.1), o.2) ∧ SHP L hi o.2) {v1 : Int32} {v2 : Int32} {v3 : Int32} {v4 : Int32} {v5 : Int32} {v6 : Int32} {d7 : Int32} {d8 : Int32} {h : Hp} {o : (Int32 × Hp)}  (SH : SHP L hi h) (hf : g_X8_uneven_119 n K42 v1 v2 v3 v4 v5 v6 h = some o) : Run X (d + 1) 192 119 [some (.ref 96), some (.int v1), some (.int v2), some (.int v3), some (.int v4), some (.int v5), some (.int v6), some (.int d7), some (.int d8)] [] h (some (.int o.1), o.2) ∧ SHP L hi o.2 := by
  unfold g_X8_uneven_119 at hf
  refine And.imp_left (rs_iinc i_X8_uneven_119 rfl (v := v6 + 1) rfl (Nat.le_of_ble_eq_true rfl) (lv' := [some (.ref 96), some (.int v1), some (.int v2), some (.int v3), some (.int v4), some (.int v5), some (.int (v6 + 1)), some (.int d7), some (.int d8)]) rfl) ?_
  refine And.imp_left (rs_goto i_X8_uneven_122 (tg := 42) (by decide)) ?_
  exact HK42 _ _ _ _ _ _ _ _ _ _ SH hf
noncomputable def g_X8_uneven_111 (n : Nat) (K42 : Int32 → Int32 → Int32 → Int32 → Int32 → Int32 → Hp → Option (Int32 × Hp)) (v1 : Int32) (v2 : Int32) (v3 : Int32) (v6 : Int32) (v8 : Int32) (h : Hp) : Option (Int32 × Hp) :=
  g_X8_uneven_119 n K42 v1 v2 v3 v6 v8 v6 h
set_option maxRecDepth 100000 in
set_option maxHeartbeats 4000000 in
theorem q_X8_uneven_111 {X : Nat → Int32} {d : Nat} (hd : 7 ≤ (d + 1)) {L hi : Nat} (hh : 125 ≤ hi) {n : Nat} {K42 : Int32 → Int32 → Int32 → Int32 → Int32 → Int32 → Hp → Option (Int32 × Hp)} (HK42 : ∀ (v1 : Int32) (v2 : Int32) (v3 : Int32) (v4 : Int32) (v5 : Int32) (v6 : Int32) (w7 : Option Value) (w8 : Option Value) (h : Hp) (o : (Int32 × Hp)), SHP L hi h → K42 v1 v2 v3 v4 v5 v6 h = some o → Run X (d + 1) 192 42 [some (.ref 96), some (.int v1), some (.int v2), some (.int v3), some (.int v4), some (.int v5), some (.int v6), w7, w8] [] h (some (.int o.1), o.2) ∧ SHP L hi o.2) {v1 : Int32} {v2 : Int32} {v3 : Int32} {v6 : Int32} {v8 : Int32} {d4 : Int32} {d5 : Int32} {d7 : Int32} {h : Hp} {o : (Int32 × Hp)}  (SH : SHP L hi h) (hf : g_X8_uneven_111 n K42 v1 v2 v3 v6 v8 h = some o) : Run X (d + 1) 192 111 [some (.ref 96), some (.int v1), some (.int v2), some (.int v3), some (.int d4), some (.int d5), some (.int v6), some (.int d7), some (.int v8)] [] h (some (.int o.1), o.2) ∧ SHP L hi o.2 := by
  unfold g_X8_uneven_111 at hf
  refine And.imp_left (rs_iload i_X8_uneven_111 rfl) ?_
  refine And.imp_left (rs_istore i_X8_uneven_113 (Nat.le_of_ble_eq_true rfl) (lv' := [some (.ref 96), some (.int v1), some (.int v2), some (.int v3), some (.int v6), some (.int d5), some (.int v6), some (.int d7), some (.int v8)]) rfl) ?_
  refine And.imp_left (rs_iload i_X8_uneven_115 rfl) ?_
  refine And.imp_left (rs_istore i_X8_uneven_117 (Nat.le_of_ble_eq_true rfl) (lv' := [some (.ref 96), some (.int v1), some (.int v2), some (.int v3), some (.int v6), some (.int v8), some (.int v6), some (.int d7), some (.int v8)]) rfl) ?_
  exact q_X8_uneven_119 hd hh HK42 SH hf
noncomputable def g_X8_uneven_87 (n : Nat) (K42 : Int32 → Int32 → Int32 → Int32 → Int32 → Int32 → Hp → Option (Int32 × Hp)) (v1 : Int32) (v2 : Int32) (v3 : Int32) (v4 : Int32) (v5 : Int32) (v6 : Int32) (h : Hp) : Option (Int32 × Hp) :=
  (g_X8_spread n h).bind fun o1 =>
  (g_X8_size (o1.1 - v3) o1.2).bind fun o2 =>
  if v4 = (-1) then
    g_X8_uneven_111 n K42 v1 v2 v3 v6 o2.1 o2.2
  else
    if o2.1 ≤ v5 then
      g_X8_uneven_119 n K42 v1 v2 v3 v4 v5 v6 o2.2
    else
      g_X8_uneven_111 n K42 v1 v2 v3 v6 o2.1 o2.2
set_option maxRecDepth 100000 in
set_option maxHeartbeats 4000000 in
theorem q_X8_uneven_87 {X : Nat → Int32} {d : Nat} (hd : 7 ≤ (d + 1)) {L hi : Nat} (hh : 125 ≤ hi) {n : Nat} {K42 : Int32 → Int32 → Int32 → Int32 → Int32 → Int32 → Hp → Option (Int32 × Hp)} (HK42 : ∀ (v1 : Int32) (v2 : Int32) (v3 : Int32) (v4 : Int32) (v5 : Int32) (v6 : Int32) (w7 : Option Value) (w8 : Option Value) (h : Hp) (o : (Int32 × Hp)), SHP L hi h → K42 v1 v2 v3 v4 v5 v6 h = some o → Run X (d + 1) 192 42 [some (.ref 96), some (.int v1), some (.int v2), some (.int v3), some (.int v4), some (.int v5), some (.int v6), w7, w8] [] h (some (.int o.1), o.2) ∧ SHP L hi o.2) {v1 : Int32} {v2 : Int32} {v3 : Int32} {v4 : Int32} {v5 : Int32} {v6 : Int32} {d7 : Int32} {w8 : Option Value} {h : Hp} {o : (Int32 × Hp)}  (SH : SHP L hi h) (hf : g_X8_uneven_87 n K42 v1 v2 v3 v4 v5 v6 h = some o) : Run X (d + 1) 192 87 [some (.ref 96), some (.int v1), some (.int v2), some (.int v3), some (.int v4), some (.int v5), some (.int v6), some (.int d7), w8] [] h (some (.int o.1), o.2) ∧ SHP L hi o.2 := by
  unfold g_X8_uneven_87 at hf
  refine And.imp_left (rs_aload_n i_X8_uneven_87 rfl) ?_
  obtain ⟨o1, e1, hf⟩ := bind_some hf
  obtain ⟨u1, SH2⟩ := k_X8_spread (X := X) (d := d) (by omega) (by omega) SH e1
  refine And.imp_left (rs_inV i_X8_uneven_88 m_X8_spread rfl (As := []) (rest := []) rfl rfl (Nat.le_of_ble_eq_true rfl) (sO8 SH hh) u1 (st' := [.int o1.1]) rfl) ?_
  clear SH; have SH := SH2; clear SH2
  refine And.imp_left (rs_iload_n i_X8_uneven_91 rfl) ?_
  refine And.imp_left (rs_isub i_X8_uneven_92) ?_
  obtain ⟨o2, e2, hf⟩ := bind_some hf
  obtain ⟨u2, SH2⟩ := k_X8_size (X := X) (d := d) (by omega) (by omega) SH e2
  refine And.imp_left (rs_inS i_X8_uneven_93 (by decide) m_X8_size rfl (As := [.int (o1.1 - v3)]) (rest := []) rfl rfl (Nat.le_of_ble_eq_true rfl) u2 (st' := [.int o2.1]) rfl) ?_
  clear SH; have SH := SH2; clear SH2
  refine And.imp_left (rs_istore i_X8_uneven_96 (Nat.le_of_ble_eq_true rfl) (lv' := [some (.ref 96), some (.int v1), some (.int v2), some (.int v3), some (.int v4), some (.int v5), some (.int v6), some (.int d7), some (.int o2.1)]) rfl) ?_
  refine And.imp_left (rs_iload i_X8_uneven_98 rfl) ?_
  refine And.imp_left (rs_iconst i_X8_uneven_100 (v := (-1)) (by decide)) ?_
  by_cases c3 : v4 = (-1)
  · replace hf := (if_pos c3).symm.trans hf
    refine And.imp_left (rs_icT i_X8_uneven_101 (ct_eq c3) (tg := 111) (by decide)) ?_
    exact q_X8_uneven_111 hd hh HK42 SH hf
  · replace hf := (if_neg c3).symm.trans hf
    refine And.imp_left (rs_icF i_X8_uneven_101 (cf_eq c3)) ?_
    refine And.imp_left (rs_iload i_X8_uneven_104 rfl) ?_
    refine And.imp_left (rs_iload i_X8_uneven_106 rfl) ?_
    by_cases c4 : o2.1 ≤ v5
    · replace hf := (if_pos c4).symm.trans hf
      refine And.imp_left (rs_icT i_X8_uneven_108 (ct_le c4) (tg := 119) (by decide)) ?_
      exact q_X8_uneven_119 hd hh HK42 SH hf
    · replace hf := (if_neg c4).symm.trans hf
      refine And.imp_left (rs_icF i_X8_uneven_108 (cf_le c4)) ?_
      exact q_X8_uneven_111 hd hh HK42 SH hf
noncomputable def g_X8_uneven_73 (n : Nat) (K42 : Int32 → Int32 → Int32 → Int32 → Int32 → Int32 → Hp → Option (Int32 × Hp)) (v1 : Int32) (v2 : Int32) (v3 : Int32) (v4 : Int32) (v5 : Int32) (v6 : Int32) (v7 : Int32) (h : Hp) : Option (Int32 × Hp) :=
  (g_X8_goes n v1 h).bind fun o1 =>
  if inb v6 12 = true then
  g_X8_uneven_87 n K42 v1 v2 v3 v4 v5 v6 (hsi o1 97 (ix v6) v7)
  else none
set_option maxRecDepth 100000 in
set_option maxHeartbeats 4000000 in
theorem q_X8_uneven_73 {X : Nat → Int32} {d : Nat} (hd : 7 ≤ (d + 1)) {L hi : Nat} (hh : 125 ≤ hi) {n : Nat} {K42 : Int32 → Int32 → Int32 → Int32 → Int32 → Int32 → Hp → Option (Int32 × Hp)} (HK42 : ∀ (v1 : Int32) (v2 : Int32) (v3 : Int32) (v4 : Int32) (v5 : Int32) (v6 : Int32) (w7 : Option Value) (w8 : Option Value) (h : Hp) (o : (Int32 × Hp)), SHP L hi h → K42 v1 v2 v3 v4 v5 v6 h = some o → Run X (d + 1) 192 42 [some (.ref 96), some (.int v1), some (.int v2), some (.int v3), some (.int v4), some (.int v5), some (.int v6), w7, w8] [] h (some (.int o.1), o.2) ∧ SHP L hi o.2) {v1 : Int32} {v2 : Int32} {v3 : Int32} {v4 : Int32} {v5 : Int32} {v6 : Int32} {v7 : Int32} {w8 : Option Value} {h : Hp} {o : (Int32 × Hp)}  (SH : SHP L hi h) (hf : g_X8_uneven_73 n K42 v1 v2 v3 v4 v5 v6 v7 h = some o) : Run X (d + 1) 192 73 [some (.ref 96), some (.int v1), some (.int v2), some (.int v3), some (.int v4), some (.int v5), some (.int v6), some (.int v7), w8] [] h (some (.int o.1), o.2) ∧ SHP L hi o.2 := by
  unfold g_X8_uneven_73 at hf
  refine And.imp_left (rs_aload_n i_X8_uneven_73 rfl) ?_
  refine And.imp_left (rs_iload_n i_X8_uneven_74 rfl) ?_
  obtain ⟨o1, e1, hf⟩ := bind_some hf
  obtain ⟨u1, SH2⟩ := k_X8_goes (X := X) (d := d) (by omega) (by omega) SH e1
  refine And.imp_left (rs_inV i_X8_uneven_75 m_X8_goes rfl (As := [.int v1]) (rest := []) rfl rfl (Nat.le_of_ble_eq_true rfl) (sO8 SH hh) u1 (st' := []) rfl) ?_
  clear SH; have SH := SH2; clear SH2
  refine And.imp_left (rs_aload_n i_X8_uneven_78 rfl) ?_
  refine And.imp_left (rs_getR i_X8_uneven_79 (by decide) (by decide) (sO8 SH hh) (sR8_0 SH hh)) ?_
  refine And.imp_left (rs_iload i_X8_uneven_82 rfl) ?_
  refine And.imp_left (rs_iload i_X8_uneven_84 rfl) ?_
  obtain ⟨c2, hf⟩ := ite_some hf
  refine And.imp_left (rs_iast i_X8_uneven_86 (mkI (sA SH hh (k := 9) (n := 12) (by decide)) c2)) ?_
  have SH := shi SH 97 (ix v6) v7
  exact q_X8_uneven_87 hd hh HK42 SH hf
noncomputable def g_X8_uneven_42 (n : Nat) : Nat → Int32 → Int32 → Int32 → Int32 → Int32 → Int32 → Hp → Option (Int32 × Hp)
  | 0, _, _, _, _, _, _, _ => none
  | m + 1, v1, v2, v3, v4, v5, v6, h =>
    if 12 ≤ v6 then
      if v2 ≠ 0 then
        some (v5, h)
      else
        some (v4, h)
    else
      if inb v6 12 = true then
      g_X8_uneven_73 n (g_X8_uneven_42 n m) v1 v2 v3 v4 v5 v6 (gI h 97 (ix v6)) (hsi h 97 (ix v6) ((gI h 97 (ix v6)) + ((gI h 97 (ix v6)) / 10)))
      else none
set_option maxRecDepth 100000 in
set_option maxHeartbeats 4000000 in
theorem q_X8_uneven_42 {X : Nat → Int32} {d : Nat} (hd : 7 ≤ (d + 1)) {L hi : Nat} (hh : 125 ≤ hi) {n : Nat} : ∀ (m : Nat) (v1 : Int32) (v2 : Int32) (v3 : Int32) (v4 : Int32) (v5 : Int32) (v6 : Int32) (w7 : Option Value) (w8 : Option Value) (h : Hp) (o : (Int32 × Hp)), SHP L hi h → g_X8_uneven_42 n m v1 v2 v3 v4 v5 v6 h = some o → Run X (d + 1) 192 42 [some (.ref 96), some (.int v1), some (.int v2), some (.int v3), some (.int v4), some (.int v5), some (.int v6), w7, w8] [] h (some (.int o.1), o.2) ∧ SHP L hi o.2 := by
  intro m
  induction m with
  | zero => intro v1 v2 v3 v4 v5 v6 w7 w8 h o SH hf; cases hf
  | succ m ih =>
    intro v1 v2 v3 v4 v5 v6 w7 w8 h o SH hf
    rw [g_X8_uneven_42] at hf
    refine And.imp_left (rs_iload i_X8_uneven_42 rfl) ?_
    refine And.imp_left (rs_bipush i_X8_uneven_44 (v := 12) (by decide)) ?_
    by_cases c1 : 12 ≤ v6
    · replace hf := (if_pos c1).symm.trans hf
      refine And.imp_left (rs_icT i_X8_uneven_46 (ct_ge c1) (tg := 125) (by decide)) ?_
      refine And.imp_left (rs_iload_n i_X8_uneven_125 rfl) ?_
      by_cases c2 : v2 ≠ 0
      · replace hf := (if_pos c2).symm.trans hf
        refine And.imp_left (rs_ifT i_X8_uneven_126 (ct_ne c2) (tg := 134) (by decide)) ?_
        refine And.imp_left (rs_iload i_X8_uneven_134 rfl) ?_
        have hf := Option.some.inj hf
        subst hf
        exact ⟨rs_iret i_X8_uneven_136 m_X8_uneven rfl, SH⟩
      · replace hf := (if_neg c2).symm.trans hf
        refine And.imp_left (rs_ifF i_X8_uneven_126 (cf_ne c2)) ?_
        refine And.imp_left (rs_iload i_X8_uneven_129 rfl) ?_
        refine And.imp_left (rs_goto i_X8_uneven_131 (tg := 136) (by decide)) ?_
        have hf := Option.some.inj hf
        subst hf
        exact ⟨rs_iret i_X8_uneven_136 m_X8_uneven rfl, SH⟩
    · replace hf := (if_neg c1).symm.trans hf
      refine And.imp_left (rs_icF i_X8_uneven_46 (cf_ge c1)) ?_
      refine And.imp_left (rs_aload_n i_X8_uneven_49 rfl) ?_
      refine And.imp_left (rs_getR i_X8_uneven_50 (by decide) (by decide) (sO8 SH hh) (sR8_0 SH hh)) ?_
      refine And.imp_left (rs_iload i_X8_uneven_53 rfl) ?_
      obtain ⟨c3, hf⟩ := ite_some hf
      refine And.imp_left (rs_iald i_X8_uneven_55 (mkI (sA SH hh (k := 9) (n := 12) (by decide)) c3)) ?_
      refine And.imp_left (rs_istore i_X8_uneven_56 (Nat.le_of_ble_eq_true rfl) (lv' := [some (.ref 96), some (.int v1), some (.int v2), some (.int v3), some (.int v4), some (.int v5), some (.int v6), some (.int (gI h 97 (ix v6))), w8]) rfl) ?_
      refine And.imp_left (rs_aload_n i_X8_uneven_58 rfl) ?_
      refine And.imp_left (rs_getR i_X8_uneven_59 (by decide) (by decide) (sO8 SH hh) (sR8_0 SH hh)) ?_
      refine And.imp_left (rs_iload i_X8_uneven_62 rfl) ?_
      refine And.imp_left (rs_iload i_X8_uneven_64 rfl) ?_
      refine And.imp_left (rs_iload i_X8_uneven_66 rfl) ?_
      refine And.imp_left (rs_bipush i_X8_uneven_68 (v := 10) (by decide)) ?_
      refine And.imp_left (rs_idiv i_X8_uneven_70 (by decide)) ?_
      refine And.imp_left (rs_iadd i_X8_uneven_71) ?_
      refine And.imp_left (rs_iast i_X8_uneven_72 (mkI (sA SH hh (k := 9) (n := 12) (by decide)) c3)) ?_
      have SH := shi SH 97 (ix v6) ((gI h 97 (ix v6)) + ((gI h 97 (ix v6)) / 10))
      exact q_X8_uneven_73 hd hh ih SH hf
noncomputable def g_X8_uneven_0 (n : Nat) (v1 : Int32) (v2 : Int32) (h : Hp) : Option (Int32 × Hp) :=
  (g_X8_areSteps v1 h).bind fun o1 =>
  if o1.1 ≠ 0 then
    (g_X8_in v2 0 1 o1.2).bind fun o3 =>
    if o3.1 ≠ 0 then
      (g_X8_goes n v1 o3.2).bind fun o5 =>
      (g_X8_spread n o5).bind fun o6 =>
      g_X8_uneven_42 n n v1 v2 o6.1 (-1) 0 0 o6.2
    else
      some ((-7), o3.2)
  else
    some ((-5), o1.2)
set_option maxRecDepth 100000 in
set_option maxHeartbeats 4000000 in
theorem q_X8_uneven_0 {X : Nat → Int32} {d : Nat} (hd : 7 ≤ (d + 1)) {L hi : Nat} (hh : 125 ≤ hi) {n : Nat} {v1 : Int32} {v2 : Int32} {h : Hp} {o : (Int32 × Hp)}  (SH : SHP L hi h) (hf : g_X8_uneven_0 n v1 v2 h = some o) : Run X (d + 1) 192 0 [some (.ref 96), some (.int v1), some (.int v2), none, none, none, none, none, none] [] h (some (.int o.1), o.2) ∧ SHP L hi o.2 := by
  unfold g_X8_uneven_0 at hf
  refine And.imp_left (rs_aload_n i_X8_uneven_0 rfl) ?_
  refine And.imp_left (rs_iload_n i_X8_uneven_1 rfl) ?_
  obtain ⟨o1, e1, hf⟩ := bind_some hf
  obtain ⟨u1, SH2⟩ := k_X8_areSteps (X := X) (d := d) (by omega) (by omega) SH e1
  refine And.imp_left (rs_inV i_X8_uneven_2 m_X8_areSteps rfl (As := [.int v1]) (rest := []) rfl rfl (Nat.le_of_ble_eq_true rfl) (sO8 SH hh) u1 (st' := [.int o1.1]) rfl) ?_
  clear SH; have SH := SH2; clear SH2
  by_cases c2 : o1.1 ≠ 0
  · replace hf := (if_pos c2).symm.trans hf
    refine And.imp_left (rs_ifT i_X8_uneven_5 (ct_ne c2) (tg := 11) (by decide)) ?_
    refine And.imp_left (rs_iload_n i_X8_uneven_11 rfl) ?_
    refine And.imp_left (rs_iconst i_X8_uneven_12 (v := 0) (by decide)) ?_
    refine And.imp_left (rs_iconst i_X8_uneven_13 (v := 1) (by decide)) ?_
    obtain ⟨o3, e3, hf⟩ := bind_some hf
    obtain ⟨u3, SH2⟩ := k_X8_in (X := X) (d := d) (by omega) (by omega) SH e3
    refine And.imp_left (rs_inS i_X8_uneven_14 (by decide) m_X8_in rfl (As := [.int v2, .int 0, .int 1]) (rest := []) rfl rfl (Nat.le_of_ble_eq_true rfl) u3 (st' := [.int o3.1]) rfl) ?_
    clear SH; have SH := SH2; clear SH2
    by_cases c4 : o3.1 ≠ 0
    · replace hf := (if_pos c4).symm.trans hf
      refine And.imp_left (rs_ifT i_X8_uneven_17 (ct_ne c4) (tg := 23) (by decide)) ?_
      refine And.imp_left (rs_aload_n i_X8_uneven_23 rfl) ?_
      refine And.imp_left (rs_iload_n i_X8_uneven_24 rfl) ?_
      obtain ⟨o5, e5, hf⟩ := bind_some hf
      obtain ⟨u5, SH2⟩ := k_X8_goes (X := X) (d := d) (by omega) (by omega) SH e5
      refine And.imp_left (rs_inV i_X8_uneven_25 m_X8_goes rfl (As := [.int v1]) (rest := []) rfl rfl (Nat.le_of_ble_eq_true rfl) (sO8 SH hh) u5 (st' := []) rfl) ?_
      clear SH; have SH := SH2; clear SH2
      refine And.imp_left (rs_aload_n i_X8_uneven_28 rfl) ?_
      obtain ⟨o6, e6, hf⟩ := bind_some hf
      obtain ⟨u6, SH2⟩ := k_X8_spread (X := X) (d := d) (by omega) (by omega) SH e6
      refine And.imp_left (rs_inV i_X8_uneven_29 m_X8_spread rfl (As := []) (rest := []) rfl rfl (Nat.le_of_ble_eq_true rfl) (sO8 SH hh) u6 (st' := [.int o6.1]) rfl) ?_
      clear SH; have SH := SH2; clear SH2
      refine And.imp_left (rs_istore_n i_X8_uneven_32 (Nat.le_of_ble_eq_true rfl) (lv' := [some (.ref 96), some (.int v1), some (.int v2), some (.int o6.1), none, none, none, none, none]) rfl) ?_
      refine And.imp_left (rs_iconst i_X8_uneven_33 (v := (-1)) (by decide)) ?_
      refine And.imp_left (rs_istore i_X8_uneven_34 (Nat.le_of_ble_eq_true rfl) (lv' := [some (.ref 96), some (.int v1), some (.int v2), some (.int o6.1), some (.int (-1)), none, none, none, none]) rfl) ?_
      refine And.imp_left (rs_iconst i_X8_uneven_36 (v := 0) (by decide)) ?_
      refine And.imp_left (rs_istore i_X8_uneven_37 (Nat.le_of_ble_eq_true rfl) (lv' := [some (.ref 96), some (.int v1), some (.int v2), some (.int o6.1), some (.int (-1)), some (.int 0), none, none, none]) rfl) ?_
      refine And.imp_left (rs_iconst i_X8_uneven_39 (v := 0) (by decide)) ?_
      refine And.imp_left (rs_istore i_X8_uneven_40 (Nat.le_of_ble_eq_true rfl) (lv' := [some (.ref 96), some (.int v1), some (.int v2), some (.int o6.1), some (.int (-1)), some (.int 0), some (.int 0), none, none]) rfl) ?_
      exact q_X8_uneven_42 hd hh _ _ _ _ _ _ _ _ _ _ _ SH hf
    · replace hf := (if_neg c4).symm.trans hf
      refine And.imp_left (rs_ifF i_X8_uneven_17 (cf_ne c4)) ?_
      refine And.imp_left (rs_bipush i_X8_uneven_20 (v := (-7)) (by decide)) ?_
      have hf := Option.some.inj hf
      subst hf
      exact ⟨rs_iret i_X8_uneven_22 m_X8_uneven rfl, SH⟩
  · replace hf := (if_neg c2).symm.trans hf
    refine And.imp_left (rs_ifF i_X8_uneven_5 (cf_ne c2)) ?_
    refine And.imp_left (rs_bipush i_X8_uneven_8 (v := (-5)) (by decide)) ?_
    have hf := Option.some.inj hf
    subst hf
    exact ⟨rs_iret i_X8_uneven_10 m_X8_uneven rfl, SH⟩
noncomputable def g_X8_uneven (n : Nat) (v1 : Int32) (v2 : Int32) (h : Hp) : Option (Int32 × Hp) := g_X8_uneven_0 n v1 v2 h
theorem k_X8_uneven {X : Nat → Int32} {d : Nat} (hd : 7 ≤ d) {L hi : Nat} (hh : 125 ≤ hi) {n : Nat} {v1 : Int32} {v2 : Int32} {h : Hp} {o : (Int32 × Hp)}  (SH : SHP L hi h) (hf : g_X8_uneven n v1 v2 h = some o) : Calls X d 192 [.ref 96, .int v1, .int v2] h (some (.int o.1), o.2) ∧ SHP L hi o.2 := by
  obtain ⟨d, rfl⟩ : ∃ z, d = z + 1 := ⟨d - 1, by omega⟩
  obtain ⟨r, S2⟩ := q_X8_uneven_0 hd hh SH hf
  exact ⟨⟨_, rfl, r⟩, S2⟩
noncomputable def g_X8_cooked_57 (n : Nat) (K5 : Int32 → Int32 → Int32 → Int32 → Hp → Option (Int32 × Hp)) (v1 : Int32) (v2 : Int32) (v4 : Int32) (s0 : Int32) (s1 : Int32) (h : Hp) : Option (Int32 × Hp) :=
  K5 v1 v2 (s0 + s1) (v4 + 1) h
set_option maxRecDepth 100000 in
set_option maxHeartbeats 4000000 in
theorem q_X8_cooked_57 {X : Nat → Int32} {d : Nat} (hd : 1 ≤ (d + 1)) {L hi : Nat} (hh : 125 ≤ hi) {n : Nat} {K5 : Int32 → Int32 → Int32 → Int32 → Hp → Option (Int32 × Hp)} (HK5 : ∀ (v1 : Int32) (v2 : Int32) (v3 : Int32) (v4 : Int32) (w5 : Option Value) (w6 : Option Value) (h : Hp) (o : (Int32 × Hp)), SHP L hi h → K5 v1 v2 v3 v4 h = some o → Run X (d + 1) 193 5 [some (.ref 96), some (.int v1), some (.int v2), some (.int v3), some (.int v4), w5, w6] [] h (some (.int o.1), o.2) ∧ SHP L hi o.2) {v1 : Int32} {v2 : Int32} {v4 : Int32} {s0 : Int32} {s1 : Int32} {d3 : Int32} {d5 : Int32} {d6 : Int32} {h : Hp} {o : (Int32 × Hp)}  (SH : SHP L hi h) (hf : g_X8_cooked_57 n K5 v1 v2 v4 s0 s1 h = some o) : Run X (d + 1) 193 57 [some (.ref 96), some (.int v1), some (.int v2), some (.int d3), some (.int v4), some (.int d5), some (.int d6)] [.int s1, .int s0] h (some (.int o.1), o.2) ∧ SHP L hi o.2 := by
  unfold g_X8_cooked_57 at hf
  refine And.imp_left (rs_iadd i_X8_cooked_57) ?_
  refine And.imp_left (rs_istore_n i_X8_cooked_58 (Nat.le_of_ble_eq_true rfl) (lv' := [some (.ref 96), some (.int v1), some (.int v2), some (.int (s0 + s1)), some (.int v4), some (.int d5), some (.int d6)]) rfl) ?_
  refine And.imp_left (rs_iinc i_X8_cooked_59 rfl (v := v4 + 1) rfl (Nat.le_of_ble_eq_true rfl) (lv' := [some (.ref 96), some (.int v1), some (.int v2), some (.int (s0 + s1)), some (.int (v4 + 1)), some (.int d5), some (.int d6)]) rfl) ?_
  refine And.imp_left (rs_goto i_X8_cooked_62 (tg := 5) (by decide)) ?_
  exact HK5 _ _ _ _ _ _ _ _ SH hf
noncomputable def g_X8_cooked_43 (n : Nat) (K5 : Int32 → Int32 → Int32 → Int32 → Hp → Option (Int32 × Hp)) (v1 : Int32) (v2 : Int32) (v3 : Int32) (v4 : Int32) (s0 : Int32) (h : Hp) : Option (Int32 × Hp) :=
  if s0 ≠ v2 then
    g_X8_cooked_57 n K5 v1 v2 v4 v3 0 h
  else
    g_X8_cooked_57 n K5 v1 v2 v4 v3 1 h
set_option maxRecDepth 100000 in
set_option maxHeartbeats 4000000 in
theorem q_X8_cooked_43 {X : Nat → Int32} {d : Nat} (hd : 1 ≤ (d + 1)) {L hi : Nat} (hh : 125 ≤ hi) {n : Nat} {K5 : Int32 → Int32 → Int32 → Int32 → Hp → Option (Int32 × Hp)} (HK5 : ∀ (v1 : Int32) (v2 : Int32) (v3 : Int32) (v4 : Int32) (w5 : Option Value) (w6 : Option Value) (h : Hp) (o : (Int32 × Hp)), SHP L hi h → K5 v1 v2 v3 v4 h = some o → Run X (d + 1) 193 5 [some (.ref 96), some (.int v1), some (.int v2), some (.int v3), some (.int v4), w5, w6] [] h (some (.int o.1), o.2) ∧ SHP L hi o.2) {v1 : Int32} {v2 : Int32} {v3 : Int32} {v4 : Int32} {s0 : Int32} {d5 : Int32} {w6 : Option Value} {h : Hp} {o : (Int32 × Hp)}  (SH : SHP L hi h) (hf : g_X8_cooked_43 n K5 v1 v2 v3 v4 s0 h = some o) : Run X (d + 1) 193 43 [some (.ref 96), some (.int v1), some (.int v2), some (.int v3), some (.int v4), some (.int d5), w6] [.int s0] h (some (.int o.1), o.2) ∧ SHP L hi o.2 := by
  unfold g_X8_cooked_43 at hf
  refine And.imp_left (rs_istore i_X8_cooked_43 (Nat.le_of_ble_eq_true rfl) (lv' := [some (.ref 96), some (.int v1), some (.int v2), some (.int v3), some (.int v4), some (.int d5), some (.int s0)]) rfl) ?_
  refine And.imp_left (rs_iload_n i_X8_cooked_45 rfl) ?_
  refine And.imp_left (rs_iload i_X8_cooked_46 rfl) ?_
  refine And.imp_left (rs_iload_n i_X8_cooked_48 rfl) ?_
  by_cases c1 : s0 ≠ v2
  · replace hf := (if_pos c1).symm.trans hf
    refine And.imp_left (rs_icT i_X8_cooked_49 (ct_ne c1) (tg := 56) (by decide)) ?_
    refine And.imp_left (rs_iconst i_X8_cooked_56 (v := 0) (by decide)) ?_
    exact q_X8_cooked_57 hd hh HK5 SH hf
  · replace hf := (if_neg c1).symm.trans hf
    refine And.imp_left (rs_icF i_X8_cooked_49 (cf_ne c1)) ?_
    refine And.imp_left (rs_iconst i_X8_cooked_52 (v := 1) (by decide)) ?_
    refine And.imp_left (rs_goto i_X8_cooked_53 (tg := 57) (by decide)) ?_
    exact q_X8_cooked_57 hd hh HK5 SH hf
noncomputable def g_X8_cooked_5 (n : Nat) : Nat → Int32 → Int32 → Int32 → Int32 → Hp → Option (Int32 × Hp)
  | 0, _, _, _, _, _ => none
  | m + 1, v1, v2, v3, v4, h =>
    if 12 ≤ v4 then
      some (v3, h)
    else
      (g_X8_thickOf v4 h).bind fun o2 =>
      if o2.1 ≤ v1 then
        if (2 * o2.1) ≤ v1 then
          g_X8_cooked_43 n (g_X8_cooked_5 n m) v1 v2 v3 v4 2 o2.2
        else
          g_X8_cooked_43 n (g_X8_cooked_5 n m) v1 v2 v3 v4 1 o2.2
      else
        g_X8_cooked_43 n (g_X8_cooked_5 n m) v1 v2 v3 v4 0 o2.2
set_option maxRecDepth 100000 in
set_option maxHeartbeats 4000000 in
theorem q_X8_cooked_5 {X : Nat → Int32} {d : Nat} (hd : 1 ≤ (d + 1)) {L hi : Nat} (hh : 125 ≤ hi) {n : Nat} : ∀ (m : Nat) (v1 : Int32) (v2 : Int32) (v3 : Int32) (v4 : Int32) (w5 : Option Value) (w6 : Option Value) (h : Hp) (o : (Int32 × Hp)), SHP L hi h → g_X8_cooked_5 n m v1 v2 v3 v4 h = some o → Run X (d + 1) 193 5 [some (.ref 96), some (.int v1), some (.int v2), some (.int v3), some (.int v4), w5, w6] [] h (some (.int o.1), o.2) ∧ SHP L hi o.2 := by
  intro m
  induction m with
  | zero => intro v1 v2 v3 v4 w5 w6 h o SH hf; cases hf
  | succ m ih =>
    intro v1 v2 v3 v4 w5 w6 h o SH hf
    rw [g_X8_cooked_5] at hf
    refine And.imp_left (rs_iload i_X8_cooked_5 rfl) ?_
    refine And.imp_left (rs_bipush i_X8_cooked_7 (v := 12) (by decide)) ?_
    by_cases c1 : 12 ≤ v4
    · replace hf := (if_pos c1).symm.trans hf
      refine And.imp_left (rs_icT i_X8_cooked_9 (ct_ge c1) (tg := 65) (by decide)) ?_
      refine And.imp_left (rs_iload_n i_X8_cooked_65 rfl) ?_
      have hf := Option.some.inj hf
      subst hf
      exact ⟨rs_iret i_X8_cooked_66 m_X8_cooked rfl, SH⟩
    · replace hf := (if_neg c1).symm.trans hf
      refine And.imp_left (rs_icF i_X8_cooked_9 (cf_ge c1)) ?_
      refine And.imp_left (rs_aload_n i_X8_cooked_12 rfl) ?_
      refine And.imp_left (rs_iload i_X8_cooked_13 rfl) ?_
      obtain ⟨o2, e2, hf⟩ := bind_some hf
      obtain ⟨u2, SH2⟩ := k_X8_thickOf (X := X) (d := d) (by omega) (by omega) SH e2
      refine And.imp_left (rs_inV i_X8_cooked_15 m_X8_thickOf rfl (As := [.int v4]) (rest := []) rfl rfl (Nat.le_of_ble_eq_true rfl) (sO8 SH hh) u2 (st' := [.int o2.1]) rfl) ?_
      clear SH; have SH := SH2; clear SH2
      refine And.imp_left (rs_istore i_X8_cooked_18 (Nat.le_of_ble_eq_true rfl) (lv' := [some (.ref 96), some (.int v1), some (.int v2), some (.int v3), some (.int v4), some (.int o2.1), w6]) rfl) ?_
      refine And.imp_left (rs_iload_n i_X8_cooked_20 rfl) ?_
      refine And.imp_left (rs_iload i_X8_cooked_21 rfl) ?_
      by_cases c3 : o2.1 ≤ v1
      · replace hf := (if_pos c3).symm.trans hf
        refine And.imp_left (rs_icT i_X8_cooked_23 (ct_ge c3) (tg := 30) (by decide)) ?_
        refine And.imp_left (rs_iload_n i_X8_cooked_30 rfl) ?_
        refine And.imp_left (rs_iconst i_X8_cooked_31 (v := 2) (by decide)) ?_
        refine And.imp_left (rs_iload i_X8_cooked_32 rfl) ?_
        refine And.imp_left (rs_imul i_X8_cooked_34) ?_
        by_cases c4 : (2 * o2.1) ≤ v1
        · replace hf := (if_pos c4).symm.trans hf
          refine And.imp_left (rs_icT i_X8_cooked_35 (ct_ge c4) (tg := 42) (by decide)) ?_
          refine And.imp_left (rs_iconst i_X8_cooked_42 (v := 2) (by decide)) ?_
          exact q_X8_cooked_43 hd hh ih SH hf
        · replace hf := (if_neg c4).symm.trans hf
          refine And.imp_left (rs_icF i_X8_cooked_35 (cf_ge c4)) ?_
          refine And.imp_left (rs_iconst i_X8_cooked_38 (v := 1) (by decide)) ?_
          refine And.imp_left (rs_goto i_X8_cooked_39 (tg := 43) (by decide)) ?_
          exact q_X8_cooked_43 hd hh ih SH hf
      · replace hf := (if_neg c3).symm.trans hf
        refine And.imp_left (rs_icF i_X8_cooked_23 (cf_ge c3)) ?_
        refine And.imp_left (rs_iconst i_X8_cooked_26 (v := 0) (by decide)) ?_
        refine And.imp_left (rs_goto i_X8_cooked_27 (tg := 43) (by decide)) ?_
        exact q_X8_cooked_43 hd hh ih SH hf
noncomputable def g_X8_cooked_0 (n : Nat) (v1 : Int32) (v2 : Int32) (h : Hp) : Option (Int32 × Hp) :=
  g_X8_cooked_5 n n v1 v2 0 0 h
set_option maxRecDepth 100000 in
set_option maxHeartbeats 4000000 in
theorem q_X8_cooked_0 {X : Nat → Int32} {d : Nat} (hd : 1 ≤ (d + 1)) {L hi : Nat} (hh : 125 ≤ hi) {n : Nat} {v1 : Int32} {v2 : Int32} {h : Hp} {o : (Int32 × Hp)}  (SH : SHP L hi h) (hf : g_X8_cooked_0 n v1 v2 h = some o) : Run X (d + 1) 193 0 [some (.ref 96), some (.int v1), some (.int v2), none, none, none, none] [] h (some (.int o.1), o.2) ∧ SHP L hi o.2 := by
  unfold g_X8_cooked_0 at hf
  refine And.imp_left (rs_iconst i_X8_cooked_0 (v := 0) (by decide)) ?_
  refine And.imp_left (rs_istore_n i_X8_cooked_1 (Nat.le_of_ble_eq_true rfl) (lv' := [some (.ref 96), some (.int v1), some (.int v2), some (.int 0), none, none, none]) rfl) ?_
  refine And.imp_left (rs_iconst i_X8_cooked_2 (v := 0) (by decide)) ?_
  refine And.imp_left (rs_istore i_X8_cooked_3 (Nat.le_of_ble_eq_true rfl) (lv' := [some (.ref 96), some (.int v1), some (.int v2), some (.int 0), some (.int 0), none, none]) rfl) ?_
  exact q_X8_cooked_5 hd hh _ _ _ _ _ _ _ _ _ SH hf
noncomputable def g_X8_cooked (n : Nat) (v1 : Int32) (v2 : Int32) (h : Hp) : Option (Int32 × Hp) := g_X8_cooked_0 n v1 v2 h
theorem k_X8_cooked {X : Nat → Int32} {d : Nat} (hd : 1 ≤ d) {L hi : Nat} (hh : 125 ≤ hi) {n : Nat} {v1 : Int32} {v2 : Int32} {h : Hp} {o : (Int32 × Hp)}  (SH : SHP L hi h) (hf : g_X8_cooked n v1 v2 h = some o) : Calls X d 193 [.ref 96, .int v1, .int v2] h (some (.int o.1), o.2) ∧ SHP L hi o.2 := by
  obtain ⟨d, rfl⟩ : ∃ z, d = z + 1 := ⟨d - 1, by omega⟩
  obtain ⟨r, S2⟩ := q_X8_cooked_0 hd hh SH hf
  exact ⟨⟨_, rfl, r⟩, S2⟩
noncomputable def g_X8_cooks_0 (n : Nat) (v1 : Int32) (v2 : Int32) (v3 : Int32) (h : Hp) : Option (Int32 × Hp) :=
  (g_X8_areSteps v1 h).bind fun o1 =>
  if o1.1 ≠ 0 then
    (g_X8_in v2 0 9999 o1.2).bind fun o3 =>
    if o3.1 = 0 then
      some ((-7), o3.2)
    else
      (g_X8_in v3 0 2 o3.2).bind fun o5 =>
      if o5.1 ≠ 0 then
        (g_X8_goes n v1 o5.2).bind fun o7 =>
        (g_X8_cooked n v2 v3 o7).bind fun o8 =>
        some (o8.1, o8.2)
      else
        some ((-7), o5.2)
  else
    some ((-5), o1.2)
set_option maxRecDepth 100000 in
set_option maxHeartbeats 4000000 in
theorem q_X8_cooks_0 {X : Nat → Int32} {d : Nat} (hd : 7 ≤ (d + 1)) {L hi : Nat} (hh : 125 ≤ hi) {n : Nat} {v1 : Int32} {v2 : Int32} {v3 : Int32} {h : Hp} {o : (Int32 × Hp)}  (SH : SHP L hi h) (hf : g_X8_cooks_0 n v1 v2 v3 h = some o) : Run X (d + 1) 194 0 [some (.ref 96), some (.int v1), some (.int v2), some (.int v3)] [] h (some (.int o.1), o.2) ∧ SHP L hi o.2 := by
  unfold g_X8_cooks_0 at hf
  refine And.imp_left (rs_aload_n i_X8_cooks_0 rfl) ?_
  refine And.imp_left (rs_iload_n i_X8_cooks_1 rfl) ?_
  obtain ⟨o1, e1, hf⟩ := bind_some hf
  obtain ⟨u1, SH2⟩ := k_X8_areSteps (X := X) (d := d) (by omega) (by omega) SH e1
  refine And.imp_left (rs_inV i_X8_cooks_2 m_X8_areSteps rfl (As := [.int v1]) (rest := []) rfl rfl (Nat.le_of_ble_eq_true rfl) (sO8 SH hh) u1 (st' := [.int o1.1]) rfl) ?_
  clear SH; have SH := SH2; clear SH2
  by_cases c2 : o1.1 ≠ 0
  · replace hf := (if_pos c2).symm.trans hf
    refine And.imp_left (rs_ifT i_X8_cooks_5 (ct_ne c2) (tg := 11) (by decide)) ?_
    refine And.imp_left (rs_iload_n i_X8_cooks_11 rfl) ?_
    refine And.imp_left (rs_iconst i_X8_cooks_12 (v := 0) (by decide)) ?_
    refine And.imp_left (rs_sipush i_X8_cooks_13 (v := 9999) (by decide)) ?_
    obtain ⟨o3, e3, hf⟩ := bind_some hf
    obtain ⟨u3, SH2⟩ := k_X8_in (X := X) (d := d) (by omega) (by omega) SH e3
    refine And.imp_left (rs_inS i_X8_cooks_16 (by decide) m_X8_in rfl (As := [.int v2, .int 0, .int 9999]) (rest := []) rfl rfl (Nat.le_of_ble_eq_true rfl) u3 (st' := [.int o3.1]) rfl) ?_
    clear SH; have SH := SH2; clear SH2
    by_cases c4 : o3.1 = 0
    · replace hf := (if_pos c4).symm.trans hf
      refine And.imp_left (rs_ifT i_X8_cooks_19 (ct_eq c4) (tg := 31) (by decide)) ?_
      refine And.imp_left (rs_bipush i_X8_cooks_31 (v := (-7)) (by decide)) ?_
      have hf := Option.some.inj hf
      subst hf
      exact ⟨rs_iret i_X8_cooks_33 m_X8_cooks rfl, SH⟩
    · replace hf := (if_neg c4).symm.trans hf
      refine And.imp_left (rs_ifF i_X8_cooks_19 (cf_eq c4)) ?_
      refine And.imp_left (rs_iload_n i_X8_cooks_22 rfl) ?_
      refine And.imp_left (rs_iconst i_X8_cooks_23 (v := 0) (by decide)) ?_
      refine And.imp_left (rs_iconst i_X8_cooks_24 (v := 2) (by decide)) ?_
      obtain ⟨o5, e5, hf⟩ := bind_some hf
      obtain ⟨u5, SH2⟩ := k_X8_in (X := X) (d := d) (by omega) (by omega) SH e5
      refine And.imp_left (rs_inS i_X8_cooks_25 (by decide) m_X8_in rfl (As := [.int v3, .int 0, .int 2]) (rest := []) rfl rfl (Nat.le_of_ble_eq_true rfl) u5 (st' := [.int o5.1]) rfl) ?_
      clear SH; have SH := SH2; clear SH2
      by_cases c6 : o5.1 ≠ 0
      · replace hf := (if_pos c6).symm.trans hf
        refine And.imp_left (rs_ifT i_X8_cooks_28 (ct_ne c6) (tg := 34) (by decide)) ?_
        refine And.imp_left (rs_aload_n i_X8_cooks_34 rfl) ?_
        refine And.imp_left (rs_iload_n i_X8_cooks_35 rfl) ?_
        obtain ⟨o7, e7, hf⟩ := bind_some hf
        obtain ⟨u7, SH2⟩ := k_X8_goes (X := X) (d := d) (by omega) (by omega) SH e7
        refine And.imp_left (rs_inV i_X8_cooks_36 m_X8_goes rfl (As := [.int v1]) (rest := []) rfl rfl (Nat.le_of_ble_eq_true rfl) (sO8 SH hh) u7 (st' := []) rfl) ?_
        clear SH; have SH := SH2; clear SH2
        refine And.imp_left (rs_aload_n i_X8_cooks_39 rfl) ?_
        refine And.imp_left (rs_iload_n i_X8_cooks_40 rfl) ?_
        refine And.imp_left (rs_iload_n i_X8_cooks_41 rfl) ?_
        obtain ⟨o8, e8, hf⟩ := bind_some hf
        obtain ⟨u8, SH2⟩ := k_X8_cooked (X := X) (d := d) (by omega) (by omega) SH e8
        refine And.imp_left (rs_inV i_X8_cooks_42 m_X8_cooked rfl (As := [.int v2, .int v3]) (rest := []) rfl rfl (Nat.le_of_ble_eq_true rfl) (sO8 SH hh) u8 (st' := [.int o8.1]) rfl) ?_
        clear SH; have SH := SH2; clear SH2
        have hf := Option.some.inj hf
        subst hf
        exact ⟨rs_iret i_X8_cooks_45 m_X8_cooks rfl, SH⟩
      · replace hf := (if_neg c6).symm.trans hf
        refine And.imp_left (rs_ifF i_X8_cooks_28 (cf_ne c6)) ?_
        refine And.imp_left (rs_bipush i_X8_cooks_31 (v := (-7)) (by decide)) ?_
        have hf := Option.some.inj hf
        subst hf
        exact ⟨rs_iret i_X8_cooks_33 m_X8_cooks rfl, SH⟩
  · replace hf := (if_neg c2).symm.trans hf
    refine And.imp_left (rs_ifF i_X8_cooks_5 (cf_ne c2)) ?_
    refine And.imp_left (rs_bipush i_X8_cooks_8 (v := (-5)) (by decide)) ?_
    have hf := Option.some.inj hf
    subst hf
    exact ⟨rs_iret i_X8_cooks_10 m_X8_cooks rfl, SH⟩
noncomputable def g_X8_cooks (n : Nat) (v1 : Int32) (v2 : Int32) (v3 : Int32) (h : Hp) : Option (Int32 × Hp) := g_X8_cooks_0 n v1 v2 v3 h
theorem k_X8_cooks {X : Nat → Int32} {d : Nat} (hd : 7 ≤ d) {L hi : Nat} (hh : 125 ≤ hi) {n : Nat} {v1 : Int32} {v2 : Int32} {v3 : Int32} {h : Hp} {o : (Int32 × Hp)}  (SH : SHP L hi h) (hf : g_X8_cooks n v1 v2 v3 h = some o) : Calls X d 194 [.ref 96, .int v1, .int v2, .int v3] h (some (.int o.1), o.2) ∧ SHP L hi o.2 := by
  obtain ⟨d, rfl⟩ : ∃ z, d = z + 1 := ⟨d - 1, by omega⟩
  obtain ⟨r, S2⟩ := q_X8_cooks_0 hd hh SH hf
  exact ⟨⟨_, rfl, r⟩, S2⟩
noncomputable def g_X8_pot_71 (n : Nat) (K23 : Int32 → Int32 → Int32 → Hp → Option (Int32 × Hp)) (v2 : Int32) (v3 : Int32) (v4 : Int32) (h : Hp) : Option (Int32 × Hp) :=
  K23 v2 v3 (v4 + 1) h
set_option maxRecDepth 100000 in
set_option maxHeartbeats 4000000 in
theorem q_X8_pot_71 {X : Nat → Int32} {d : Nat} (hd : 7 ≤ (d + 1)) {L hi : Nat} (hh : 125 ≤ hi) {n : Nat} {K23 : Int32 → Int32 → Int32 → Hp → Option (Int32 × Hp)} (HK23 : ∀ (v2 : Int32) (v3 : Int32) (v4 : Int32) (d1 : Int32) (w5 : Option Value) (w6 : Option Value) (h : Hp) (o : (Int32 × Hp)), SHP L hi h → K23 v2 v3 v4 h = some o → Run X (d + 1) 195 23 [some (.ref 96), some (.int d1), some (.int v2), some (.int v3), some (.int v4), w5, w6] [] h (some (.int o.1), o.2) ∧ SHP L hi o.2) {v2 : Int32} {v3 : Int32} {v4 : Int32} {d1 : Int32} {d5 : Int32} {d6 : Int32} {h : Hp} {o : (Int32 × Hp)}  (SH : SHP L hi h) (hf : g_X8_pot_71 n K23 v2 v3 v4 h = some o) : Run X (d + 1) 195 71 [some (.ref 96), some (.int d1), some (.int v2), some (.int v3), some (.int v4), some (.int d5), some (.int d6)] [] h (some (.int o.1), o.2) ∧ SHP L hi o.2 := by
  unfold g_X8_pot_71 at hf
  refine And.imp_left (rs_iinc i_X8_pot_71 rfl (v := v4 + 1) rfl (Nat.le_of_ble_eq_true rfl) (lv' := [some (.ref 96), some (.int d1), some (.int v2), some (.int v3), some (.int (v4 + 1)), some (.int d5), some (.int d6)]) rfl) ?_
  refine And.imp_left (rs_goto i_X8_pot_74 (tg := 23) (by decide)) ?_
  exact HK23 _ _ _ _ _ _ _ _ SH hf
noncomputable def g_X8_pot_65 (n : Nat) (K23 : Int32 → Int32 → Int32 → Hp → Option (Int32 × Hp)) (v4 : Int32) (v5 : Int32) (v6 : Int32) (h : Hp) : Option (Int32 × Hp) :=
  g_X8_pot_71 n K23 v5 v6 v4 h
set_option maxRecDepth 100000 in
set_option maxHeartbeats 4000000 in
theorem q_X8_pot_65 {X : Nat → Int32} {d : Nat} (hd : 7 ≤ (d + 1)) {L hi : Nat} (hh : 125 ≤ hi) {n : Nat} {K23 : Int32 → Int32 → Int32 → Hp → Option (Int32 × Hp)} (HK23 : ∀ (v2 : Int32) (v3 : Int32) (v4 : Int32) (d1 : Int32) (w5 : Option Value) (w6 : Option Value) (h : Hp) (o : (Int32 × Hp)), SHP L hi h → K23 v2 v3 v4 h = some o → Run X (d + 1) 195 23 [some (.ref 96), some (.int d1), some (.int v2), some (.int v3), some (.int v4), w5, w6] [] h (some (.int o.1), o.2) ∧ SHP L hi o.2) {v4 : Int32} {v5 : Int32} {v6 : Int32} {d1 : Int32} {d2 : Int32} {d3 : Int32} {h : Hp} {o : (Int32 × Hp)}  (SH : SHP L hi h) (hf : g_X8_pot_65 n K23 v4 v5 v6 h = some o) : Run X (d + 1) 195 65 [some (.ref 96), some (.int d1), some (.int d2), some (.int d3), some (.int v4), some (.int v5), some (.int v6)] [] h (some (.int o.1), o.2) ∧ SHP L hi o.2 := by
  unfold g_X8_pot_65 at hf
  refine And.imp_left (rs_iload i_X8_pot_65 rfl) ?_
  refine And.imp_left (rs_istore_n i_X8_pot_67 (Nat.le_of_ble_eq_true rfl) (lv' := [some (.ref 96), some (.int d1), some (.int v5), some (.int d3), some (.int v4), some (.int v5), some (.int v6)]) rfl) ?_
  refine And.imp_left (rs_iload i_X8_pot_68 rfl) ?_
  refine And.imp_left (rs_istore_n i_X8_pot_70 (Nat.le_of_ble_eq_true rfl) (lv' := [some (.ref 96), some (.int d1), some (.int v5), some (.int v6), some (.int v4), some (.int v5), some (.int v6)]) rfl) ?_
  exact q_X8_pot_71 hd hh HK23 SH hf
noncomputable def g_X8_pot_23 (n : Nat) : Nat → Int32 → Int32 → Int32 → Hp → Option (Int32 × Hp)
  | 0, _, _, _, _ => none
  | m + 1, v2, v3, v4, h =>
    if 12 ≤ v4 then
      some (v2, h)
    else
      (g_X8_thickOf v4 h).bind fun o2 =>
      (g_X8_cooked n o2.1 1 o2.2).bind fun o3 =>
      if v3 < o3.1 then
        g_X8_pot_65 n (g_X8_pot_23 n m) v4 o2.1 o3.1 o3.2
      else
        if o3.1 ≠ v3 then
          g_X8_pot_71 n (g_X8_pot_23 n m) v2 v3 v4 o3.2
        else
          if v2 ≤ o2.1 then
            g_X8_pot_71 n (g_X8_pot_23 n m) v2 v3 v4 o3.2
          else
            g_X8_pot_65 n (g_X8_pot_23 n m) v4 o2.1 o3.1 o3.2
set_option maxRecDepth 100000 in
set_option maxHeartbeats 4000000 in
theorem q_X8_pot_23 {X : Nat → Int32} {d : Nat} (hd : 7 ≤ (d + 1)) {L hi : Nat} (hh : 125 ≤ hi) {n : Nat} : ∀ (m : Nat) (v2 : Int32) (v3 : Int32) (v4 : Int32) (d1 : Int32) (w5 : Option Value) (w6 : Option Value) (h : Hp) (o : (Int32 × Hp)), SHP L hi h → g_X8_pot_23 n m v2 v3 v4 h = some o → Run X (d + 1) 195 23 [some (.ref 96), some (.int d1), some (.int v2), some (.int v3), some (.int v4), w5, w6] [] h (some (.int o.1), o.2) ∧ SHP L hi o.2 := by
  intro m
  induction m with
  | zero => intro v2 v3 v4 d1 w5 w6 h o SH hf; cases hf
  | succ m ih =>
    intro v2 v3 v4 d1 w5 w6 h o SH hf
    rw [g_X8_pot_23] at hf
    refine And.imp_left (rs_iload i_X8_pot_23 rfl) ?_
    refine And.imp_left (rs_bipush i_X8_pot_25 (v := 12) (by decide)) ?_
    by_cases c1 : 12 ≤ v4
    · replace hf := (if_pos c1).symm.trans hf
      refine And.imp_left (rs_icT i_X8_pot_27 (ct_ge c1) (tg := 77) (by decide)) ?_
      refine And.imp_left (rs_iload_n i_X8_pot_77 rfl) ?_
      have hf := Option.some.inj hf
      subst hf
      exact ⟨rs_iret i_X8_pot_78 m_X8_pot rfl, SH⟩
    · replace hf := (if_neg c1).symm.trans hf
      refine And.imp_left (rs_icF i_X8_pot_27 (cf_ge c1)) ?_
      refine And.imp_left (rs_aload_n i_X8_pot_30 rfl) ?_
      refine And.imp_left (rs_iload i_X8_pot_31 rfl) ?_
      obtain ⟨o2, e2, hf⟩ := bind_some hf
      obtain ⟨u2, SH2⟩ := k_X8_thickOf (X := X) (d := d) (by omega) (by omega) SH e2
      refine And.imp_left (rs_inV i_X8_pot_33 m_X8_thickOf rfl (As := [.int v4]) (rest := []) rfl rfl (Nat.le_of_ble_eq_true rfl) (sO8 SH hh) u2 (st' := [.int o2.1]) rfl) ?_
      clear SH; have SH := SH2; clear SH2
      refine And.imp_left (rs_istore i_X8_pot_36 (Nat.le_of_ble_eq_true rfl) (lv' := [some (.ref 96), some (.int d1), some (.int v2), some (.int v3), some (.int v4), some (.int o2.1), w6]) rfl) ?_
      refine And.imp_left (rs_aload_n i_X8_pot_38 rfl) ?_
      refine And.imp_left (rs_iload i_X8_pot_39 rfl) ?_
      refine And.imp_left (rs_iconst i_X8_pot_41 (v := 1) (by decide)) ?_
      obtain ⟨o3, e3, hf⟩ := bind_some hf
      obtain ⟨u3, SH2⟩ := k_X8_cooked (X := X) (d := d) (by omega) (by omega) SH e3
      refine And.imp_left (rs_inV i_X8_pot_42 m_X8_cooked rfl (As := [.int o2.1, .int 1]) (rest := []) rfl rfl (Nat.le_of_ble_eq_true rfl) (sO8 SH hh) u3 (st' := [.int o3.1]) rfl) ?_
      clear SH; have SH := SH2; clear SH2
      refine And.imp_left (rs_istore i_X8_pot_45 (Nat.le_of_ble_eq_true rfl) (lv' := [some (.ref 96), some (.int d1), some (.int v2), some (.int v3), some (.int v4), some (.int o2.1), some (.int o3.1)]) rfl) ?_
      refine And.imp_left (rs_iload i_X8_pot_47 rfl) ?_
      refine And.imp_left (rs_iload_n i_X8_pot_49 rfl) ?_
      by_cases c4 : v3 < o3.1
      · replace hf := (if_pos c4).symm.trans hf
        refine And.imp_left (rs_icT i_X8_pot_50 (ct_gt c4) (tg := 65) (by decide)) ?_
        exact q_X8_pot_65 hd hh ih SH hf
      · replace hf := (if_neg c4).symm.trans hf
        refine And.imp_left (rs_icF i_X8_pot_50 (cf_gt c4)) ?_
        refine And.imp_left (rs_iload i_X8_pot_53 rfl) ?_
        refine And.imp_left (rs_iload_n i_X8_pot_55 rfl) ?_
        by_cases c5 : o3.1 ≠ v3
        · replace hf := (if_pos c5).symm.trans hf
          refine And.imp_left (rs_icT i_X8_pot_56 (ct_ne c5) (tg := 71) (by decide)) ?_
          exact q_X8_pot_71 hd hh ih SH hf
        · replace hf := (if_neg c5).symm.trans hf
          refine And.imp_left (rs_icF i_X8_pot_56 (cf_ne c5)) ?_
          refine And.imp_left (rs_iload i_X8_pot_59 rfl) ?_
          refine And.imp_left (rs_iload_n i_X8_pot_61 rfl) ?_
          by_cases c6 : v2 ≤ o2.1
          · replace hf := (if_pos c6).symm.trans hf
            refine And.imp_left (rs_icT i_X8_pot_62 (ct_ge c6) (tg := 71) (by decide)) ?_
            exact q_X8_pot_71 hd hh ih SH hf
          · replace hf := (if_neg c6).symm.trans hf
            refine And.imp_left (rs_icF i_X8_pot_62 (cf_ge c6)) ?_
            exact q_X8_pot_65 hd hh ih SH hf
noncomputable def g_X8_pot_0 (n : Nat) (v1 : Int32) (h : Hp) : Option (Int32 × Hp) :=
  (g_X8_areSteps v1 h).bind fun o1 =>
  if o1.1 ≠ 0 then
    (g_X8_goes n v1 o1.2).bind fun o3 =>
    g_X8_pot_23 n n 0 0 0 o3
  else
    some ((-5), o1.2)
set_option maxRecDepth 100000 in
set_option maxHeartbeats 4000000 in
theorem q_X8_pot_0 {X : Nat → Int32} {d : Nat} (hd : 7 ≤ (d + 1)) {L hi : Nat} (hh : 125 ≤ hi) {n : Nat} {v1 : Int32} {h : Hp} {o : (Int32 × Hp)}  (SH : SHP L hi h) (hf : g_X8_pot_0 n v1 h = some o) : Run X (d + 1) 195 0 [some (.ref 96), some (.int v1), none, none, none, none, none] [] h (some (.int o.1), o.2) ∧ SHP L hi o.2 := by
  unfold g_X8_pot_0 at hf
  refine And.imp_left (rs_aload_n i_X8_pot_0 rfl) ?_
  refine And.imp_left (rs_iload_n i_X8_pot_1 rfl) ?_
  obtain ⟨o1, e1, hf⟩ := bind_some hf
  obtain ⟨u1, SH2⟩ := k_X8_areSteps (X := X) (d := d) (by omega) (by omega) SH e1
  refine And.imp_left (rs_inV i_X8_pot_2 m_X8_areSteps rfl (As := [.int v1]) (rest := []) rfl rfl (Nat.le_of_ble_eq_true rfl) (sO8 SH hh) u1 (st' := [.int o1.1]) rfl) ?_
  clear SH; have SH := SH2; clear SH2
  by_cases c2 : o1.1 ≠ 0
  · replace hf := (if_pos c2).symm.trans hf
    refine And.imp_left (rs_ifT i_X8_pot_5 (ct_ne c2) (tg := 11) (by decide)) ?_
    refine And.imp_left (rs_aload_n i_X8_pot_11 rfl) ?_
    refine And.imp_left (rs_iload_n i_X8_pot_12 rfl) ?_
    obtain ⟨o3, e3, hf⟩ := bind_some hf
    obtain ⟨u3, SH2⟩ := k_X8_goes (X := X) (d := d) (by omega) (by omega) SH e3
    refine And.imp_left (rs_inV i_X8_pot_13 m_X8_goes rfl (As := [.int v1]) (rest := []) rfl rfl (Nat.le_of_ble_eq_true rfl) (sO8 SH hh) u3 (st' := []) rfl) ?_
    clear SH; have SH := SH2; clear SH2
    refine And.imp_left (rs_iconst i_X8_pot_16 (v := 0) (by decide)) ?_
    refine And.imp_left (rs_istore_n i_X8_pot_17 (Nat.le_of_ble_eq_true rfl) (lv' := [some (.ref 96), some (.int v1), some (.int 0), none, none, none, none]) rfl) ?_
    refine And.imp_left (rs_iconst i_X8_pot_18 (v := 0) (by decide)) ?_
    refine And.imp_left (rs_istore_n i_X8_pot_19 (Nat.le_of_ble_eq_true rfl) (lv' := [some (.ref 96), some (.int v1), some (.int 0), some (.int 0), none, none, none]) rfl) ?_
    refine And.imp_left (rs_iconst i_X8_pot_20 (v := 0) (by decide)) ?_
    refine And.imp_left (rs_istore i_X8_pot_21 (Nat.le_of_ble_eq_true rfl) (lv' := [some (.ref 96), some (.int v1), some (.int 0), some (.int 0), some (.int 0), none, none]) rfl) ?_
    exact q_X8_pot_23 hd hh _ _ _ _ _ _ _ _ _ SH hf
  · replace hf := (if_neg c2).symm.trans hf
    refine And.imp_left (rs_ifF i_X8_pot_5 (cf_ne c2)) ?_
    refine And.imp_left (rs_bipush i_X8_pot_8 (v := (-5)) (by decide)) ?_
    have hf := Option.some.inj hf
    subst hf
    exact ⟨rs_iret i_X8_pot_10 m_X8_pot rfl, SH⟩
noncomputable def g_X8_pot (n : Nat) (v1 : Int32) (h : Hp) : Option (Int32 × Hp) := g_X8_pot_0 n v1 h
theorem k_X8_pot {X : Nat → Int32} {d : Nat} (hd : 7 ≤ d) {L hi : Nat} (hh : 125 ≤ hi) {n : Nat} {v1 : Int32} {h : Hp} {o : (Int32 × Hp)}  (SH : SHP L hi h) (hf : g_X8_pot n v1 h = some o) : Calls X d 195 [.ref 96, .int v1] h (some (.int o.1), o.2) ∧ SHP L hi o.2 := by
  obtain ⟨d, rfl⟩ : ∃ z, d = z + 1 := ⟨d - 1, by omega⟩
  obtain ⟨r, S2⟩ := q_X8_pot_0 hd hh SH hf
  exact ⟨⟨_, rfl, r⟩, S2⟩
noncomputable def g_X8_isSpot_0 (v0 : Int32) (h : Hp) : Option (Int32 × Hp) :=
  (g_X8_in v0 0 4095 h).bind fun o1 =>
  if o1.1 = 0 ∨ o1.1 = 1 then
  some (o1.1, o1.2)
  else none
set_option maxRecDepth 100000 in
set_option maxHeartbeats 4000000 in
theorem q_X8_isSpot_0 {X : Nat → Int32} {d : Nat} (hd : 1 ≤ (d + 1)) {L hi : Nat} (hh : 125 ≤ hi) {v0 : Int32} {h : Hp} {o : (Int32 × Hp)}  (SH : SHP L hi h) (hf : g_X8_isSpot_0 v0 h = some o) : Run X (d + 1) 196 0 [some (.int v0)] [] h (some (.int o.1), o.2) ∧ SHP L hi o.2 := by
  unfold g_X8_isSpot_0 at hf
  refine And.imp_left (rs_iload_n i_X8_isSpot_0 rfl) ?_
  refine And.imp_left (rs_iconst i_X8_isSpot_1 (v := 0) (by decide)) ?_
  refine And.imp_left (rs_sipush i_X8_isSpot_2 (v := 4095) (by decide)) ?_
  obtain ⟨o1, e1, hf⟩ := bind_some hf
  obtain ⟨u1, SH2⟩ := k_X8_in (X := X) (d := d) (by omega) (by omega) SH e1
  refine And.imp_left (rs_inS i_X8_isSpot_5 (by decide) m_X8_in rfl (As := [.int v0, .int 0, .int 4095]) (rest := []) rfl rfl (Nat.le_of_ble_eq_true rfl) u1 (st' := [.int o1.1]) rfl) ?_
  clear SH; have SH := SH2; clear SH2
  obtain ⟨c2, hf⟩ := ite_some hf
  have hf := Option.some.inj hf
  subst hf
  exact ⟨rs_iret i_X8_isSpot_8 m_X8_isSpot (decide_eq_true c2), SH⟩
noncomputable def g_X8_isSpot (v0 : Int32) (h : Hp) : Option (Int32 × Hp) := g_X8_isSpot_0 v0 h
theorem k_X8_isSpot {X : Nat → Int32} {d : Nat} (hd : 1 ≤ d) {L hi : Nat} (hh : 125 ≤ hi) {v0 : Int32} {h : Hp} {o : (Int32 × Hp)}  (SH : SHP L hi h) (hf : g_X8_isSpot v0 h = some o) : Calls X d 196 [.int v0] h (some (.int o.1), o.2) ∧ SHP L hi o.2 := by
  obtain ⟨d, rfl⟩ : ∃ z, d = z + 1 := ⟨d - 1, by omega⟩
  obtain ⟨r, S2⟩ := q_X8_isSpot_0 hd hh SH hf
  exact ⟨⟨_, rfl, r⟩, S2⟩
noncomputable def g_X8_doubledOnce_0 (v0 : Int32) (h : Hp) : Option (Int32 × Hp) :=
  if 2048 ≤ v0 then
    some (((2 * (4095 - v0)) + 1), h)
  else
    some ((2 * v0), h)
set_option maxRecDepth 100000 in
set_option maxHeartbeats 4000000 in
theorem q_X8_doubledOnce_0 {X : Nat → Int32} {d : Nat} (hd : 0 ≤ d) {L hi : Nat} (hh : 125 ≤ hi) {v0 : Int32} {h : Hp} {o : (Int32 × Hp)}  (SH : SHP L hi h) (hf : g_X8_doubledOnce_0 v0 h = some o) : Run X d 197 0 [some (.int v0)] [] h (some (.int o.1), o.2) ∧ SHP L hi o.2 := by
  unfold g_X8_doubledOnce_0 at hf
  refine And.imp_left (rs_iload_n i_X8_doubledOnce_0 rfl) ?_
  refine And.imp_left (rs_sipush i_X8_doubledOnce_1 (v := 2048) (by decide)) ?_
  by_cases c1 : 2048 ≤ v0
  · replace hf := (if_pos c1).symm.trans hf
    refine And.imp_left (rs_icT i_X8_doubledOnce_4 (ct_ge c1) (tg := 13) (by decide)) ?_
    refine And.imp_left (rs_iconst i_X8_doubledOnce_13 (v := 2) (by decide)) ?_
    refine And.imp_left (rs_sipush i_X8_doubledOnce_14 (v := 4095) (by decide)) ?_
    refine And.imp_left (rs_iload_n i_X8_doubledOnce_17 rfl) ?_
    refine And.imp_left (rs_isub i_X8_doubledOnce_18) ?_
    refine And.imp_left (rs_imul i_X8_doubledOnce_19) ?_
    refine And.imp_left (rs_iconst i_X8_doubledOnce_20 (v := 1) (by decide)) ?_
    refine And.imp_left (rs_iadd i_X8_doubledOnce_21) ?_
    have hf := Option.some.inj hf
    subst hf
    exact ⟨rs_iret i_X8_doubledOnce_22 m_X8_doubledOnce rfl, SH⟩
  · replace hf := (if_neg c1).symm.trans hf
    refine And.imp_left (rs_icF i_X8_doubledOnce_4 (cf_ge c1)) ?_
    refine And.imp_left (rs_iconst i_X8_doubledOnce_7 (v := 2) (by decide)) ?_
    refine And.imp_left (rs_iload_n i_X8_doubledOnce_8 rfl) ?_
    refine And.imp_left (rs_imul i_X8_doubledOnce_9) ?_
    refine And.imp_left (rs_goto i_X8_doubledOnce_10 (tg := 22) (by decide)) ?_
    have hf := Option.some.inj hf
    subst hf
    exact ⟨rs_iret i_X8_doubledOnce_22 m_X8_doubledOnce rfl, SH⟩
noncomputable def g_X8_doubledOnce (v0 : Int32) (h : Hp) : Option (Int32 × Hp) := g_X8_doubledOnce_0 v0 h
theorem k_X8_doubledOnce {X : Nat → Int32} {d : Nat} (hd : 0 ≤ d) {L hi : Nat} (hh : 125 ≤ hi) {v0 : Int32} {h : Hp} {o : (Int32 × Hp)}  (SH : SHP L hi h) (hf : g_X8_doubledOnce v0 h = some o) : Calls X d 197 [.int v0] h (some (.int o.1), o.2) ∧ SHP L hi o.2 := by
  obtain ⟨r, S2⟩ := q_X8_doubledOnce_0 hd hh SH hf
  exact ⟨⟨_, rfl, r⟩, S2⟩
noncomputable def g_X8_behind_4 (n : Nat) : Nat → Int32 → Int32 → Int32 → Hp → Option (Int32 × Hp)
  | 0, _, _, _, _ => none
  | m + 1, v1, v2, v3, h =>
    if v1 ≤ v3 then
      some (v2, h)
    else
      (g_X8_doubledOnce v2 h).bind fun o2 =>
      (g_X8_behind_4 n m) v1 o2.1 (v3 + 1) o2.2
set_option maxRecDepth 100000 in
set_option maxHeartbeats 4000000 in
theorem q_X8_behind_4 {X : Nat → Int32} {d : Nat} (hd : 1 ≤ (d + 1)) {L hi : Nat} (hh : 125 ≤ hi) {n : Nat} : ∀ (m : Nat) (v1 : Int32) (v2 : Int32) (v3 : Int32) (d0 : Int32) (h : Hp) (o : (Int32 × Hp)), SHP L hi h → g_X8_behind_4 n m v1 v2 v3 h = some o → Run X (d + 1) 198 4 [some (.int d0), some (.int v1), some (.int v2), some (.int v3)] [] h (some (.int o.1), o.2) ∧ SHP L hi o.2 := by
  intro m
  induction m with
  | zero => intro v1 v2 v3 d0 h o SH hf; cases hf
  | succ m ih =>
    intro v1 v2 v3 d0 h o SH hf
    rw [g_X8_behind_4] at hf
    refine And.imp_left (rs_iload_n i_X8_behind_4 rfl) ?_
    refine And.imp_left (rs_iload_n i_X8_behind_5 rfl) ?_
    by_cases c1 : v1 ≤ v3
    · replace hf := (if_pos c1).symm.trans hf
      refine And.imp_left (rs_icT i_X8_behind_6 (ct_ge c1) (tg := 20) (by decide)) ?_
      refine And.imp_left (rs_iload_n i_X8_behind_20 rfl) ?_
      have hf := Option.some.inj hf
      subst hf
      exact ⟨rs_iret i_X8_behind_21 m_X8_behind rfl, SH⟩
    · replace hf := (if_neg c1).symm.trans hf
      refine And.imp_left (rs_icF i_X8_behind_6 (cf_ge c1)) ?_
      refine And.imp_left (rs_iload_n i_X8_behind_9 rfl) ?_
      obtain ⟨o2, e2, hf⟩ := bind_some hf
      obtain ⟨u2, SH2⟩ := k_X8_doubledOnce (X := X) (d := d) (by omega) (by omega) SH e2
      refine And.imp_left (rs_inS i_X8_behind_10 (by decide) m_X8_doubledOnce rfl (As := [.int v2]) (rest := []) rfl rfl (Nat.le_of_ble_eq_true rfl) u2 (st' := [.int o2.1]) rfl) ?_
      clear SH; have SH := SH2; clear SH2
      refine And.imp_left (rs_istore_n i_X8_behind_13 (Nat.le_of_ble_eq_true rfl) (lv' := [some (.int d0), some (.int v1), some (.int o2.1), some (.int v3)]) rfl) ?_
      refine And.imp_left (rs_iinc i_X8_behind_14 rfl (v := v3 + 1) rfl (Nat.le_of_ble_eq_true rfl) (lv' := [some (.int d0), some (.int v1), some (.int o2.1), some (.int (v3 + 1))]) rfl) ?_
      refine And.imp_left (rs_goto i_X8_behind_17 (tg := 4) (by decide)) ?_
      exact ih _ _ _ _ _ _ SH hf
noncomputable def g_X8_behind_0 (n : Nat) (v0 : Int32) (v1 : Int32) (h : Hp) : Option (Int32 × Hp) :=
  g_X8_behind_4 n n v1 v0 0 h
set_option maxRecDepth 100000 in
set_option maxHeartbeats 4000000 in
theorem q_X8_behind_0 {X : Nat → Int32} {d : Nat} (hd : 1 ≤ (d + 1)) {L hi : Nat} (hh : 125 ≤ hi) {n : Nat} {v0 : Int32} {v1 : Int32} {h : Hp} {o : (Int32 × Hp)}  (SH : SHP L hi h) (hf : g_X8_behind_0 n v0 v1 h = some o) : Run X (d + 1) 198 0 [some (.int v0), some (.int v1), none, none] [] h (some (.int o.1), o.2) ∧ SHP L hi o.2 := by
  unfold g_X8_behind_0 at hf
  refine And.imp_left (rs_iload_n i_X8_behind_0 rfl) ?_
  refine And.imp_left (rs_istore_n i_X8_behind_1 (Nat.le_of_ble_eq_true rfl) (lv' := [some (.int v0), some (.int v1), some (.int v0), none]) rfl) ?_
  refine And.imp_left (rs_iconst i_X8_behind_2 (v := 0) (by decide)) ?_
  refine And.imp_left (rs_istore_n i_X8_behind_3 (Nat.le_of_ble_eq_true rfl) (lv' := [some (.int v0), some (.int v1), some (.int v0), some (.int 0)]) rfl) ?_
  exact q_X8_behind_4 hd hh _ _ _ _ _ _ _ SH hf
noncomputable def g_X8_behind (n : Nat) (v0 : Int32) (v1 : Int32) (h : Hp) : Option (Int32 × Hp) := g_X8_behind_0 n v0 v1 h
theorem k_X8_behind {X : Nat → Int32} {d : Nat} (hd : 1 ≤ d) {L hi : Nat} (hh : 125 ≤ hi) {n : Nat} {v0 : Int32} {v1 : Int32} {h : Hp} {o : (Int32 × Hp)}  (SH : SHP L hi h) (hf : g_X8_behind n v0 v1 h = some o) : Calls X d 198 [.int v0, .int v1] h (some (.int o.1), o.2) ∧ SHP L hi o.2 := by
  obtain ⟨d, rfl⟩ : ∃ z, d = z + 1 := ⟨d - 1, by omega⟩
  obtain ⟨r, S2⟩ := q_X8_behind_0 hd hh SH hf
  exact ⟨⟨_, rfl, r⟩, S2⟩
noncomputable def g_X8_place_0 (n : Nat) (v1 : Int32) (v2 : Int32) (h : Hp) : Option (Int32 × Hp) :=
  (g_X8_isSpot v1 h).bind fun o1 =>
  if o1.1 = 0 then
    some ((-2), o1.2)
  else
    (g_X8_in v2 0 64 o1.2).bind fun o3 =>
    if o3.1 = 0 then
      some ((-2), o3.2)
    else
      (g_X8_behind n v1 v2 o3.2).bind fun o5 =>
      some (o5.1, o5.2)
set_option maxRecDepth 100000 in
set_option maxHeartbeats 4000000 in
theorem q_X8_place_0 {X : Nat → Int32} {d : Nat} (hd : 2 ≤ (d + 1)) {L hi : Nat} (hh : 125 ≤ hi) {n : Nat} {v1 : Int32} {v2 : Int32} {h : Hp} {o : (Int32 × Hp)}  (SH : SHP L hi h) (hf : g_X8_place_0 n v1 v2 h = some o) : Run X (d + 1) 199 0 [some (.ref 96), some (.int v1), some (.int v2)] [] h (some (.int o.1), o.2) ∧ SHP L hi o.2 := by
  unfold g_X8_place_0 at hf
  refine And.imp_left (rs_iload_n i_X8_place_0 rfl) ?_
  obtain ⟨o1, e1, hf⟩ := bind_some hf
  obtain ⟨u1, SH2⟩ := k_X8_isSpot (X := X) (d := d) (by omega) (by omega) SH e1
  refine And.imp_left (rs_inS i_X8_place_1 (by decide) m_X8_isSpot rfl (As := [.int v1]) (rest := []) rfl rfl (Nat.le_of_ble_eq_true rfl) u1 (st' := [.int o1.1]) rfl) ?_
  clear SH; have SH := SH2; clear SH2
  by_cases c2 : o1.1 = 0
  · replace hf := (if_pos c2).symm.trans hf
    refine And.imp_left (rs_ifT i_X8_place_4 (ct_eq c2) (tg := 25) (by decide)) ?_
    refine And.imp_left (rs_bipush i_X8_place_25 (v := (-2)) (by decide)) ?_
    have hf := Option.some.inj hf
    subst hf
    exact ⟨rs_iret i_X8_place_27 m_X8_place rfl, SH⟩
  · replace hf := (if_neg c2).symm.trans hf
    refine And.imp_left (rs_ifF i_X8_place_4 (cf_eq c2)) ?_
    refine And.imp_left (rs_iload_n i_X8_place_7 rfl) ?_
    refine And.imp_left (rs_iconst i_X8_place_8 (v := 0) (by decide)) ?_
    refine And.imp_left (rs_bipush i_X8_place_9 (v := 64) (by decide)) ?_
    obtain ⟨o3, e3, hf⟩ := bind_some hf
    obtain ⟨u3, SH2⟩ := k_X8_in (X := X) (d := d) (by omega) (by omega) SH e3
    refine And.imp_left (rs_inS i_X8_place_11 (by decide) m_X8_in rfl (As := [.int v2, .int 0, .int 64]) (rest := []) rfl rfl (Nat.le_of_ble_eq_true rfl) u3 (st' := [.int o3.1]) rfl) ?_
    clear SH; have SH := SH2; clear SH2
    by_cases c4 : o3.1 = 0
    · replace hf := (if_pos c4).symm.trans hf
      refine And.imp_left (rs_ifT i_X8_place_14 (ct_eq c4) (tg := 25) (by decide)) ?_
      refine And.imp_left (rs_bipush i_X8_place_25 (v := (-2)) (by decide)) ?_
      have hf := Option.some.inj hf
      subst hf
      exact ⟨rs_iret i_X8_place_27 m_X8_place rfl, SH⟩
    · replace hf := (if_neg c4).symm.trans hf
      refine And.imp_left (rs_ifF i_X8_place_14 (cf_eq c4)) ?_
      refine And.imp_left (rs_iload_n i_X8_place_17 rfl) ?_
      refine And.imp_left (rs_iload_n i_X8_place_18 rfl) ?_
      obtain ⟨o5, e5, hf⟩ := bind_some hf
      obtain ⟨u5, SH2⟩ := k_X8_behind (X := X) (d := d) (by omega) (by omega) SH e5
      refine And.imp_left (rs_inS i_X8_place_19 (by decide) m_X8_behind rfl (As := [.int v1, .int v2]) (rest := []) rfl rfl (Nat.le_of_ble_eq_true rfl) u5 (st' := [.int o5.1]) rfl) ?_
      clear SH; have SH := SH2; clear SH2
      refine And.imp_left (rs_goto i_X8_place_22 (tg := 27) (by decide)) ?_
      have hf := Option.some.inj hf
      subst hf
      exact ⟨rs_iret i_X8_place_27 m_X8_place rfl, SH⟩
noncomputable def g_X8_place (n : Nat) (v1 : Int32) (v2 : Int32) (h : Hp) : Option (Int32 × Hp) := g_X8_place_0 n v1 v2 h
theorem k_X8_place {X : Nat → Int32} {d : Nat} (hd : 2 ≤ d) {L hi : Nat} (hh : 125 ≤ hi) {n : Nat} {v1 : Int32} {v2 : Int32} {h : Hp} {o : (Int32 × Hp)}  (SH : SHP L hi h) (hf : g_X8_place n v1 v2 h = some o) : Calls X d 199 [.ref 96, .int v1, .int v2] h (some (.int o.1), o.2) ∧ SHP L hi o.2 := by
  obtain ⟨d, rfl⟩ : ∃ z, d = z + 1 := ⟨d - 1, by omega⟩
  obtain ⟨r, S2⟩ := q_X8_place_0 hd hh SH hf
  exact ⟨⟨_, rfl, r⟩, S2⟩
noncomputable def g_X8_apart_0 (n : Nat) (v1 : Int32) (v2 : Int32) (v3 : Int32) (h : Hp) : Option (Int32 × Hp) :=
  (g_X8_isSpot v1 h).bind fun o1 =>
  if o1.1 = 0 then
    some ((-2), o1.2)
  else
    (g_X8_isSpot v2 o1.2).bind fun o3 =>
    if o3.1 = 0 then
      some ((-2), o3.2)
    else
      (g_X8_in v3 0 64 o3.2).bind fun o5 =>
      if o5.1 = 0 then
        some ((-2), o5.2)
      else
        (g_X8_behind n v1 v3 o5.2).bind fun o7 =>
        (g_X8_behind n v2 v3 o7.2).bind fun o8 =>
        (g_X8_size (o7.1 - o8.1) o8.2).bind fun o9 =>
        some (o9.1, o9.2)
set_option maxRecDepth 100000 in
set_option maxHeartbeats 4000000 in
theorem q_X8_apart_0 {X : Nat → Int32} {d : Nat} (hd : 2 ≤ (d + 1)) {L hi : Nat} (hh : 125 ≤ hi) {n : Nat} {v1 : Int32} {v2 : Int32} {v3 : Int32} {h : Hp} {o : (Int32 × Hp)}  (SH : SHP L hi h) (hf : g_X8_apart_0 n v1 v2 v3 h = some o) : Run X (d + 1) 200 0 [some (.ref 96), some (.int v1), some (.int v2), some (.int v3)] [] h (some (.int o.1), o.2) ∧ SHP L hi o.2 := by
  unfold g_X8_apart_0 at hf
  refine And.imp_left (rs_iload_n i_X8_apart_0 rfl) ?_
  obtain ⟨o1, e1, hf⟩ := bind_some hf
  obtain ⟨u1, SH2⟩ := k_X8_isSpot (X := X) (d := d) (by omega) (by omega) SH e1
  refine And.imp_left (rs_inS i_X8_apart_1 (by decide) m_X8_isSpot rfl (As := [.int v1]) (rest := []) rfl rfl (Nat.le_of_ble_eq_true rfl) u1 (st' := [.int o1.1]) rfl) ?_
  clear SH; have SH := SH2; clear SH2
  by_cases c2 : o1.1 = 0
  · replace hf := (if_pos c2).symm.trans hf
    refine And.imp_left (rs_ifT i_X8_apart_4 (ct_eq c2) (tg := 41) (by decide)) ?_
    refine And.imp_left (rs_bipush i_X8_apart_41 (v := (-2)) (by decide)) ?_
    have hf := Option.some.inj hf
    subst hf
    exact ⟨rs_iret i_X8_apart_43 m_X8_apart rfl, SH⟩
  · replace hf := (if_neg c2).symm.trans hf
    refine And.imp_left (rs_ifF i_X8_apart_4 (cf_eq c2)) ?_
    refine And.imp_left (rs_iload_n i_X8_apart_7 rfl) ?_
    obtain ⟨o3, e3, hf⟩ := bind_some hf
    obtain ⟨u3, SH2⟩ := k_X8_isSpot (X := X) (d := d) (by omega) (by omega) SH e3
    refine And.imp_left (rs_inS i_X8_apart_8 (by decide) m_X8_isSpot rfl (As := [.int v2]) (rest := []) rfl rfl (Nat.le_of_ble_eq_true rfl) u3 (st' := [.int o3.1]) rfl) ?_
    clear SH; have SH := SH2; clear SH2
    by_cases c4 : o3.1 = 0
    · replace hf := (if_pos c4).symm.trans hf
      refine And.imp_left (rs_ifT i_X8_apart_11 (ct_eq c4) (tg := 41) (by decide)) ?_
      refine And.imp_left (rs_bipush i_X8_apart_41 (v := (-2)) (by decide)) ?_
      have hf := Option.some.inj hf
      subst hf
      exact ⟨rs_iret i_X8_apart_43 m_X8_apart rfl, SH⟩
    · replace hf := (if_neg c4).symm.trans hf
      refine And.imp_left (rs_ifF i_X8_apart_11 (cf_eq c4)) ?_
      refine And.imp_left (rs_iload_n i_X8_apart_14 rfl) ?_
      refine And.imp_left (rs_iconst i_X8_apart_15 (v := 0) (by decide)) ?_
      refine And.imp_left (rs_bipush i_X8_apart_16 (v := 64) (by decide)) ?_
      obtain ⟨o5, e5, hf⟩ := bind_some hf
      obtain ⟨u5, SH2⟩ := k_X8_in (X := X) (d := d) (by omega) (by omega) SH e5
      refine And.imp_left (rs_inS i_X8_apart_18 (by decide) m_X8_in rfl (As := [.int v3, .int 0, .int 64]) (rest := []) rfl rfl (Nat.le_of_ble_eq_true rfl) u5 (st' := [.int o5.1]) rfl) ?_
      clear SH; have SH := SH2; clear SH2
      by_cases c6 : o5.1 = 0
      · replace hf := (if_pos c6).symm.trans hf
        refine And.imp_left (rs_ifT i_X8_apart_21 (ct_eq c6) (tg := 41) (by decide)) ?_
        refine And.imp_left (rs_bipush i_X8_apart_41 (v := (-2)) (by decide)) ?_
        have hf := Option.some.inj hf
        subst hf
        exact ⟨rs_iret i_X8_apart_43 m_X8_apart rfl, SH⟩
      · replace hf := (if_neg c6).symm.trans hf
        refine And.imp_left (rs_ifF i_X8_apart_21 (cf_eq c6)) ?_
        refine And.imp_left (rs_iload_n i_X8_apart_24 rfl) ?_
        refine And.imp_left (rs_iload_n i_X8_apart_25 rfl) ?_
        obtain ⟨o7, e7, hf⟩ := bind_some hf
        obtain ⟨u7, SH2⟩ := k_X8_behind (X := X) (d := d) (by omega) (by omega) SH e7
        refine And.imp_left (rs_inS i_X8_apart_26 (by decide) m_X8_behind rfl (As := [.int v1, .int v3]) (rest := []) rfl rfl (Nat.le_of_ble_eq_true rfl) u7 (st' := [.int o7.1]) rfl) ?_
        clear SH; have SH := SH2; clear SH2
        refine And.imp_left (rs_iload_n i_X8_apart_29 rfl) ?_
        refine And.imp_left (rs_iload_n i_X8_apart_30 rfl) ?_
        obtain ⟨o8, e8, hf⟩ := bind_some hf
        obtain ⟨u8, SH2⟩ := k_X8_behind (X := X) (d := d) (by omega) (by omega) SH e8
        refine And.imp_left (rs_inS i_X8_apart_31 (by decide) m_X8_behind rfl (As := [.int v2, .int v3]) (rest := [.int o7.1]) rfl rfl (Nat.le_of_ble_eq_true rfl) u8 (st' := [.int o8.1, .int o7.1]) rfl) ?_
        clear SH; have SH := SH2; clear SH2
        refine And.imp_left (rs_isub i_X8_apart_34) ?_
        obtain ⟨o9, e9, hf⟩ := bind_some hf
        obtain ⟨u9, SH2⟩ := k_X8_size (X := X) (d := d) (by omega) (by omega) SH e9
        refine And.imp_left (rs_inS i_X8_apart_35 (by decide) m_X8_size rfl (As := [.int (o7.1 - o8.1)]) (rest := []) rfl rfl (Nat.le_of_ble_eq_true rfl) u9 (st' := [.int o9.1]) rfl) ?_
        clear SH; have SH := SH2; clear SH2
        refine And.imp_left (rs_goto i_X8_apart_38 (tg := 43) (by decide)) ?_
        have hf := Option.some.inj hf
        subst hf
        exact ⟨rs_iret i_X8_apart_43 m_X8_apart rfl, SH⟩
noncomputable def g_X8_apart (n : Nat) (v1 : Int32) (v2 : Int32) (v3 : Int32) (h : Hp) : Option (Int32 × Hp) := g_X8_apart_0 n v1 v2 v3 h
theorem k_X8_apart {X : Nat → Int32} {d : Nat} (hd : 2 ≤ d) {L hi : Nat} (hh : 125 ≤ hi) {n : Nat} {v1 : Int32} {v2 : Int32} {v3 : Int32} {h : Hp} {o : (Int32 × Hp)}  (SH : SHP L hi h) (hf : g_X8_apart n v1 v2 v3 h = some o) : Calls X d 200 [.ref 96, .int v1, .int v2, .int v3] h (some (.int o.1), o.2) ∧ SHP L hi o.2 := by
  obtain ⟨d, rfl⟩ : ∃ z, d = z + 1 := ⟨d - 1, by omega⟩
  obtain ⟨r, S2⟩ := q_X8_apart_0 hd hh SH hf
  exact ⟨⟨_, rfl, r⟩, S2⟩
noncomputable def g_X8_parted_27 (n : Nat) : Nat → Int32 → Int32 → Int32 → Int32 → Hp → Option (Int32 × Hp)
  | 0, _, _, _, _, _ => none
  | m + 1, v1, v2, v3, v4, h =>
    if 64 < v4 then
      some ((-1), h)
    else
      (g_X8_behind n v1 v4 h).bind fun o2 =>
      (g_X8_behind n v2 v4 o2.2).bind fun o3 =>
      (g_X8_size (o2.1 - o3.1) o3.2).bind fun o4 =>
      if o4.1 < v3 then
        (g_X8_parted_27 n m) v1 v2 v3 (v4 + 1) o4.2
      else
        some (v4, o4.2)
set_option maxRecDepth 100000 in
set_option maxHeartbeats 4000000 in
theorem q_X8_parted_27 {X : Nat → Int32} {d : Nat} (hd : 2 ≤ (d + 1)) {L hi : Nat} (hh : 125 ≤ hi) {n : Nat} : ∀ (m : Nat) (v1 : Int32) (v2 : Int32) (v3 : Int32) (v4 : Int32) (h : Hp) (o : (Int32 × Hp)), SHP L hi h → g_X8_parted_27 n m v1 v2 v3 v4 h = some o → Run X (d + 1) 201 27 [some (.ref 96), some (.int v1), some (.int v2), some (.int v3), some (.int v4)] [] h (some (.int o.1), o.2) ∧ SHP L hi o.2 := by
  intro m
  induction m with
  | zero => intro v1 v2 v3 v4 h o SH hf; cases hf
  | succ m ih =>
    intro v1 v2 v3 v4 h o SH hf
    rw [g_X8_parted_27] at hf
    refine And.imp_left (rs_iload i_X8_parted_27 rfl) ?_
    refine And.imp_left (rs_bipush i_X8_parted_29 (v := 64) (by decide)) ?_
    by_cases c1 : 64 < v4
    · replace hf := (if_pos c1).symm.trans hf
      refine And.imp_left (rs_icT i_X8_parted_31 (ct_gt c1) (tg := 63) (by decide)) ?_
      refine And.imp_left (rs_iconst i_X8_parted_63 (v := (-1)) (by decide)) ?_
      have hf := Option.some.inj hf
      subst hf
      exact ⟨rs_iret i_X8_parted_64 m_X8_parted rfl, SH⟩
    · replace hf := (if_neg c1).symm.trans hf
      refine And.imp_left (rs_icF i_X8_parted_31 (cf_gt c1)) ?_
      refine And.imp_left (rs_iload_n i_X8_parted_34 rfl) ?_
      refine And.imp_left (rs_iload i_X8_parted_35 rfl) ?_
      obtain ⟨o2, e2, hf⟩ := bind_some hf
      obtain ⟨u2, SH2⟩ := k_X8_behind (X := X) (d := d) (by omega) (by omega) SH e2
      refine And.imp_left (rs_inS i_X8_parted_37 (by decide) m_X8_behind rfl (As := [.int v1, .int v4]) (rest := []) rfl rfl (Nat.le_of_ble_eq_true rfl) u2 (st' := [.int o2.1]) rfl) ?_
      clear SH; have SH := SH2; clear SH2
      refine And.imp_left (rs_iload_n i_X8_parted_40 rfl) ?_
      refine And.imp_left (rs_iload i_X8_parted_41 rfl) ?_
      obtain ⟨o3, e3, hf⟩ := bind_some hf
      obtain ⟨u3, SH2⟩ := k_X8_behind (X := X) (d := d) (by omega) (by omega) SH e3
      refine And.imp_left (rs_inS i_X8_parted_43 (by decide) m_X8_behind rfl (As := [.int v2, .int v4]) (rest := [.int o2.1]) rfl rfl (Nat.le_of_ble_eq_true rfl) u3 (st' := [.int o3.1, .int o2.1]) rfl) ?_
      clear SH; have SH := SH2; clear SH2
      refine And.imp_left (rs_isub i_X8_parted_46) ?_
      obtain ⟨o4, e4, hf⟩ := bind_some hf
      obtain ⟨u4, SH2⟩ := k_X8_size (X := X) (d := d) (by omega) (by omega) SH e4
      refine And.imp_left (rs_inS i_X8_parted_47 (by decide) m_X8_size rfl (As := [.int (o2.1 - o3.1)]) (rest := []) rfl rfl (Nat.le_of_ble_eq_true rfl) u4 (st' := [.int o4.1]) rfl) ?_
      clear SH; have SH := SH2; clear SH2
      refine And.imp_left (rs_iload_n i_X8_parted_50 rfl) ?_
      by_cases c5 : o4.1 < v3
      · replace hf := (if_pos c5).symm.trans hf
        refine And.imp_left (rs_icT i_X8_parted_51 (ct_lt c5) (tg := 57) (by decide)) ?_
        refine And.imp_left (rs_iinc i_X8_parted_57 rfl (v := v4 + 1) rfl (Nat.le_of_ble_eq_true rfl) (lv' := [some (.ref 96), some (.int v1), some (.int v2), some (.int v3), some (.int (v4 + 1))]) rfl) ?_
        refine And.imp_left (rs_goto i_X8_parted_60 (tg := 27) (by decide)) ?_
        exact ih _ _ _ _ _ _ SH hf
      · replace hf := (if_neg c5).symm.trans hf
        refine And.imp_left (rs_icF i_X8_parted_51 (cf_lt c5)) ?_
        refine And.imp_left (rs_iload i_X8_parted_54 rfl) ?_
        have hf := Option.some.inj hf
        subst hf
        exact ⟨rs_iret i_X8_parted_56 m_X8_parted rfl, SH⟩
noncomputable def g_X8_parted_0 (n : Nat) (v1 : Int32) (v2 : Int32) (v3 : Int32) (h : Hp) : Option (Int32 × Hp) :=
  (g_X8_isSpot v1 h).bind fun o1 =>
  if o1.1 = 0 then
    some ((-2), o1.2)
  else
    (g_X8_isSpot v2 o1.2).bind fun o3 =>
    if o3.1 = 0 then
      some ((-2), o3.2)
    else
      (g_X8_isSpot v3 o3.2).bind fun o5 =>
      if o5.1 ≠ 0 then
        g_X8_parted_27 n n v1 v2 v3 0 o5.2
      else
        some ((-2), o5.2)
set_option maxRecDepth 100000 in
set_option maxHeartbeats 4000000 in
theorem q_X8_parted_0 {X : Nat → Int32} {d : Nat} (hd : 2 ≤ (d + 1)) {L hi : Nat} (hh : 125 ≤ hi) {n : Nat} {v1 : Int32} {v2 : Int32} {v3 : Int32} {h : Hp} {o : (Int32 × Hp)}  (SH : SHP L hi h) (hf : g_X8_parted_0 n v1 v2 v3 h = some o) : Run X (d + 1) 201 0 [some (.ref 96), some (.int v1), some (.int v2), some (.int v3), none] [] h (some (.int o.1), o.2) ∧ SHP L hi o.2 := by
  unfold g_X8_parted_0 at hf
  refine And.imp_left (rs_iload_n i_X8_parted_0 rfl) ?_
  obtain ⟨o1, e1, hf⟩ := bind_some hf
  obtain ⟨u1, SH2⟩ := k_X8_isSpot (X := X) (d := d) (by omega) (by omega) SH e1
  refine And.imp_left (rs_inS i_X8_parted_1 (by decide) m_X8_isSpot rfl (As := [.int v1]) (rest := []) rfl rfl (Nat.le_of_ble_eq_true rfl) u1 (st' := [.int o1.1]) rfl) ?_
  clear SH; have SH := SH2; clear SH2
  by_cases c2 : o1.1 = 0
  · replace hf := (if_pos c2).symm.trans hf
    refine And.imp_left (rs_ifT i_X8_parted_4 (ct_eq c2) (tg := 21) (by decide)) ?_
    refine And.imp_left (rs_bipush i_X8_parted_21 (v := (-2)) (by decide)) ?_
    have hf := Option.some.inj hf
    subst hf
    exact ⟨rs_iret i_X8_parted_23 m_X8_parted rfl, SH⟩
  · replace hf := (if_neg c2).symm.trans hf
    refine And.imp_left (rs_ifF i_X8_parted_4 (cf_eq c2)) ?_
    refine And.imp_left (rs_iload_n i_X8_parted_7 rfl) ?_
    obtain ⟨o3, e3, hf⟩ := bind_some hf
    obtain ⟨u3, SH2⟩ := k_X8_isSpot (X := X) (d := d) (by omega) (by omega) SH e3
    refine And.imp_left (rs_inS i_X8_parted_8 (by decide) m_X8_isSpot rfl (As := [.int v2]) (rest := []) rfl rfl (Nat.le_of_ble_eq_true rfl) u3 (st' := [.int o3.1]) rfl) ?_
    clear SH; have SH := SH2; clear SH2
    by_cases c4 : o3.1 = 0
    · replace hf := (if_pos c4).symm.trans hf
      refine And.imp_left (rs_ifT i_X8_parted_11 (ct_eq c4) (tg := 21) (by decide)) ?_
      refine And.imp_left (rs_bipush i_X8_parted_21 (v := (-2)) (by decide)) ?_
      have hf := Option.some.inj hf
      subst hf
      exact ⟨rs_iret i_X8_parted_23 m_X8_parted rfl, SH⟩
    · replace hf := (if_neg c4).symm.trans hf
      refine And.imp_left (rs_ifF i_X8_parted_11 (cf_eq c4)) ?_
      refine And.imp_left (rs_iload_n i_X8_parted_14 rfl) ?_
      obtain ⟨o5, e5, hf⟩ := bind_some hf
      obtain ⟨u5, SH2⟩ := k_X8_isSpot (X := X) (d := d) (by omega) (by omega) SH e5
      refine And.imp_left (rs_inS i_X8_parted_15 (by decide) m_X8_isSpot rfl (As := [.int v3]) (rest := []) rfl rfl (Nat.le_of_ble_eq_true rfl) u5 (st' := [.int o5.1]) rfl) ?_
      clear SH; have SH := SH2; clear SH2
      by_cases c6 : o5.1 ≠ 0
      · replace hf := (if_pos c6).symm.trans hf
        refine And.imp_left (rs_ifT i_X8_parted_18 (ct_ne c6) (tg := 24) (by decide)) ?_
        refine And.imp_left (rs_iconst i_X8_parted_24 (v := 0) (by decide)) ?_
        refine And.imp_left (rs_istore i_X8_parted_25 (Nat.le_of_ble_eq_true rfl) (lv' := [some (.ref 96), some (.int v1), some (.int v2), some (.int v3), some (.int 0)]) rfl) ?_
        exact q_X8_parted_27 hd hh _ _ _ _ _ _ _ SH hf
      · replace hf := (if_neg c6).symm.trans hf
        refine And.imp_left (rs_ifF i_X8_parted_18 (cf_ne c6)) ?_
        refine And.imp_left (rs_bipush i_X8_parted_21 (v := (-2)) (by decide)) ?_
        have hf := Option.some.inj hf
        subst hf
        exact ⟨rs_iret i_X8_parted_23 m_X8_parted rfl, SH⟩
noncomputable def g_X8_parted (n : Nat) (v1 : Int32) (v2 : Int32) (v3 : Int32) (h : Hp) : Option (Int32 × Hp) := g_X8_parted_0 n v1 v2 v3 h
theorem k_X8_parted {X : Nat → Int32} {d : Nat} (hd : 2 ≤ d) {L hi : Nat} (hh : 125 ≤ hi) {n : Nat} {v1 : Int32} {v2 : Int32} {v3 : Int32} {h : Hp} {o : (Int32 × Hp)}  (SH : SHP L hi h) (hf : g_X8_parted n v1 v2 v3 h = some o) : Calls X d 201 [.ref 96, .int v1, .int v2, .int v3] h (some (.int o.1), o.2) ∧ SHP L hi o.2 := by
  obtain ⟨d, rfl⟩ : ∃ z, d = z + 1 := ⟨d - 1, by omega⟩
  obtain ⟨r, S2⟩ := q_X8_parted_0 hd hh SH hf
  exact ⟨⟨_, rfl, r⟩, S2⟩
noncomputable def g_X8_round_12 (n : Nat) : Nat → Int32 → Int32 → Hp → Option (Int32 × Hp)
  | 0, _, _, _ => none
  | m + 1, v1, v2, h =>
    if 64 < v2 then
      some ((-1), h)
    else
      (g_X8_behind n v1 v2 h).bind fun o2 =>
      if o2.1 ≠ v1 then
        (g_X8_round_12 n m) v1 (v2 + 1) o2.2
      else
        some (v2, o2.2)
set_option maxRecDepth 100000 in
set_option maxHeartbeats 4000000 in
theorem q_X8_round_12 {X : Nat → Int32} {d : Nat} (hd : 2 ≤ (d + 1)) {L hi : Nat} (hh : 125 ≤ hi) {n : Nat} : ∀ (m : Nat) (v1 : Int32) (v2 : Int32) (h : Hp) (o : (Int32 × Hp)), SHP L hi h → g_X8_round_12 n m v1 v2 h = some o → Run X (d + 1) 202 12 [some (.ref 96), some (.int v1), some (.int v2)] [] h (some (.int o.1), o.2) ∧ SHP L hi o.2 := by
  intro m
  induction m with
  | zero => intro v1 v2 h o SH hf; cases hf
  | succ m ih =>
    intro v1 v2 h o SH hf
    rw [g_X8_round_12] at hf
    refine And.imp_left (rs_iload_n i_X8_round_12 rfl) ?_
    refine And.imp_left (rs_bipush i_X8_round_13 (v := 64) (by decide)) ?_
    by_cases c1 : 64 < v2
    · replace hf := (if_pos c1).symm.trans hf
      refine And.imp_left (rs_icT i_X8_round_15 (ct_gt c1) (tg := 35) (by decide)) ?_
      refine And.imp_left (rs_iconst i_X8_round_35 (v := (-1)) (by decide)) ?_
      have hf := Option.some.inj hf
      subst hf
      exact ⟨rs_iret i_X8_round_36 m_X8_round rfl, SH⟩
    · replace hf := (if_neg c1).symm.trans hf
      refine And.imp_left (rs_icF i_X8_round_15 (cf_gt c1)) ?_
      refine And.imp_left (rs_iload_n i_X8_round_18 rfl) ?_
      refine And.imp_left (rs_iload_n i_X8_round_19 rfl) ?_
      obtain ⟨o2, e2, hf⟩ := bind_some hf
      obtain ⟨u2, SH2⟩ := k_X8_behind (X := X) (d := d) (by omega) (by omega) SH e2
      refine And.imp_left (rs_inS i_X8_round_20 (by decide) m_X8_behind rfl (As := [.int v1, .int v2]) (rest := []) rfl rfl (Nat.le_of_ble_eq_true rfl) u2 (st' := [.int o2.1]) rfl) ?_
      clear SH; have SH := SH2; clear SH2
      refine And.imp_left (rs_iload_n i_X8_round_23 rfl) ?_
      by_cases c3 : o2.1 ≠ v1
      · replace hf := (if_pos c3).symm.trans hf
        refine And.imp_left (rs_icT i_X8_round_24 (ct_ne c3) (tg := 29) (by decide)) ?_
        refine And.imp_left (rs_iinc i_X8_round_29 rfl (v := v2 + 1) rfl (Nat.le_of_ble_eq_true rfl) (lv' := [some (.ref 96), some (.int v1), some (.int (v2 + 1))]) rfl) ?_
        refine And.imp_left (rs_goto i_X8_round_32 (tg := 12) (by decide)) ?_
        exact ih _ _ _ _ SH hf
      · replace hf := (if_neg c3).symm.trans hf
        refine And.imp_left (rs_icF i_X8_round_24 (cf_ne c3)) ?_
        refine And.imp_left (rs_iload_n i_X8_round_27 rfl) ?_
        have hf := Option.some.inj hf
        subst hf
        exact ⟨rs_iret i_X8_round_28 m_X8_round rfl, SH⟩
noncomputable def g_X8_round_0 (n : Nat) (v1 : Int32) (h : Hp) : Option (Int32 × Hp) :=
  (g_X8_isSpot v1 h).bind fun o1 =>
  if o1.1 ≠ 0 then
    g_X8_round_12 n n v1 1 o1.2
  else
    some ((-2), o1.2)
set_option maxRecDepth 100000 in
set_option maxHeartbeats 4000000 in
theorem q_X8_round_0 {X : Nat → Int32} {d : Nat} (hd : 2 ≤ (d + 1)) {L hi : Nat} (hh : 125 ≤ hi) {n : Nat} {v1 : Int32} {h : Hp} {o : (Int32 × Hp)}  (SH : SHP L hi h) (hf : g_X8_round_0 n v1 h = some o) : Run X (d + 1) 202 0 [some (.ref 96), some (.int v1), none] [] h (some (.int o.1), o.2) ∧ SHP L hi o.2 := by
  unfold g_X8_round_0 at hf
  refine And.imp_left (rs_iload_n i_X8_round_0 rfl) ?_
  obtain ⟨o1, e1, hf⟩ := bind_some hf
  obtain ⟨u1, SH2⟩ := k_X8_isSpot (X := X) (d := d) (by omega) (by omega) SH e1
  refine And.imp_left (rs_inS i_X8_round_1 (by decide) m_X8_isSpot rfl (As := [.int v1]) (rest := []) rfl rfl (Nat.le_of_ble_eq_true rfl) u1 (st' := [.int o1.1]) rfl) ?_
  clear SH; have SH := SH2; clear SH2
  by_cases c2 : o1.1 ≠ 0
  · replace hf := (if_pos c2).symm.trans hf
    refine And.imp_left (rs_ifT i_X8_round_4 (ct_ne c2) (tg := 10) (by decide)) ?_
    refine And.imp_left (rs_iconst i_X8_round_10 (v := 1) (by decide)) ?_
    refine And.imp_left (rs_istore_n i_X8_round_11 (Nat.le_of_ble_eq_true rfl) (lv' := [some (.ref 96), some (.int v1), some (.int 1)]) rfl) ?_
    exact q_X8_round_12 hd hh _ _ _ _ _ SH hf
  · replace hf := (if_neg c2).symm.trans hf
    refine And.imp_left (rs_ifF i_X8_round_4 (cf_ne c2)) ?_
    refine And.imp_left (rs_bipush i_X8_round_7 (v := (-2)) (by decide)) ?_
    have hf := Option.some.inj hf
    subst hf
    exact ⟨rs_iret i_X8_round_9 m_X8_round rfl, SH⟩
noncomputable def g_X8_round (n : Nat) (v1 : Int32) (h : Hp) : Option (Int32 × Hp) := g_X8_round_0 n v1 h
theorem k_X8_round {X : Nat → Int32} {d : Nat} (hd : 2 ≤ d) {L hi : Nat} (hh : 125 ≤ hi) {n : Nat} {v1 : Int32} {h : Hp} {o : (Int32 × Hp)}  (SH : SHP L hi h) (hf : g_X8_round n v1 h = some o) : Calls X d 202 [.ref 96, .int v1] h (some (.int o.1), o.2) ∧ SHP L hi o.2 := by
  obtain ⟨d, rfl⟩ : ∃ z, d = z + 1 := ⟨d - 1, by omega⟩
  obtain ⟨r, S2⟩ := q_X8_round_0 hd hh SH hf
  exact ⟨⟨_, rfl, r⟩, S2⟩
noncomputable def g_X8_colours_263 (n : Nat) (K174 : Int32 → Int32 → Int32 → Int32 → Int32 → Int32 → Hp → Option (Int32 × Hp)) (v2 : Int32) (v3 : Int32) (v4 : Int32) (v5 : Int32) (v7 : Int32) (s0 : Int32) (s1 : Int32) (h : Hp) : Option (Int32 × Hp) :=
  K174 v2 v3 v4 v5 (s0 + s1) (v7 + 1) h
set_option maxRecDepth 100000 in
set_option maxHeartbeats 4000000 in
theorem q_X8_colours_263 {X : Nat → Int32} {d : Nat} (hd : 1 ≤ (d + 1)) {L hi : Nat} (hh : 125 ≤ hi) {n : Nat} {K174 : Int32 → Int32 → Int32 → Int32 → Int32 → Int32 → Hp → Option (Int32 × Hp)} (HK174 : ∀ (v2 : Int32) (v3 : Int32) (v4 : Int32) (v5 : Int32) (v6 : Int32) (v7 : Int32) (d1 : Int32) (h : Hp) (o : (Int32 × Hp)), SHP L hi h → K174 v2 v3 v4 v5 v6 v7 h = some o → Run X (d + 1) 203 174 [some (.ref 96), some (.int d1), some (.int v2), some (.int v3), some (.int v4), some (.int v5), some (.int v6), some (.int v7)] [] h (some (.int o.1), o.2) ∧ SHP L hi o.2) {v2 : Int32} {v3 : Int32} {v4 : Int32} {v5 : Int32} {v7 : Int32} {s0 : Int32} {s1 : Int32} {d1 : Int32} {d6 : Int32} {h : Hp} {o : (Int32 × Hp)}  (SH : SHP L hi h) (hf : g_X8_colours_263 n K174 v2 v3 v4 v5 v7 s0 s1 h = some o) : Run X (d + 1) 203 263 [some (.ref 96), some (.int d1), some (.int v2), some (.int v3), some (.int v4), some (.int v5), some (.int d6), some (.int v7)] [.int s1, .int s0] h (some (.int o.1), o.2) ∧ SHP L hi o.2 := by
  unfold g_X8_colours_263 at hf
  refine And.imp_left (rs_iadd i_X8_colours_263) ?_
  refine And.imp_left (rs_istore i_X8_colours_264 (Nat.le_of_ble_eq_true rfl) (lv' := [some (.ref 96), some (.int d1), some (.int v2), some (.int v3), some (.int v4), some (.int v5), some (.int (s0 + s1)), some (.int v7)]) rfl) ?_
  refine And.imp_left (rs_iinc i_X8_colours_266 rfl (v := v7 + 1) rfl (Nat.le_of_ble_eq_true rfl) (lv' := [some (.ref 96), some (.int d1), some (.int v2), some (.int v3), some (.int v4), some (.int v5), some (.int (s0 + s1)), some (.int (v7 + 1))]) rfl) ?_
  refine And.imp_left (rs_goto i_X8_colours_269 (tg := 174) (by decide)) ?_
  exact HK174 _ _ _ _ _ _ _ _ _ SH hf
noncomputable def g_X8_colours_262 (n : Nat) (K174 : Int32 → Int32 → Int32 → Int32 → Int32 → Int32 → Hp → Option (Int32 × Hp)) (v2 : Int32) (v3 : Int32) (v4 : Int32) (v5 : Int32) (v7 : Int32) (s0 : Int32) (h : Hp) : Option (Int32 × Hp) :=
  g_X8_colours_263 n K174 v2 v3 v4 v5 v7 s0 0 h
set_option maxRecDepth 100000 in
set_option maxHeartbeats 4000000 in
theorem q_X8_colours_262 {X : Nat → Int32} {d : Nat} (hd : 1 ≤ (d + 1)) {L hi : Nat} (hh : 125 ≤ hi) {n : Nat} {K174 : Int32 → Int32 → Int32 → Int32 → Int32 → Int32 → Hp → Option (Int32 × Hp)} (HK174 : ∀ (v2 : Int32) (v3 : Int32) (v4 : Int32) (v5 : Int32) (v6 : Int32) (v7 : Int32) (d1 : Int32) (h : Hp) (o : (Int32 × Hp)), SHP L hi h → K174 v2 v3 v4 v5 v6 v7 h = some o → Run X (d + 1) 203 174 [some (.ref 96), some (.int d1), some (.int v2), some (.int v3), some (.int v4), some (.int v5), some (.int v6), some (.int v7)] [] h (some (.int o.1), o.2) ∧ SHP L hi o.2) {v2 : Int32} {v3 : Int32} {v4 : Int32} {v5 : Int32} {v7 : Int32} {s0 : Int32} {d1 : Int32} {d6 : Int32} {h : Hp} {o : (Int32 × Hp)}  (SH : SHP L hi h) (hf : g_X8_colours_262 n K174 v2 v3 v4 v5 v7 s0 h = some o) : Run X (d + 1) 203 262 [some (.ref 96), some (.int d1), some (.int v2), some (.int v3), some (.int v4), some (.int v5), some (.int d6), some (.int v7)] [.int s0] h (some (.int o.1), o.2) ∧ SHP L hi o.2 := by
  unfold g_X8_colours_262 at hf
  refine And.imp_left (rs_iconst i_X8_colours_262 (v := 0) (by decide)) ?_
  exact q_X8_colours_263 hd hh HK174 SH hf
noncomputable def g_X8_colours_231 (n : Nat) (K174 : Int32 → Int32 → Int32 → Int32 → Int32 → Int32 → Hp → Option (Int32 × Hp)) (v2 : Int32) (v3 : Int32) (v4 : Int32) (v6 : Int32) (v7 : Int32) (s0 : Int32) (h : Hp) : Option (Int32 × Hp) :=
  if inb v7 16 = true then
  if (gI h 123 (ix v7)) ≤ 0 then
    g_X8_colours_262 n K174 v2 v3 v4 s0 v7 v6 h
  else
    if (1 <<< (v2 &&& 31)) ≤ (gI h 123 (ix v7)) then
      g_X8_colours_262 n K174 v2 v3 v4 s0 v7 v6 h
    else
      g_X8_colours_263 n K174 v2 v3 v4 s0 v7 v6 1 h
  else none
set_option maxRecDepth 100000 in
set_option maxHeartbeats 4000000 in
theorem q_X8_colours_231 {X : Nat → Int32} {d : Nat} (hd : 1 ≤ (d + 1)) {L hi : Nat} (hh : 125 ≤ hi) {n : Nat} {K174 : Int32 → Int32 → Int32 → Int32 → Int32 → Int32 → Hp → Option (Int32 × Hp)} (HK174 : ∀ (v2 : Int32) (v3 : Int32) (v4 : Int32) (v5 : Int32) (v6 : Int32) (v7 : Int32) (d1 : Int32) (h : Hp) (o : (Int32 × Hp)), SHP L hi h → K174 v2 v3 v4 v5 v6 v7 h = some o → Run X (d + 1) 203 174 [some (.ref 96), some (.int d1), some (.int v2), some (.int v3), some (.int v4), some (.int v5), some (.int v6), some (.int v7)] [] h (some (.int o.1), o.2) ∧ SHP L hi o.2) {v2 : Int32} {v3 : Int32} {v4 : Int32} {v6 : Int32} {v7 : Int32} {s0 : Int32} {d1 : Int32} {d5 : Int32} {h : Hp} {o : (Int32 × Hp)}  (SH : SHP L hi h) (hf : g_X8_colours_231 n K174 v2 v3 v4 v6 v7 s0 h = some o) : Run X (d + 1) 203 231 [some (.ref 96), some (.int d1), some (.int v2), some (.int v3), some (.int v4), some (.int d5), some (.int v6), some (.int v7)] [.int s0] h (some (.int o.1), o.2) ∧ SHP L hi o.2 := by
  unfold g_X8_colours_231 at hf
  refine And.imp_left (rs_istore i_X8_colours_231 (Nat.le_of_ble_eq_true rfl) (lv' := [some (.ref 96), some (.int d1), some (.int v2), some (.int v3), some (.int v4), some (.int s0), some (.int v6), some (.int v7)]) rfl) ?_
  refine And.imp_left (rs_iload i_X8_colours_233 rfl) ?_
  refine And.imp_left (rs_aload_n i_X8_colours_235 rfl) ?_
  refine And.imp_left (rs_getR i_X8_colours_236 (by decide) (by decide) (sO8 SH hh) (sR8_52 SH hh)) ?_
  refine And.imp_left (rs_iload i_X8_colours_239 rfl) ?_
  obtain ⟨c1, hf⟩ := ite_some hf
  refine And.imp_left (rs_iald i_X8_colours_241 (mkI (sA SH hh (k := 9) (n := 16) (by decide)) c1)) ?_
  by_cases c2 : (gI h 123 (ix v7)) ≤ 0
  · replace hf := (if_pos c2).symm.trans hf
    refine And.imp_left (rs_ifT i_X8_colours_242 (ct_le c2) (tg := 262) (by decide)) ?_
    exact q_X8_colours_262 hd hh HK174 SH hf
  · replace hf := (if_neg c2).symm.trans hf
    refine And.imp_left (rs_ifF i_X8_colours_242 (cf_le c2)) ?_
    refine And.imp_left (rs_aload_n i_X8_colours_245 rfl) ?_
    refine And.imp_left (rs_getR i_X8_colours_246 (by decide) (by decide) (sO8 SH hh) (sR8_52 SH hh)) ?_
    refine And.imp_left (rs_iload i_X8_colours_249 rfl) ?_
    refine And.imp_left (rs_iald i_X8_colours_251 (mkI (sA SH hh (k := 9) (n := 16) (by decide)) c1)) ?_
    refine And.imp_left (rs_iconst i_X8_colours_252 (v := 1) (by decide)) ?_
    refine And.imp_left (rs_iload_n i_X8_colours_253 rfl) ?_
    refine And.imp_left (rs_ishl i_X8_colours_254) ?_
    by_cases c3 : (1 <<< (v2 &&& 31)) ≤ (gI h 123 (ix v7))
    · replace hf := (if_pos c3).symm.trans hf
      refine And.imp_left (rs_icT i_X8_colours_255 (ct_ge c3) (tg := 262) (by decide)) ?_
      exact q_X8_colours_262 hd hh HK174 SH hf
    · replace hf := (if_neg c3).symm.trans hf
      refine And.imp_left (rs_icF i_X8_colours_255 (cf_ge c3)) ?_
      refine And.imp_left (rs_iconst i_X8_colours_258 (v := 1) (by decide)) ?_
      refine And.imp_left (rs_goto i_X8_colours_259 (tg := 263) (by decide)) ?_
      exact q_X8_colours_263 hd hh HK174 SH hf
noncomputable def g_X8_colours_205 (n : Nat) (K174 : Int32 → Int32 → Int32 → Int32 → Int32 → Int32 → Hp → Option (Int32 × Hp)) (v2 : Int32) (v3 : Int32) (v5 : Int32) (v6 : Int32) (v7 : Int32) (s0 : Int32) (h : Hp) : Option (Int32 × Hp) :=
  if inb v7 16 = true then
  if (gI h 123 (ix v7)) ≤ v5 then
    g_X8_colours_231 n K174 v2 v3 s0 v6 v7 v5 h
  else
    g_X8_colours_231 n K174 v2 v3 s0 v6 v7 (gI h 123 (ix v7)) h
  else none
set_option maxRecDepth 100000 in
set_option maxHeartbeats 4000000 in
theorem q_X8_colours_205 {X : Nat → Int32} {d : Nat} (hd : 1 ≤ (d + 1)) {L hi : Nat} (hh : 125 ≤ hi) {n : Nat} {K174 : Int32 → Int32 → Int32 → Int32 → Int32 → Int32 → Hp → Option (Int32 × Hp)} (HK174 : ∀ (v2 : Int32) (v3 : Int32) (v4 : Int32) (v5 : Int32) (v6 : Int32) (v7 : Int32) (d1 : Int32) (h : Hp) (o : (Int32 × Hp)), SHP L hi h → K174 v2 v3 v4 v5 v6 v7 h = some o → Run X (d + 1) 203 174 [some (.ref 96), some (.int d1), some (.int v2), some (.int v3), some (.int v4), some (.int v5), some (.int v6), some (.int v7)] [] h (some (.int o.1), o.2) ∧ SHP L hi o.2) {v2 : Int32} {v3 : Int32} {v5 : Int32} {v6 : Int32} {v7 : Int32} {s0 : Int32} {d1 : Int32} {d4 : Int32} {h : Hp} {o : (Int32 × Hp)}  (SH : SHP L hi h) (hf : g_X8_colours_205 n K174 v2 v3 v5 v6 v7 s0 h = some o) : Run X (d + 1) 203 205 [some (.ref 96), some (.int d1), some (.int v2), some (.int v3), some (.int d4), some (.int v5), some (.int v6), some (.int v7)] [.int s0] h (some (.int o.1), o.2) ∧ SHP L hi o.2 := by
  unfold g_X8_colours_205 at hf
  refine And.imp_left (rs_istore i_X8_colours_205 (Nat.le_of_ble_eq_true rfl) (lv' := [some (.ref 96), some (.int d1), some (.int v2), some (.int v3), some (.int s0), some (.int v5), some (.int v6), some (.int v7)]) rfl) ?_
  refine And.imp_left (rs_aload_n i_X8_colours_207 rfl) ?_
  refine And.imp_left (rs_getR i_X8_colours_208 (by decide) (by decide) (sO8 SH hh) (sR8_52 SH hh)) ?_
  refine And.imp_left (rs_iload i_X8_colours_211 rfl) ?_
  obtain ⟨c1, hf⟩ := ite_some hf
  refine And.imp_left (rs_iald i_X8_colours_213 (mkI (sA SH hh (k := 9) (n := 16) (by decide)) c1)) ?_
  refine And.imp_left (rs_iload i_X8_colours_214 rfl) ?_
  by_cases c2 : (gI h 123 (ix v7)) ≤ v5
  · replace hf := (if_pos c2).symm.trans hf
    refine And.imp_left (rs_icT i_X8_colours_216 (ct_le c2) (tg := 229) (by decide)) ?_
    refine And.imp_left (rs_iload i_X8_colours_229 rfl) ?_
    exact q_X8_colours_231 hd hh HK174 SH hf
  · replace hf := (if_neg c2).symm.trans hf
    refine And.imp_left (rs_icF i_X8_colours_216 (cf_le c2)) ?_
    refine And.imp_left (rs_aload_n i_X8_colours_219 rfl) ?_
    refine And.imp_left (rs_getR i_X8_colours_220 (by decide) (by decide) (sO8 SH hh) (sR8_52 SH hh)) ?_
    refine And.imp_left (rs_iload i_X8_colours_223 rfl) ?_
    refine And.imp_left (rs_iald i_X8_colours_225 (mkI (sA SH hh (k := 9) (n := 16) (by decide)) c1)) ?_
    refine And.imp_left (rs_goto i_X8_colours_226 (tg := 231) (by decide)) ?_
    exact q_X8_colours_231 hd hh HK174 SH hf
noncomputable def g_X8_colours_174 (n : Nat) : Nat → Int32 → Int32 → Int32 → Int32 → Int32 → Int32 → Hp → Option (Int32 × Hp)
  | 0, _, _, _, _, _, _, _ => none
  | m + 1, v2, v3, v4, v5, v6, v7, h =>
    if 16 ≤ v7 then
      if v3 ≠ 0 then
        if v3 ≠ 1 then
          some (v6, h)
        else
          some (v5, h)
      else
        some (v4, h)
    else
      if inb v7 16 = true then
      if v4 ≤ (gI h 123 (ix v7)) then
        g_X8_colours_205 n (g_X8_colours_174 n m) v2 v3 v5 v6 v7 v4 h
      else
        g_X8_colours_205 n (g_X8_colours_174 n m) v2 v3 v5 v6 v7 (gI h 123 (ix v7)) h
      else none
set_option maxRecDepth 100000 in
set_option maxHeartbeats 4000000 in
theorem q_X8_colours_174 {X : Nat → Int32} {d : Nat} (hd : 1 ≤ (d + 1)) {L hi : Nat} (hh : 125 ≤ hi) {n : Nat} : ∀ (m : Nat) (v2 : Int32) (v3 : Int32) (v4 : Int32) (v5 : Int32) (v6 : Int32) (v7 : Int32) (d1 : Int32) (h : Hp) (o : (Int32 × Hp)), SHP L hi h → g_X8_colours_174 n m v2 v3 v4 v5 v6 v7 h = some o → Run X (d + 1) 203 174 [some (.ref 96), some (.int d1), some (.int v2), some (.int v3), some (.int v4), some (.int v5), some (.int v6), some (.int v7)] [] h (some (.int o.1), o.2) ∧ SHP L hi o.2 := by
  intro m
  induction m with
  | zero => intro v2 v3 v4 v5 v6 v7 d1 h o SH hf; cases hf
  | succ m ih =>
    intro v2 v3 v4 v5 v6 v7 d1 h o SH hf
    rw [g_X8_colours_174] at hf
    refine And.imp_left (rs_iload i_X8_colours_174 rfl) ?_
    refine And.imp_left (rs_bipush i_X8_colours_176 (v := 16) (by decide)) ?_
    by_cases c1 : 16 ≤ v7
    · replace hf := (if_pos c1).symm.trans hf
      refine And.imp_left (rs_icT i_X8_colours_178 (ct_ge c1) (tg := 272) (by decide)) ?_
      refine And.imp_left (rs_iload_n i_X8_colours_272 rfl) ?_
      by_cases c2 : v3 ≠ 0
      · replace hf := (if_pos c2).symm.trans hf
        refine And.imp_left (rs_ifT i_X8_colours_273 (ct_ne c2) (tg := 281) (by decide)) ?_
        refine And.imp_left (rs_iload_n i_X8_colours_281 rfl) ?_
        refine And.imp_left (rs_iconst i_X8_colours_282 (v := 1) (by decide)) ?_
        by_cases c3 : v3 ≠ 1
        · replace hf := (if_pos c3).symm.trans hf
          refine And.imp_left (rs_icT i_X8_colours_283 (ct_ne c3) (tg := 291) (by decide)) ?_
          refine And.imp_left (rs_iload i_X8_colours_291 rfl) ?_
          have hf := Option.some.inj hf
          subst hf
          exact ⟨rs_iret i_X8_colours_293 m_X8_colours rfl, SH⟩
        · replace hf := (if_neg c3).symm.trans hf
          refine And.imp_left (rs_icF i_X8_colours_283 (cf_ne c3)) ?_
          refine And.imp_left (rs_iload i_X8_colours_286 rfl) ?_
          refine And.imp_left (rs_goto i_X8_colours_288 (tg := 293) (by decide)) ?_
          have hf := Option.some.inj hf
          subst hf
          exact ⟨rs_iret i_X8_colours_293 m_X8_colours rfl, SH⟩
      · replace hf := (if_neg c2).symm.trans hf
        refine And.imp_left (rs_ifF i_X8_colours_273 (cf_ne c2)) ?_
        refine And.imp_left (rs_iload i_X8_colours_276 rfl) ?_
        refine And.imp_left (rs_goto i_X8_colours_278 (tg := 293) (by decide)) ?_
        have hf := Option.some.inj hf
        subst hf
        exact ⟨rs_iret i_X8_colours_293 m_X8_colours rfl, SH⟩
    · replace hf := (if_neg c1).symm.trans hf
      refine And.imp_left (rs_icF i_X8_colours_178 (cf_ge c1)) ?_
      refine And.imp_left (rs_aload_n i_X8_colours_181 rfl) ?_
      refine And.imp_left (rs_getR i_X8_colours_182 (by decide) (by decide) (sO8 SH hh) (sR8_52 SH hh)) ?_
      refine And.imp_left (rs_iload i_X8_colours_185 rfl) ?_
      obtain ⟨c4, hf⟩ := ite_some hf
      refine And.imp_left (rs_iald i_X8_colours_187 (mkI (sA SH hh (k := 9) (n := 16) (by decide)) c4)) ?_
      refine And.imp_left (rs_iload i_X8_colours_188 rfl) ?_
      by_cases c5 : v4 ≤ (gI h 123 (ix v7))
      · replace hf := (if_pos c5).symm.trans hf
        refine And.imp_left (rs_icT i_X8_colours_190 (ct_ge c5) (tg := 203) (by decide)) ?_
        refine And.imp_left (rs_iload i_X8_colours_203 rfl) ?_
        exact q_X8_colours_205 hd hh ih SH hf
      · replace hf := (if_neg c5).symm.trans hf
        refine And.imp_left (rs_icF i_X8_colours_190 (cf_ge c5)) ?_
        refine And.imp_left (rs_aload_n i_X8_colours_193 rfl) ?_
        refine And.imp_left (rs_getR i_X8_colours_194 (by decide) (by decide) (sO8 SH hh) (sR8_52 SH hh)) ?_
        refine And.imp_left (rs_iload i_X8_colours_197 rfl) ?_
        refine And.imp_left (rs_iald i_X8_colours_199 (mkI (sA SH hh (k := 9) (n := 16) (by decide)) c4)) ?_
        refine And.imp_left (rs_goto i_X8_colours_200 (tg := 205) (by decide)) ?_
        exact q_X8_colours_205 hd hh ih SH hf
noncomputable def g_X8_colours_119 (n : Nat) (K65 : Int32 → Int32 → Int32 → Hp → Option (Int32 × Hp)) : Nat → Int32 → Int32 → Int32 → Int32 → Hp → Option (Int32 × Hp)
  | 0, _, _, _, _, _ => none
  | m + 1, v2, v3, v4, v5, h =>
    if 16 ≤ v5 then
      K65 v2 v3 (v4 + 1) h
    else
      if inb v5 16 = true then
      (g_X8_colours_119 n K65 m) v2 v3 v4 (v5 + 1) (hsi h 123 (ix v5) (gI h 124 (ix v5)))
      else none
set_option maxRecDepth 100000 in
set_option maxHeartbeats 4000000 in
theorem q_X8_colours_119 {X : Nat → Int32} {d : Nat} (hd : 1 ≤ (d + 1)) {L hi : Nat} (hh : 125 ≤ hi) {n : Nat} {K65 : Int32 → Int32 → Int32 → Hp → Option (Int32 × Hp)} (HK65 : ∀ (v2 : Int32) (v3 : Int32) (v4 : Int32) (d1 : Int32) (w5 : Option Value) (h : Hp) (o : (Int32 × Hp)), SHP L hi h → K65 v2 v3 v4 h = some o → Run X (d + 1) 203 65 [some (.ref 96), some (.int d1), some (.int v2), some (.int v3), some (.int v4), w5, none, none] [] h (some (.int o.1), o.2) ∧ SHP L hi o.2) : ∀ (m : Nat) (v2 : Int32) (v3 : Int32) (v4 : Int32) (v5 : Int32) (d1 : Int32) (h : Hp) (o : (Int32 × Hp)), SHP L hi h → g_X8_colours_119 n K65 m v2 v3 v4 v5 h = some o → Run X (d + 1) 203 119 [some (.ref 96), some (.int d1), some (.int v2), some (.int v3), some (.int v4), some (.int v5), none, none] [] h (some (.int o.1), o.2) ∧ SHP L hi o.2 := by
  intro m
  induction m with
  | zero => intro v2 v3 v4 v5 d1 h o SH hf; cases hf
  | succ m ih =>
    intro v2 v3 v4 v5 d1 h o SH hf
    rw [g_X8_colours_119] at hf
    refine And.imp_left (rs_iload i_X8_colours_119 rfl) ?_
    refine And.imp_left (rs_bipush i_X8_colours_121 (v := 16) (by decide)) ?_
    by_cases c1 : 16 ≤ v5
    · replace hf := (if_pos c1).symm.trans hf
      refine And.imp_left (rs_icT i_X8_colours_123 (ct_ge c1) (tg := 146) (by decide)) ?_
      refine And.imp_left (rs_iinc i_X8_colours_146 rfl (v := v4 + 1) rfl (Nat.le_of_ble_eq_true rfl) (lv' := [some (.ref 96), some (.int d1), some (.int v2), some (.int v3), some (.int (v4 + 1)), some (.int v5), none, none]) rfl) ?_
      refine And.imp_left (rs_goto i_X8_colours_149 (tg := 65) (by decide)) ?_
      exact HK65 _ _ _ _ _ _ _ SH hf
    · replace hf := (if_neg c1).symm.trans hf
      refine And.imp_left (rs_icF i_X8_colours_123 (cf_ge c1)) ?_
      refine And.imp_left (rs_aload_n i_X8_colours_126 rfl) ?_
      refine And.imp_left (rs_getR i_X8_colours_127 (by decide) (by decide) (sO8 SH hh) (sR8_52 SH hh)) ?_
      refine And.imp_left (rs_iload i_X8_colours_130 rfl) ?_
      refine And.imp_left (rs_aload_n i_X8_colours_132 rfl) ?_
      refine And.imp_left (rs_getR i_X8_colours_133 (by decide) (by decide) (sO8 SH hh) (sR8_53 SH hh)) ?_
      refine And.imp_left (rs_iload i_X8_colours_136 rfl) ?_
      obtain ⟨c2, hf⟩ := ite_some hf
      refine And.imp_left (rs_iald i_X8_colours_138 (mkI (sA SH hh (k := 9) (n := 16) (by decide)) c2)) ?_
      refine And.imp_left (rs_iast i_X8_colours_139 (mkI (sA SH hh (k := 9) (n := 16) (by decide)) c2)) ?_
      have SH := shi SH 123 (ix v5) (gI h 124 (ix v5))
      refine And.imp_left (rs_iinc i_X8_colours_140 rfl (v := v5 + 1) rfl (Nat.le_of_ble_eq_true rfl) (lv' := [some (.ref 96), some (.int d1), some (.int v2), some (.int v3), some (.int v4), some (.int (v5 + 1)), none, none]) rfl) ?_
      refine And.imp_left (rs_goto i_X8_colours_143 (tg := 119) (by decide)) ?_
      exact ih _ _ _ _ _ _ _ SH hf
noncomputable def g_X8_colours_74 (n : Nat) (K65 : Int32 → Int32 → Int32 → Hp → Option (Int32 × Hp)) : Nat → Int32 → Int32 → Int32 → Int32 → Hp → Option (Int32 × Hp)
  | 0, _, _, _, _, _ => none
  | m + 1, v2, v3, v4, v5, h =>
    if 16 ≤ v5 then
      g_X8_colours_119 n K65 n v2 v3 v4 0 h
    else
      if inb (v5 / 2) 16 = true then
      if inb (15 - (v5 / 2)) 16 = true then
      if inb v5 16 = true then
      (g_X8_colours_74 n K65 m) v2 v3 v4 (v5 + 1) (hsi h 124 (ix v5) ((gI h 123 (ix (v5 / 2))) + (gI h 123 (ix (15 - (v5 / 2))))))
      else none
      else none
      else none
set_option maxRecDepth 100000 in
set_option maxHeartbeats 4000000 in
theorem q_X8_colours_74 {X : Nat → Int32} {d : Nat} (hd : 1 ≤ (d + 1)) {L hi : Nat} (hh : 125 ≤ hi) {n : Nat} {K65 : Int32 → Int32 → Int32 → Hp → Option (Int32 × Hp)} (HK65 : ∀ (v2 : Int32) (v3 : Int32) (v4 : Int32) (d1 : Int32) (w5 : Option Value) (h : Hp) (o : (Int32 × Hp)), SHP L hi h → K65 v2 v3 v4 h = some o → Run X (d + 1) 203 65 [some (.ref 96), some (.int d1), some (.int v2), some (.int v3), some (.int v4), w5, none, none] [] h (some (.int o.1), o.2) ∧ SHP L hi o.2) : ∀ (m : Nat) (v2 : Int32) (v3 : Int32) (v4 : Int32) (v5 : Int32) (d1 : Int32) (h : Hp) (o : (Int32 × Hp)), SHP L hi h → g_X8_colours_74 n K65 m v2 v3 v4 v5 h = some o → Run X (d + 1) 203 74 [some (.ref 96), some (.int d1), some (.int v2), some (.int v3), some (.int v4), some (.int v5), none, none] [] h (some (.int o.1), o.2) ∧ SHP L hi o.2 := by
  intro m
  induction m with
  | zero => intro v2 v3 v4 v5 d1 h o SH hf; cases hf
  | succ m ih =>
    intro v2 v3 v4 v5 d1 h o SH hf
    rw [g_X8_colours_74] at hf
    refine And.imp_left (rs_iload i_X8_colours_74 rfl) ?_
    refine And.imp_left (rs_bipush i_X8_colours_76 (v := 16) (by decide)) ?_
    by_cases c1 : 16 ≤ v5
    · replace hf := (if_pos c1).symm.trans hf
      refine And.imp_left (rs_icT i_X8_colours_78 (ct_ge c1) (tg := 116) (by decide)) ?_
      refine And.imp_left (rs_iconst i_X8_colours_116 (v := 0) (by decide)) ?_
      refine And.imp_left (rs_istore i_X8_colours_117 (Nat.le_of_ble_eq_true rfl) (lv' := [some (.ref 96), some (.int d1), some (.int v2), some (.int v3), some (.int v4), some (.int 0), none, none]) rfl) ?_
      exact q_X8_colours_119 hd hh HK65 _ _ _ _ _ _ _ _ SH hf
    · replace hf := (if_neg c1).symm.trans hf
      refine And.imp_left (rs_icF i_X8_colours_78 (cf_ge c1)) ?_
      refine And.imp_left (rs_aload_n i_X8_colours_81 rfl) ?_
      refine And.imp_left (rs_getR i_X8_colours_82 (by decide) (by decide) (sO8 SH hh) (sR8_53 SH hh)) ?_
      refine And.imp_left (rs_iload i_X8_colours_85 rfl) ?_
      refine And.imp_left (rs_aload_n i_X8_colours_87 rfl) ?_
      refine And.imp_left (rs_getR i_X8_colours_88 (by decide) (by decide) (sO8 SH hh) (sR8_52 SH hh)) ?_
      refine And.imp_left (rs_iload i_X8_colours_91 rfl) ?_
      refine And.imp_left (rs_iconst i_X8_colours_93 (v := 2) (by decide)) ?_
      refine And.imp_left (rs_idiv i_X8_colours_94 (by decide)) ?_
      obtain ⟨c2, hf⟩ := ite_some hf
      refine And.imp_left (rs_iald i_X8_colours_95 (mkI (sA SH hh (k := 9) (n := 16) (by decide)) c2)) ?_
      refine And.imp_left (rs_aload_n i_X8_colours_96 rfl) ?_
      refine And.imp_left (rs_getR i_X8_colours_97 (by decide) (by decide) (sO8 SH hh) (sR8_52 SH hh)) ?_
      refine And.imp_left (rs_bipush i_X8_colours_100 (v := 15) (by decide)) ?_
      refine And.imp_left (rs_iload i_X8_colours_102 rfl) ?_
      refine And.imp_left (rs_iconst i_X8_colours_104 (v := 2) (by decide)) ?_
      refine And.imp_left (rs_idiv i_X8_colours_105 (by decide)) ?_
      refine And.imp_left (rs_isub i_X8_colours_106) ?_
      obtain ⟨c3, hf⟩ := ite_some hf
      refine And.imp_left (rs_iald i_X8_colours_107 (mkI (sA SH hh (k := 9) (n := 16) (by decide)) c3)) ?_
      refine And.imp_left (rs_iadd i_X8_colours_108) ?_
      obtain ⟨c4, hf⟩ := ite_some hf
      refine And.imp_left (rs_iast i_X8_colours_109 (mkI (sA SH hh (k := 9) (n := 16) (by decide)) c4)) ?_
      have SH := shi SH 124 (ix v5) ((gI h 123 (ix (v5 / 2))) + (gI h 123 (ix (15 - (v5 / 2)))))
      refine And.imp_left (rs_iinc i_X8_colours_110 rfl (v := v5 + 1) rfl (Nat.le_of_ble_eq_true rfl) (lv' := [some (.ref 96), some (.int d1), some (.int v2), some (.int v3), some (.int v4), some (.int (v5 + 1)), none, none]) rfl) ?_
      refine And.imp_left (rs_goto i_X8_colours_113 (tg := 74) (by decide)) ?_
      exact ih _ _ _ _ _ _ _ SH hf
noncomputable def g_X8_colours_65 (n : Nat) : Nat → Int32 → Int32 → Int32 → Hp → Option (Int32 × Hp)
  | 0, _, _, _, _ => none
  | m + 1, v2, v3, v4, h =>
    if v2 ≤ v4 then
      g_X8_colours_174 n n v2 v3 (gI h 123 (ix 0)) (gI h 123 (ix 0)) 0 0 h
    else
      g_X8_colours_74 n (g_X8_colours_65 n m) n v2 v3 v4 0 h
set_option maxRecDepth 100000 in
set_option maxHeartbeats 4000000 in
theorem q_X8_colours_65 {X : Nat → Int32} {d : Nat} (hd : 1 ≤ (d + 1)) {L hi : Nat} (hh : 125 ≤ hi) {n : Nat} : ∀ (m : Nat) (v2 : Int32) (v3 : Int32) (v4 : Int32) (d1 : Int32) (w5 : Option Value) (h : Hp) (o : (Int32 × Hp)), SHP L hi h → g_X8_colours_65 n m v2 v3 v4 h = some o → Run X (d + 1) 203 65 [some (.ref 96), some (.int d1), some (.int v2), some (.int v3), some (.int v4), w5, none, none] [] h (some (.int o.1), o.2) ∧ SHP L hi o.2 := by
  intro m
  induction m with
  | zero => intro v2 v3 v4 d1 w5 h o SH hf; cases hf
  | succ m ih =>
    intro v2 v3 v4 d1 w5 h o SH hf
    rw [g_X8_colours_65] at hf
    refine And.imp_left (rs_iload i_X8_colours_65 rfl) ?_
    refine And.imp_left (rs_iload_n i_X8_colours_67 rfl) ?_
    by_cases c1 : v2 ≤ v4
    · replace hf := (if_pos c1).symm.trans hf
      refine And.imp_left (rs_icT i_X8_colours_68 (ct_ge c1) (tg := 152) (by decide)) ?_
      refine And.imp_left (rs_aload_n i_X8_colours_152 rfl) ?_
      refine And.imp_left (rs_getR i_X8_colours_153 (by decide) (by decide) (sO8 SH hh) (sR8_52 SH hh)) ?_
      refine And.imp_left (rs_iconst i_X8_colours_156 (v := 0) (by decide)) ?_
      refine And.imp_left (rs_iald i_X8_colours_157 (mkI (sA SH hh (k := 9) (n := 16) (by decide)) (by decide))) ?_
      refine And.imp_left (rs_istore i_X8_colours_158 (Nat.le_of_ble_eq_true rfl) (lv' := [some (.ref 96), some (.int d1), some (.int v2), some (.int v3), some (.int (gI h 123 (ix 0))), w5, none, none]) rfl) ?_
      refine And.imp_left (rs_aload_n i_X8_colours_160 rfl) ?_
      refine And.imp_left (rs_getR i_X8_colours_161 (by decide) (by decide) (sO8 SH hh) (sR8_52 SH hh)) ?_
      refine And.imp_left (rs_iconst i_X8_colours_164 (v := 0) (by decide)) ?_
      refine And.imp_left (rs_iald i_X8_colours_165 (mkI (sA SH hh (k := 9) (n := 16) (by decide)) (by decide))) ?_
      refine And.imp_left (rs_istore i_X8_colours_166 (Nat.le_of_ble_eq_true rfl) (lv' := [some (.ref 96), some (.int d1), some (.int v2), some (.int v3), some (.int (gI h 123 (ix 0))), some (.int (gI h 123 (ix 0))), none, none]) rfl) ?_
      refine And.imp_left (rs_iconst i_X8_colours_168 (v := 0) (by decide)) ?_
      refine And.imp_left (rs_istore i_X8_colours_169 (Nat.le_of_ble_eq_true rfl) (lv' := [some (.ref 96), some (.int d1), some (.int v2), some (.int v3), some (.int (gI h 123 (ix 0))), some (.int (gI h 123 (ix 0))), some (.int 0), none]) rfl) ?_
      refine And.imp_left (rs_iconst i_X8_colours_171 (v := 0) (by decide)) ?_
      refine And.imp_left (rs_istore i_X8_colours_172 (Nat.le_of_ble_eq_true rfl) (lv' := [some (.ref 96), some (.int d1), some (.int v2), some (.int v3), some (.int (gI h 123 (ix 0))), some (.int (gI h 123 (ix 0))), some (.int 0), some (.int 0)]) rfl) ?_
      exact q_X8_colours_174 hd hh _ _ _ _ _ _ _ _ _ _ SH hf
    · replace hf := (if_neg c1).symm.trans hf
      refine And.imp_left (rs_icF i_X8_colours_68 (cf_ge c1)) ?_
      refine And.imp_left (rs_iconst i_X8_colours_71 (v := 0) (by decide)) ?_
      refine And.imp_left (rs_istore i_X8_colours_72 (Nat.le_of_ble_eq_true rfl) (lv' := [some (.ref 96), some (.int d1), some (.int v2), some (.int v3), some (.int v4), some (.int 0), none, none]) rfl) ?_
      exact q_X8_colours_74 hd hh ih _ _ _ _ _ _ _ _ SH hf
noncomputable def g_X8_colours_36 (n : Nat) : Nat → Int32 → Int32 → Int32 → Int32 → Hp → Option (Int32 × Hp)
  | 0, _, _, _, _, _ => none
  | m + 1, v1, v2, v3, v4, h =>
    if 16 ≤ v4 then
      g_X8_colours_65 n n v2 v3 0 h
    else
      if inb v4 16 = true then
      (g_X8_colours_36 n m) v1 v2 v3 (v4 + 1) (hsi h 123 (ix v4) ((v1 >>> (v4 &&& 31)) &&& 1))
      else none
set_option maxRecDepth 100000 in
set_option maxHeartbeats 4000000 in
theorem q_X8_colours_36 {X : Nat → Int32} {d : Nat} (hd : 1 ≤ (d + 1)) {L hi : Nat} (hh : 125 ≤ hi) {n : Nat} : ∀ (m : Nat) (v1 : Int32) (v2 : Int32) (v3 : Int32) (v4 : Int32) (h : Hp) (o : (Int32 × Hp)), SHP L hi h → g_X8_colours_36 n m v1 v2 v3 v4 h = some o → Run X (d + 1) 203 36 [some (.ref 96), some (.int v1), some (.int v2), some (.int v3), some (.int v4), none, none, none] [] h (some (.int o.1), o.2) ∧ SHP L hi o.2 := by
  intro m
  induction m with
  | zero => intro v1 v2 v3 v4 h o SH hf; cases hf
  | succ m ih =>
    intro v1 v2 v3 v4 h o SH hf
    rw [g_X8_colours_36] at hf
    refine And.imp_left (rs_iload i_X8_colours_36 rfl) ?_
    refine And.imp_left (rs_bipush i_X8_colours_38 (v := 16) (by decide)) ?_
    by_cases c1 : 16 ≤ v4
    · replace hf := (if_pos c1).symm.trans hf
      refine And.imp_left (rs_icT i_X8_colours_40 (ct_ge c1) (tg := 62) (by decide)) ?_
      refine And.imp_left (rs_iconst i_X8_colours_62 (v := 0) (by decide)) ?_
      refine And.imp_left (rs_istore i_X8_colours_63 (Nat.le_of_ble_eq_true rfl) (lv' := [some (.ref 96), some (.int v1), some (.int v2), some (.int v3), some (.int 0), none, none, none]) rfl) ?_
      exact q_X8_colours_65 hd hh _ _ _ _ _ _ _ _ SH hf
    · replace hf := (if_neg c1).symm.trans hf
      refine And.imp_left (rs_icF i_X8_colours_40 (cf_ge c1)) ?_
      refine And.imp_left (rs_aload_n i_X8_colours_43 rfl) ?_
      refine And.imp_left (rs_getR i_X8_colours_44 (by decide) (by decide) (sO8 SH hh) (sR8_52 SH hh)) ?_
      refine And.imp_left (rs_iload i_X8_colours_47 rfl) ?_
      refine And.imp_left (rs_iload_n i_X8_colours_49 rfl) ?_
      refine And.imp_left (rs_iload i_X8_colours_50 rfl) ?_
      refine And.imp_left (rs_ishr i_X8_colours_52) ?_
      refine And.imp_left (rs_iconst i_X8_colours_53 (v := 1) (by decide)) ?_
      refine And.imp_left (rs_iand i_X8_colours_54) ?_
      obtain ⟨c2, hf⟩ := ite_some hf
      refine And.imp_left (rs_iast i_X8_colours_55 (mkI (sA SH hh (k := 9) (n := 16) (by decide)) c2)) ?_
      have SH := shi SH 123 (ix v4) ((v1 >>> (v4 &&& 31)) &&& 1)
      refine And.imp_left (rs_iinc i_X8_colours_56 rfl (v := v4 + 1) rfl (Nat.le_of_ble_eq_true rfl) (lv' := [some (.ref 96), some (.int v1), some (.int v2), some (.int v3), some (.int (v4 + 1)), none, none, none]) rfl) ?_
      refine And.imp_left (rs_goto i_X8_colours_59 (tg := 36) (by decide)) ?_
      exact ih _ _ _ _ _ _ SH hf
noncomputable def g_X8_colours_0 (n : Nat) (v1 : Int32) (v2 : Int32) (v3 : Int32) (h : Hp) : Option (Int32 × Hp) :=
  (g_X8_in v1 0 65535 h).bind fun o1 =>
  if o1.1 = 0 then
    some ((-2), o1.2)
  else
    (g_X8_in v2 0 10 o1.2).bind fun o3 =>
    if o3.1 = 0 then
      some ((-2), o3.2)
    else
      (g_X8_in v3 0 2 o3.2).bind fun o5 =>
      if o5.1 ≠ 0 then
        g_X8_colours_36 n n v1 v2 v3 0 o5.2
      else
        some ((-2), o5.2)
set_option maxRecDepth 100000 in
set_option maxHeartbeats 4000000 in
theorem q_X8_colours_0 {X : Nat → Int32} {d : Nat} (hd : 1 ≤ (d + 1)) {L hi : Nat} (hh : 125 ≤ hi) {n : Nat} {v1 : Int32} {v2 : Int32} {v3 : Int32} {h : Hp} {o : (Int32 × Hp)}  (SH : SHP L hi h) (hf : g_X8_colours_0 n v1 v2 v3 h = some o) : Run X (d + 1) 203 0 [some (.ref 96), some (.int v1), some (.int v2), some (.int v3), none, none, none, none] [] h (some (.int o.1), o.2) ∧ SHP L hi o.2 := by
  unfold g_X8_colours_0 at hf
  refine And.imp_left (rs_iload_n i_X8_colours_0 rfl) ?_
  refine And.imp_left (rs_iconst i_X8_colours_1 (v := 0) (by decide)) ?_
  refine And.imp_left (rs_ldcw i_X8_colours_2 (v := 65535) (by decide)) ?_
  obtain ⟨o1, e1, hf⟩ := bind_some hf
  obtain ⟨u1, SH2⟩ := k_X8_in (X := X) (d := d) (by omega) (by omega) SH e1
  refine And.imp_left (rs_inS i_X8_colours_5 (by decide) m_X8_in rfl (As := [.int v1, .int 0, .int 65535]) (rest := []) rfl rfl (Nat.le_of_ble_eq_true rfl) u1 (st' := [.int o1.1]) rfl) ?_
  clear SH; have SH := SH2; clear SH2
  by_cases c2 : o1.1 = 0
  · replace hf := (if_pos c2).symm.trans hf
    refine And.imp_left (rs_ifT i_X8_colours_8 (ct_eq c2) (tg := 30) (by decide)) ?_
    refine And.imp_left (rs_bipush i_X8_colours_30 (v := (-2)) (by decide)) ?_
    have hf := Option.some.inj hf
    subst hf
    exact ⟨rs_iret i_X8_colours_32 m_X8_colours rfl, SH⟩
  · replace hf := (if_neg c2).symm.trans hf
    refine And.imp_left (rs_ifF i_X8_colours_8 (cf_eq c2)) ?_
    refine And.imp_left (rs_iload_n i_X8_colours_11 rfl) ?_
    refine And.imp_left (rs_iconst i_X8_colours_12 (v := 0) (by decide)) ?_
    refine And.imp_left (rs_bipush i_X8_colours_13 (v := 10) (by decide)) ?_
    obtain ⟨o3, e3, hf⟩ := bind_some hf
    obtain ⟨u3, SH2⟩ := k_X8_in (X := X) (d := d) (by omega) (by omega) SH e3
    refine And.imp_left (rs_inS i_X8_colours_15 (by decide) m_X8_in rfl (As := [.int v2, .int 0, .int 10]) (rest := []) rfl rfl (Nat.le_of_ble_eq_true rfl) u3 (st' := [.int o3.1]) rfl) ?_
    clear SH; have SH := SH2; clear SH2
    by_cases c4 : o3.1 = 0
    · replace hf := (if_pos c4).symm.trans hf
      refine And.imp_left (rs_ifT i_X8_colours_18 (ct_eq c4) (tg := 30) (by decide)) ?_
      refine And.imp_left (rs_bipush i_X8_colours_30 (v := (-2)) (by decide)) ?_
      have hf := Option.some.inj hf
      subst hf
      exact ⟨rs_iret i_X8_colours_32 m_X8_colours rfl, SH⟩
    · replace hf := (if_neg c4).symm.trans hf
      refine And.imp_left (rs_ifF i_X8_colours_18 (cf_eq c4)) ?_
      refine And.imp_left (rs_iload_n i_X8_colours_21 rfl) ?_
      refine And.imp_left (rs_iconst i_X8_colours_22 (v := 0) (by decide)) ?_
      refine And.imp_left (rs_iconst i_X8_colours_23 (v := 2) (by decide)) ?_
      obtain ⟨o5, e5, hf⟩ := bind_some hf
      obtain ⟨u5, SH2⟩ := k_X8_in (X := X) (d := d) (by omega) (by omega) SH e5
      refine And.imp_left (rs_inS i_X8_colours_24 (by decide) m_X8_in rfl (As := [.int v3, .int 0, .int 2]) (rest := []) rfl rfl (Nat.le_of_ble_eq_true rfl) u5 (st' := [.int o5.1]) rfl) ?_
      clear SH; have SH := SH2; clear SH2
      by_cases c6 : o5.1 ≠ 0
      · replace hf := (if_pos c6).symm.trans hf
        refine And.imp_left (rs_ifT i_X8_colours_27 (ct_ne c6) (tg := 33) (by decide)) ?_
        refine And.imp_left (rs_iconst i_X8_colours_33 (v := 0) (by decide)) ?_
        refine And.imp_left (rs_istore i_X8_colours_34 (Nat.le_of_ble_eq_true rfl) (lv' := [some (.ref 96), some (.int v1), some (.int v2), some (.int v3), some (.int 0), none, none, none]) rfl) ?_
        exact q_X8_colours_36 hd hh _ _ _ _ _ _ _ SH hf
      · replace hf := (if_neg c6).symm.trans hf
        refine And.imp_left (rs_ifF i_X8_colours_27 (cf_ne c6)) ?_
        refine And.imp_left (rs_bipush i_X8_colours_30 (v := (-2)) (by decide)) ?_
        have hf := Option.some.inj hf
        subst hf
        exact ⟨rs_iret i_X8_colours_32 m_X8_colours rfl, SH⟩
noncomputable def g_X8_colours (n : Nat) (v1 : Int32) (v2 : Int32) (v3 : Int32) (h : Hp) : Option (Int32 × Hp) := g_X8_colours_0 n v1 v2 v3 h
theorem k_X8_colours {X : Nat → Int32} {d : Nat} (hd : 1 ≤ d) {L hi : Nat} (hh : 125 ≤ hi) {n : Nat} {v1 : Int32} {v2 : Int32} {v3 : Int32} {h : Hp} {o : (Int32 × Hp)}  (SH : SHP L hi h) (hf : g_X8_colours n v1 v2 v3 h = some o) : Calls X d 203 [.ref 96, .int v1, .int v2, .int v3] h (some (.int o.1), o.2) ∧ SHP L hi o.2 := by
  obtain ⟨d, rfl⟩ : ∃ z, d = z + 1 := ⟨d - 1, by omega⟩
  obtain ⟨r, S2⟩ := q_X8_colours_0 hd hh SH hf
  exact ⟨⟨_, rfl, r⟩, S2⟩
