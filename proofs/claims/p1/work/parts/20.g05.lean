noncomputable def g_X8_roll_103 (v4 : Int32) (s0 : Nat) (s1 : Int32) (s2 : Int32) (h : Hp) : Option (Int32 × Hp) :=
  if inb s1 12 = true then
  some (v4, (hsi h s0 (ix s1) s2))
  else none
set_option maxRecDepth 100000 in
set_option maxHeartbeats 4000000 in
theorem q_X8_roll_103 {X : Nat → Int32} {d : Nat} (hd : 2 ≤ (d + 1)) {L hi : Nat} (hh : 125 ≤ hi) {v4 : Int32} {s0 : Nat} {s1 : Int32} {s2 : Int32} {d1 : Int32} {d2 : Int32} {d3 : Int32} {h : Hp} {o : (Int32 × Hp)} (hs0 : ARY 125 s0 9 12) (SH : SHP L hi h) (hf : g_X8_roll_103 v4 s0 s1 s2 h = some o) : Run X (d + 1) 131 103 [some (.ref 96), some (.int d1), some (.int d2), some (.int d3), some (.int v4)] [.int s2, .int s1, .ref s0] h (some (.int o.1), o.2) ∧ SHP L hi o.2 := by
  unfold g_X8_roll_103 at hf
  obtain ⟨c1, hf⟩ := ite_some hf
  refine And.imp_left (rs_iast i_X8_roll_103 (mkI (sA SH hh (k := 9) (n := 12) hs0) c1)) ?_
  have SH := shi SH s0 (ix s1) s2
  refine And.imp_left (rs_iload i_X8_roll_104 rfl) ?_
  have hf := Option.some.inj hf
  subst hf
  exact ⟨rs_iret i_X8_roll_106 m_X8_roll rfl, SH⟩
noncomputable def g_X8_roll_83 (v1 : Int32) (v2 : Int32) (v3 : Int32) (v4 : Int32) (h : Hp) : Option (Int32 × Hp) :=
  if v2 ≠ 1 then
    if inb v1 12 = true then
    g_X8_roll_103 v4 98 v1 (gI h 98 (ix v1)) h
    else none
  else
    g_X8_roll_103 v4 98 v1 v3 h
set_option maxRecDepth 100000 in
set_option maxHeartbeats 4000000 in
theorem q_X8_roll_83 {X : Nat → Int32} {d : Nat} (hd : 2 ≤ (d + 1)) {L hi : Nat} (hh : 125 ≤ hi) {v1 : Int32} {v2 : Int32} {v3 : Int32} {v4 : Int32} {h : Hp} {o : (Int32 × Hp)}  (SH : SHP L hi h) (hf : g_X8_roll_83 v1 v2 v3 v4 h = some o) : Run X (d + 1) 131 83 [some (.ref 96), some (.int v1), some (.int v2), some (.int v3), some (.int v4)] [] h (some (.int o.1), o.2) ∧ SHP L hi o.2 := by
  unfold g_X8_roll_83 at hf
  refine And.imp_left (rs_aload_n i_X8_roll_83 rfl) ?_
  refine And.imp_left (rs_getR i_X8_roll_84 (by decide) (by decide) (sO8 SH hh) (sR8_1 SH hh)) ?_
  refine And.imp_left (rs_iload_n i_X8_roll_87 rfl) ?_
  refine And.imp_left (rs_iload_n i_X8_roll_88 rfl) ?_
  refine And.imp_left (rs_iconst i_X8_roll_89 (v := 1) (by decide)) ?_
  by_cases c1 : v2 ≠ 1
  · replace hf := (if_pos c1).symm.trans hf
    refine And.imp_left (rs_icT i_X8_roll_90 (ct_ne c1) (tg := 97) (by decide)) ?_
    refine And.imp_left (rs_aload_n i_X8_roll_97 rfl) ?_
    refine And.imp_left (rs_getR i_X8_roll_98 (by decide) (by decide) (sO8 SH hh) (sR8_1 SH hh)) ?_
    refine And.imp_left (rs_iload_n i_X8_roll_101 rfl) ?_
    obtain ⟨c2, hf⟩ := ite_some hf
    refine And.imp_left (rs_iald i_X8_roll_102 (mkI (sA SH hh (k := 9) (n := 12) (by decide)) c2)) ?_
    exact q_X8_roll_103 hd hh (by decide) SH hf
  · replace hf := (if_neg c1).symm.trans hf
    refine And.imp_left (rs_icF i_X8_roll_90 (cf_ne c1)) ?_
    refine And.imp_left (rs_iload_n i_X8_roll_93 rfl) ?_
    refine And.imp_left (rs_goto i_X8_roll_94 (tg := 103) (by decide)) ?_
    exact q_X8_roll_103 hd hh (by decide) SH hf
noncomputable def g_X8_roll_82 (v1 : Int32) (v2 : Int32) (v3 : Int32) (v4 : Int32) (s0 : Nat) (s1 : Int32) (s2 : Int32) (h : Hp) : Option (Int32 × Hp) :=
  if inb s1 12 = true then
  g_X8_roll_83 v1 v2 v3 v4 (hsi h s0 (ix s1) s2)
  else none
set_option maxRecDepth 100000 in
set_option maxHeartbeats 4000000 in
theorem q_X8_roll_82 {X : Nat → Int32} {d : Nat} (hd : 2 ≤ (d + 1)) {L hi : Nat} (hh : 125 ≤ hi) {v1 : Int32} {v2 : Int32} {v3 : Int32} {v4 : Int32} {s0 : Nat} {s1 : Int32} {s2 : Int32} {h : Hp} {o : (Int32 × Hp)} (hs0 : ARY 125 s0 9 12) (SH : SHP L hi h) (hf : g_X8_roll_82 v1 v2 v3 v4 s0 s1 s2 h = some o) : Run X (d + 1) 131 82 [some (.ref 96), some (.int v1), some (.int v2), some (.int v3), some (.int v4)] [.int s2, .int s1, .ref s0] h (some (.int o.1), o.2) ∧ SHP L hi o.2 := by
  unfold g_X8_roll_82 at hf
  obtain ⟨c1, hf⟩ := ite_some hf
  refine And.imp_left (rs_iast i_X8_roll_82 (mkI (sA SH hh (k := 9) (n := 12) hs0) c1)) ?_
  have SH := shi SH s0 (ix s1) s2
  exact q_X8_roll_83 hd hh SH hf
noncomputable def g_X8_roll_61 (v1 : Int32) (v2 : Int32) (v3 : Int32) (s0 : Int32) (h : Hp) : Option (Int32 × Hp) :=
  if v2 ≠ 0 then
    if inb v1 12 = true then
    g_X8_roll_82 v1 v2 v3 s0 97 v1 (gI h 97 (ix v1)) h
    else none
  else
    g_X8_roll_82 v1 v2 v3 s0 97 v1 v3 h
set_option maxRecDepth 100000 in
set_option maxHeartbeats 4000000 in
theorem q_X8_roll_61 {X : Nat → Int32} {d : Nat} (hd : 2 ≤ (d + 1)) {L hi : Nat} (hh : 125 ≤ hi) {v1 : Int32} {v2 : Int32} {v3 : Int32} {s0 : Int32} {h : Hp} {o : (Int32 × Hp)}  (SH : SHP L hi h) (hf : g_X8_roll_61 v1 v2 v3 s0 h = some o) : Run X (d + 1) 131 61 [some (.ref 96), some (.int v1), some (.int v2), some (.int v3), none] [.int s0] h (some (.int o.1), o.2) ∧ SHP L hi o.2 := by
  unfold g_X8_roll_61 at hf
  refine And.imp_left (rs_istore i_X8_roll_61 (Nat.le_of_ble_eq_true rfl) (lv' := [some (.ref 96), some (.int v1), some (.int v2), some (.int v3), some (.int s0)]) rfl) ?_
  refine And.imp_left (rs_aload_n i_X8_roll_63 rfl) ?_
  refine And.imp_left (rs_getR i_X8_roll_64 (by decide) (by decide) (sO8 SH hh) (sR8_0 SH hh)) ?_
  refine And.imp_left (rs_iload_n i_X8_roll_67 rfl) ?_
  refine And.imp_left (rs_iload_n i_X8_roll_68 rfl) ?_
  by_cases c1 : v2 ≠ 0
  · replace hf := (if_pos c1).symm.trans hf
    refine And.imp_left (rs_ifT i_X8_roll_69 (ct_ne c1) (tg := 76) (by decide)) ?_
    refine And.imp_left (rs_aload_n i_X8_roll_76 rfl) ?_
    refine And.imp_left (rs_getR i_X8_roll_77 (by decide) (by decide) (sO8 SH hh) (sR8_0 SH hh)) ?_
    refine And.imp_left (rs_iload_n i_X8_roll_80 rfl) ?_
    obtain ⟨c2, hf⟩ := ite_some hf
    refine And.imp_left (rs_iald i_X8_roll_81 (mkI (sA SH hh (k := 9) (n := 12) (by decide)) c2)) ?_
    exact q_X8_roll_82 hd hh (by decide) SH hf
  · replace hf := (if_neg c1).symm.trans hf
    refine And.imp_left (rs_ifF i_X8_roll_69 (cf_ne c1)) ?_
    refine And.imp_left (rs_iload_n i_X8_roll_72 rfl) ?_
    refine And.imp_left (rs_goto i_X8_roll_73 (tg := 82) (by decide)) ?_
    exact q_X8_roll_82 hd hh (by decide) SH hf
noncomputable def g_X8_roll_33 (v1 : Int32) (v2 : Int32) (v3 : Int32) (s0 : Int32) (s1 : Int32) (s2 : Int32) (h : Hp) : Option (Int32 × Hp) :=
  (g_X8_in s0 s1 s2 h).bind fun o1 =>
  if o1.1 ≠ 0 then
    if v2 ≠ 0 then
      if inb v1 12 = true then
      g_X8_roll_61 v1 v2 v3 (gI o1.2 98 (ix v1)) o1.2
      else none
    else
      if inb v1 12 = true then
      g_X8_roll_61 v1 v2 v3 (gI o1.2 97 (ix v1)) o1.2
      else none
  else
    some ((-7), o1.2)
set_option maxRecDepth 100000 in
set_option maxHeartbeats 4000000 in
theorem q_X8_roll_33 {X : Nat → Int32} {d : Nat} (hd : 2 ≤ (d + 1)) {L hi : Nat} (hh : 125 ≤ hi) {v1 : Int32} {v2 : Int32} {v3 : Int32} {s0 : Int32} {s1 : Int32} {s2 : Int32} {h : Hp} {o : (Int32 × Hp)}  (SH : SHP L hi h) (hf : g_X8_roll_33 v1 v2 v3 s0 s1 s2 h = some o) : Run X (d + 1) 131 33 [some (.ref 96), some (.int v1), some (.int v2), some (.int v3), none] [.int s2, .int s1, .int s0] h (some (.int o.1), o.2) ∧ SHP L hi o.2 := by
  unfold g_X8_roll_33 at hf
  obtain ⟨o1, e1, hf⟩ := bind_some hf
  obtain ⟨u1, SH2⟩ := k_X8_in (X := X) (d := d) (by omega) (by omega) SH e1
  refine And.imp_left (rs_inS i_X8_roll_33 (by decide) m_X8_in rfl (As := [.int s0, .int s1, .int s2]) (rest := []) rfl rfl (Nat.le_of_ble_eq_true rfl) u1 (st' := [.int o1.1]) rfl) ?_
  clear SH; have SH := SH2; clear SH2
  by_cases c2 : o1.1 ≠ 0
  · replace hf := (if_pos c2).symm.trans hf
    refine And.imp_left (rs_ifT i_X8_roll_36 (ct_ne c2) (tg := 42) (by decide)) ?_
    refine And.imp_left (rs_iload_n i_X8_roll_42 rfl) ?_
    by_cases c3 : v2 ≠ 0
    · replace hf := (if_pos c3).symm.trans hf
      refine And.imp_left (rs_ifT i_X8_roll_43 (ct_ne c3) (tg := 55) (by decide)) ?_
      refine And.imp_left (rs_aload_n i_X8_roll_55 rfl) ?_
      refine And.imp_left (rs_getR i_X8_roll_56 (by decide) (by decide) (sO8 SH hh) (sR8_1 SH hh)) ?_
      refine And.imp_left (rs_iload_n i_X8_roll_59 rfl) ?_
      obtain ⟨c4, hf⟩ := ite_some hf
      refine And.imp_left (rs_iald i_X8_roll_60 (mkI (sA SH hh (k := 9) (n := 12) (by decide)) c4)) ?_
      exact q_X8_roll_61 hd hh SH hf
    · replace hf := (if_neg c3).symm.trans hf
      refine And.imp_left (rs_ifF i_X8_roll_43 (cf_ne c3)) ?_
      refine And.imp_left (rs_aload_n i_X8_roll_46 rfl) ?_
      refine And.imp_left (rs_getR i_X8_roll_47 (by decide) (by decide) (sO8 SH hh) (sR8_0 SH hh)) ?_
      refine And.imp_left (rs_iload_n i_X8_roll_50 rfl) ?_
      obtain ⟨c5, hf⟩ := ite_some hf
      refine And.imp_left (rs_iald i_X8_roll_51 (mkI (sA SH hh (k := 9) (n := 12) (by decide)) c5)) ?_
      refine And.imp_left (rs_goto i_X8_roll_52 (tg := 61) (by decide)) ?_
      exact q_X8_roll_61 hd hh SH hf
  · replace hf := (if_neg c2).symm.trans hf
    refine And.imp_left (rs_ifF i_X8_roll_36 (cf_ne c2)) ?_
    refine And.imp_left (rs_bipush i_X8_roll_39 (v := (-7)) (by decide)) ?_
    have hf := Option.some.inj hf
    subst hf
    exact ⟨rs_iret i_X8_roll_41 m_X8_roll rfl, SH⟩
noncomputable def g_X8_roll_0 (v1 : Int32) (v2 : Int32) (v3 : Int32) (h : Hp) : Option (Int32 × Hp) :=
  (g_X8_isCell v1 h).bind fun o1 =>
  if o1.1 ≠ 0 then
    (g_X8_in v2 0 1 o1.2).bind fun o3 =>
    if o3.1 = 0 then
      some ((-7), o3.2)
    else
      if v2 ≠ 0 then
        g_X8_roll_33 v1 v2 v3 v3 1 999 o3.2
      else
        g_X8_roll_33 v1 v2 v3 v3 1 99999 o3.2
  else
    some ((-5), o1.2)
set_option maxRecDepth 100000 in
set_option maxHeartbeats 4000000 in
theorem q_X8_roll_0 {X : Nat → Int32} {d : Nat} (hd : 2 ≤ (d + 1)) {L hi : Nat} (hh : 125 ≤ hi) {v1 : Int32} {v2 : Int32} {v3 : Int32} {h : Hp} {o : (Int32 × Hp)}  (SH : SHP L hi h) (hf : g_X8_roll_0 v1 v2 v3 h = some o) : Run X (d + 1) 131 0 [some (.ref 96), some (.int v1), some (.int v2), some (.int v3), none] [] h (some (.int o.1), o.2) ∧ SHP L hi o.2 := by
  unfold g_X8_roll_0 at hf
  refine And.imp_left (rs_iload_n i_X8_roll_0 rfl) ?_
  obtain ⟨o1, e1, hf⟩ := bind_some hf
  obtain ⟨u1, SH2⟩ := k_X8_isCell (X := X) (d := d) (by omega) (by omega) SH e1
  refine And.imp_left (rs_inS i_X8_roll_1 (by decide) m_X8_isCell rfl (As := [.int v1]) (rest := []) rfl rfl (Nat.le_of_ble_eq_true rfl) u1 (st' := [.int o1.1]) rfl) ?_
  clear SH; have SH := SH2; clear SH2
  by_cases c2 : o1.1 ≠ 0
  · replace hf := (if_pos c2).symm.trans hf
    refine And.imp_left (rs_ifT i_X8_roll_4 (ct_ne c2) (tg := 10) (by decide)) ?_
    refine And.imp_left (rs_iload_n i_X8_roll_10 rfl) ?_
    refine And.imp_left (rs_iconst i_X8_roll_11 (v := 0) (by decide)) ?_
    refine And.imp_left (rs_iconst i_X8_roll_12 (v := 1) (by decide)) ?_
    obtain ⟨o3, e3, hf⟩ := bind_some hf
    obtain ⟨u3, SH2⟩ := k_X8_in (X := X) (d := d) (by omega) (by omega) SH e3
    refine And.imp_left (rs_inS i_X8_roll_13 (by decide) m_X8_in rfl (As := [.int v2, .int 0, .int 1]) (rest := []) rfl rfl (Nat.le_of_ble_eq_true rfl) u3 (st' := [.int o3.1]) rfl) ?_
    clear SH; have SH := SH2; clear SH2
    by_cases c4 : o3.1 = 0
    · replace hf := (if_pos c4).symm.trans hf
      refine And.imp_left (rs_ifT i_X8_roll_16 (ct_eq c4) (tg := 39) (by decide)) ?_
      refine And.imp_left (rs_bipush i_X8_roll_39 (v := (-7)) (by decide)) ?_
      have hf := Option.some.inj hf
      subst hf
      exact ⟨rs_iret i_X8_roll_41 m_X8_roll rfl, SH⟩
    · replace hf := (if_neg c4).symm.trans hf
      refine And.imp_left (rs_ifF i_X8_roll_16 (cf_eq c4)) ?_
      refine And.imp_left (rs_iload_n i_X8_roll_19 rfl) ?_
      refine And.imp_left (rs_iconst i_X8_roll_20 (v := 1) (by decide)) ?_
      refine And.imp_left (rs_iload_n i_X8_roll_21 rfl) ?_
      by_cases c5 : v2 ≠ 0
      · replace hf := (if_pos c5).symm.trans hf
        refine And.imp_left (rs_ifT i_X8_roll_22 (ct_ne c5) (tg := 30) (by decide)) ?_
        refine And.imp_left (rs_sipush i_X8_roll_30 (v := 999) (by decide)) ?_
        exact q_X8_roll_33 hd hh SH hf
      · replace hf := (if_neg c5).symm.trans hf
        refine And.imp_left (rs_ifF i_X8_roll_22 (cf_ne c5)) ?_
        refine And.imp_left (rs_ldc i_X8_roll_25 (v := 99999) (by decide)) ?_
        refine And.imp_left (rs_goto i_X8_roll_27 (tg := 33) (by decide)) ?_
        exact q_X8_roll_33 hd hh SH hf
  · replace hf := (if_neg c2).symm.trans hf
    refine And.imp_left (rs_ifF i_X8_roll_4 (cf_ne c2)) ?_
    refine And.imp_left (rs_bipush i_X8_roll_7 (v := (-5)) (by decide)) ?_
    have hf := Option.some.inj hf
    subst hf
    exact ⟨rs_iret i_X8_roll_9 m_X8_roll rfl, SH⟩
noncomputable def g_X8_roll (v1 : Int32) (v2 : Int32) (v3 : Int32) (h : Hp) : Option (Int32 × Hp) := g_X8_roll_0 v1 v2 v3 h
theorem k_X8_roll {X : Nat → Int32} {d : Nat} (hd : 2 ≤ d) {L hi : Nat} (hh : 125 ≤ hi) {v1 : Int32} {v2 : Int32} {v3 : Int32} {h : Hp} {o : (Int32 × Hp)}  (SH : SHP L hi h) (hf : g_X8_roll v1 v2 v3 h = some o) : Calls X d 131 [.ref 96, .int v1, .int v2, .int v3] h (some (.int o.1), o.2) ∧ SHP L hi o.2 := by
  obtain ⟨d, rfl⟩ : ∃ z, d = z + 1 := ⟨d - 1, by omega⟩
  obtain ⟨r, S2⟩ := q_X8_roll_0 hd hh SH hf
  exact ⟨⟨_, rfl, r⟩, S2⟩
noncomputable def g_X8_count_0 (v1 : Int32) (h : Hp) : Option (Int32 × Hp) :=
  if v1 = 0 then
    some ((gI h 96 2), h)
  else
    if v1 = 1 then
      some ((gI h 96 3), h)
    else
      if v1 = 2 then
        some ((gI h 96 4), h)
      else
        if v1 = 3 then
          some ((gI h 96 5), h)
        else
          if v1 = 4 then
            some ((gI h 96 13), h)
          else
            if v1 = 5 then
              some ((gI h 96 14), h)
            else
              if v1 = 6 then
                some ((gI h 96 10), h)
              else
                some ((-2), h)
set_option maxRecDepth 100000 in
set_option maxHeartbeats 4000000 in
theorem q_X8_count_0 {X : Nat → Int32} {d : Nat} (hd : 0 ≤ d) {L hi : Nat} (hh : 125 ≤ hi) {v1 : Int32} {h : Hp} {o : (Int32 × Hp)}  (SH : SHP L hi h) (hf : g_X8_count_0 v1 h = some o) : Run X d 134 0 [some (.ref 96), some (.int v1)] [] h (some (.int o.1), o.2) ∧ SHP L hi o.2 := by
  unfold g_X8_count_0 at hf
  refine And.imp_left (rs_iload_n i_X8_count_0 rfl) ?_
  by_cases c1 : v1 = 0
  · replace hf := (if_pos c1).symm.trans hf
    refine And.imp_left (rs_tsw i_X8_count_1 (off := 43) (by rw [c1]; decide) (tg := 44) (by decide)) ?_
    refine And.imp_left (rs_aload_n i_X8_count_44 rfl) ?_
    refine And.imp_left (rs_getI i_X8_count_45 (by decide) (by decide) (sO8 SH hh)) ?_
    have hf := Option.some.inj hf
    subst hf
    exact ⟨rs_iret i_X8_count_48 m_X8_count rfl, SH⟩
  · replace hf := (if_neg c1).symm.trans hf
    by_cases c2 : v1 = 1
    · replace hf := (if_pos c2).symm.trans hf
      refine And.imp_left (rs_tsw i_X8_count_1 (off := 48) (by rw [c2]; decide) (tg := 49) (by decide)) ?_
      refine And.imp_left (rs_aload_n i_X8_count_49 rfl) ?_
      refine And.imp_left (rs_getI i_X8_count_50 (by decide) (by decide) (sO8 SH hh)) ?_
      have hf := Option.some.inj hf
      subst hf
      exact ⟨rs_iret i_X8_count_53 m_X8_count rfl, SH⟩
    · replace hf := (if_neg c2).symm.trans hf
      by_cases c3 : v1 = 2
      · replace hf := (if_pos c3).symm.trans hf
        refine And.imp_left (rs_tsw i_X8_count_1 (off := 53) (by rw [c3]; decide) (tg := 54) (by decide)) ?_
        refine And.imp_left (rs_aload_n i_X8_count_54 rfl) ?_
        refine And.imp_left (rs_getI i_X8_count_55 (by decide) (by decide) (sO8 SH hh)) ?_
        have hf := Option.some.inj hf
        subst hf
        exact ⟨rs_iret i_X8_count_58 m_X8_count rfl, SH⟩
      · replace hf := (if_neg c3).symm.trans hf
        by_cases c4 : v1 = 3
        · replace hf := (if_pos c4).symm.trans hf
          refine And.imp_left (rs_tsw i_X8_count_1 (off := 58) (by rw [c4]; decide) (tg := 59) (by decide)) ?_
          refine And.imp_left (rs_aload_n i_X8_count_59 rfl) ?_
          refine And.imp_left (rs_getI i_X8_count_60 (by decide) (by decide) (sO8 SH hh)) ?_
          have hf := Option.some.inj hf
          subst hf
          exact ⟨rs_iret i_X8_count_63 m_X8_count rfl, SH⟩
        · replace hf := (if_neg c4).symm.trans hf
          by_cases c5 : v1 = 4
          · replace hf := (if_pos c5).symm.trans hf
            refine And.imp_left (rs_tsw i_X8_count_1 (off := 63) (by rw [c5]; decide) (tg := 64) (by decide)) ?_
            refine And.imp_left (rs_aload_n i_X8_count_64 rfl) ?_
            refine And.imp_left (rs_getI i_X8_count_65 (by decide) (by decide) (sO8 SH hh)) ?_
            have hf := Option.some.inj hf
            subst hf
            exact ⟨rs_iret i_X8_count_68 m_X8_count rfl, SH⟩
          · replace hf := (if_neg c5).symm.trans hf
            by_cases c6 : v1 = 5
            · replace hf := (if_pos c6).symm.trans hf
              refine And.imp_left (rs_tsw i_X8_count_1 (off := 68) (by rw [c6]; decide) (tg := 69) (by decide)) ?_
              refine And.imp_left (rs_aload_n i_X8_count_69 rfl) ?_
              refine And.imp_left (rs_getI i_X8_count_70 (by decide) (by decide) (sO8 SH hh)) ?_
              have hf := Option.some.inj hf
              subst hf
              exact ⟨rs_iret i_X8_count_73 m_X8_count rfl, SH⟩
            · replace hf := (if_neg c6).symm.trans hf
              by_cases c7 : v1 = 6
              · replace hf := (if_pos c7).symm.trans hf
                refine And.imp_left (rs_tsw i_X8_count_1 (off := 73) (by rw [c7]; decide) (tg := 74) (by decide)) ?_
                refine And.imp_left (rs_aload_n i_X8_count_74 rfl) ?_
                refine And.imp_left (rs_getI i_X8_count_75 (by decide) (by decide) (sO8 SH hh)) ?_
                have hf := Option.some.inj hf
                subst hf
                exact ⟨rs_iret i_X8_count_78 m_X8_count rfl, SH⟩
              · replace hf := (if_neg c7).symm.trans hf
                refine And.imp_left (rs_tsw i_X8_count_1 (off := 78) (swt_df (by have z0 := ne_ti c1; rw [show (0 : Int32).toInt = 0 from by decide] at z0; have z1 := ne_ti c2; rw [show (1 : Int32).toInt = 1 from by decide] at z1; have z2 := ne_ti c3; rw [show (2 : Int32).toInt = 2 from by decide] at z2; have z3 := ne_ti c4; rw [show (3 : Int32).toInt = 3 from by decide] at z3; have z4 := ne_ti c5; rw [show (4 : Int32).toInt = 4 from by decide] at z4; have z5 := ne_ti c6; rw [show (5 : Int32).toInt = 5 from by decide] at z5; have z6 := ne_ti c7; rw [show (6 : Int32).toInt = 6 from by decide] at z6; omega)) (tg := 79) (by decide)) ?_
                refine And.imp_left (rs_bipush i_X8_count_79 (v := (-2)) (by decide)) ?_
                have hf := Option.some.inj hf
                subst hf
                exact ⟨rs_iret i_X8_count_81 m_X8_count rfl, SH⟩
noncomputable def g_X8_count (v1 : Int32) (h : Hp) : Option (Int32 × Hp) := g_X8_count_0 v1 h
theorem k_X8_count {X : Nat → Int32} {d : Nat} (hd : 0 ≤ d) {L hi : Nat} (hh : 125 ≤ hi) {v1 : Int32} {h : Hp} {o : (Int32 × Hp)}  (SH : SHP L hi h) (hf : g_X8_count v1 h = some o) : Calls X d 134 [.ref 96, .int v1] h (some (.int o.1), o.2) ∧ SHP L hi o.2 := by
  obtain ⟨r, S2⟩ := q_X8_count_0 hd hh SH hf
  exact ⟨⟨_, rfl, r⟩, S2⟩
noncomputable def g_X8_holds0_47 (s1 : Int32) (h : Hp) : Option Hp :=
  some (hsi h 96 4 s1)
set_option maxRecDepth 100000 in
set_option maxHeartbeats 4000000 in
theorem q_X8_holds0_47 {X : Nat → Int32} {d : Nat} (hd : 0 ≤ d) {L hi : Nat} (hh : 125 ≤ hi) {s1 : Int32} {d1 : Int32} {d2 : Int32} {h : Hp} {o : Hp}  (SH : SHP L hi h) (hf : g_X8_holds0_47 s1 h = some o) : Run X d 133 47 [some (.ref 96), some (.int d1), some (.int d2)] [.int s1, .ref 96] h (none, o) ∧ SHP L hi o := by
  unfold g_X8_holds0_47 at hf
  refine And.imp_left (rs_putI i_X8_holds0_47 (by decide) (sO8 SH hh)) ?_
  have SH := shi SH 96 4 s1
  have hf := Option.some.inj hf
  subst hf
  exact ⟨rs_vret i_X8_holds0_50 m_X8_holds0 rfl, SH⟩
noncomputable def g_X8_holds0_33 (v1 : Int32) (v2 : Int32) (h : Hp) : Option Hp :=
  if v1 ≠ 2 then
    g_X8_holds0_47 (gI h 96 4) h
  else
    g_X8_holds0_47 v2 h
set_option maxRecDepth 100000 in
set_option maxHeartbeats 4000000 in
theorem q_X8_holds0_33 {X : Nat → Int32} {d : Nat} (hd : 0 ≤ d) {L hi : Nat} (hh : 125 ≤ hi) {v1 : Int32} {v2 : Int32} {h : Hp} {o : Hp}  (SH : SHP L hi h) (hf : g_X8_holds0_33 v1 v2 h = some o) : Run X d 133 33 [some (.ref 96), some (.int v1), some (.int v2)] [] h (none, o) ∧ SHP L hi o := by
  unfold g_X8_holds0_33 at hf
  refine And.imp_left (rs_aload_n i_X8_holds0_33 rfl) ?_
  refine And.imp_left (rs_iload_n i_X8_holds0_34 rfl) ?_
  refine And.imp_left (rs_iconst i_X8_holds0_35 (v := 2) (by decide)) ?_
  by_cases c1 : v1 ≠ 2
  · replace hf := (if_pos c1).symm.trans hf
    refine And.imp_left (rs_icT i_X8_holds0_36 (ct_ne c1) (tg := 43) (by decide)) ?_
    refine And.imp_left (rs_aload_n i_X8_holds0_43 rfl) ?_
    refine And.imp_left (rs_getI i_X8_holds0_44 (by decide) (by decide) (sO8 SH hh)) ?_
    exact q_X8_holds0_47 hd hh SH hf
  · replace hf := (if_neg c1).symm.trans hf
    refine And.imp_left (rs_icF i_X8_holds0_36 (cf_ne c1)) ?_
    refine And.imp_left (rs_iload_n i_X8_holds0_39 rfl) ?_
    refine And.imp_left (rs_goto i_X8_holds0_40 (tg := 47) (by decide)) ?_
    exact q_X8_holds0_47 hd hh SH hf
noncomputable def g_X8_holds0_30 (v1 : Int32) (v2 : Int32) (s1 : Int32) (h : Hp) : Option Hp :=
  g_X8_holds0_33 v1 v2 (hsi h 96 3 s1)
set_option maxRecDepth 100000 in
set_option maxHeartbeats 4000000 in
theorem q_X8_holds0_30 {X : Nat → Int32} {d : Nat} (hd : 0 ≤ d) {L hi : Nat} (hh : 125 ≤ hi) {v1 : Int32} {v2 : Int32} {s1 : Int32} {h : Hp} {o : Hp}  (SH : SHP L hi h) (hf : g_X8_holds0_30 v1 v2 s1 h = some o) : Run X d 133 30 [some (.ref 96), some (.int v1), some (.int v2)] [.int s1, .ref 96] h (none, o) ∧ SHP L hi o := by
  unfold g_X8_holds0_30 at hf
  refine And.imp_left (rs_putI i_X8_holds0_30 (by decide) (sO8 SH hh)) ?_
  have SH := shi SH 96 3 s1
  exact q_X8_holds0_33 hd hh SH hf
noncomputable def g_X8_holds0_16 (v1 : Int32) (v2 : Int32) (h : Hp) : Option Hp :=
  if v1 ≠ 1 then
    g_X8_holds0_30 v1 v2 (gI h 96 3) h
  else
    g_X8_holds0_30 v1 v2 v2 h
set_option maxRecDepth 100000 in
set_option maxHeartbeats 4000000 in
theorem q_X8_holds0_16 {X : Nat → Int32} {d : Nat} (hd : 0 ≤ d) {L hi : Nat} (hh : 125 ≤ hi) {v1 : Int32} {v2 : Int32} {h : Hp} {o : Hp}  (SH : SHP L hi h) (hf : g_X8_holds0_16 v1 v2 h = some o) : Run X d 133 16 [some (.ref 96), some (.int v1), some (.int v2)] [] h (none, o) ∧ SHP L hi o := by
  unfold g_X8_holds0_16 at hf
  refine And.imp_left (rs_aload_n i_X8_holds0_16 rfl) ?_
  refine And.imp_left (rs_iload_n i_X8_holds0_17 rfl) ?_
  refine And.imp_left (rs_iconst i_X8_holds0_18 (v := 1) (by decide)) ?_
  by_cases c1 : v1 ≠ 1
  · replace hf := (if_pos c1).symm.trans hf
    refine And.imp_left (rs_icT i_X8_holds0_19 (ct_ne c1) (tg := 26) (by decide)) ?_
    refine And.imp_left (rs_aload_n i_X8_holds0_26 rfl) ?_
    refine And.imp_left (rs_getI i_X8_holds0_27 (by decide) (by decide) (sO8 SH hh)) ?_
    exact q_X8_holds0_30 hd hh SH hf
  · replace hf := (if_neg c1).symm.trans hf
    refine And.imp_left (rs_icF i_X8_holds0_19 (cf_ne c1)) ?_
    refine And.imp_left (rs_iload_n i_X8_holds0_22 rfl) ?_
    refine And.imp_left (rs_goto i_X8_holds0_23 (tg := 30) (by decide)) ?_
    exact q_X8_holds0_30 hd hh SH hf
noncomputable def g_X8_holds0_13 (v1 : Int32) (v2 : Int32) (s1 : Int32) (h : Hp) : Option Hp :=
  g_X8_holds0_16 v1 v2 (hsi h 96 2 s1)
set_option maxRecDepth 100000 in
set_option maxHeartbeats 4000000 in
theorem q_X8_holds0_13 {X : Nat → Int32} {d : Nat} (hd : 0 ≤ d) {L hi : Nat} (hh : 125 ≤ hi) {v1 : Int32} {v2 : Int32} {s1 : Int32} {h : Hp} {o : Hp}  (SH : SHP L hi h) (hf : g_X8_holds0_13 v1 v2 s1 h = some o) : Run X d 133 13 [some (.ref 96), some (.int v1), some (.int v2)] [.int s1, .ref 96] h (none, o) ∧ SHP L hi o := by
  unfold g_X8_holds0_13 at hf
  refine And.imp_left (rs_putI i_X8_holds0_13 (by decide) (sO8 SH hh)) ?_
  have SH := shi SH 96 2 s1
  exact q_X8_holds0_16 hd hh SH hf
noncomputable def g_X8_holds0_0 (v1 : Int32) (v2 : Int32) (h : Hp) : Option Hp :=
  if v1 ≠ 0 then
    g_X8_holds0_13 v1 v2 (gI h 96 2) h
  else
    g_X8_holds0_13 v1 v2 v2 h
set_option maxRecDepth 100000 in
set_option maxHeartbeats 4000000 in
theorem q_X8_holds0_0 {X : Nat → Int32} {d : Nat} (hd : 0 ≤ d) {L hi : Nat} (hh : 125 ≤ hi) {v1 : Int32} {v2 : Int32} {h : Hp} {o : Hp}  (SH : SHP L hi h) (hf : g_X8_holds0_0 v1 v2 h = some o) : Run X d 133 0 [some (.ref 96), some (.int v1), some (.int v2)] [] h (none, o) ∧ SHP L hi o := by
  unfold g_X8_holds0_0 at hf
  refine And.imp_left (rs_aload_n i_X8_holds0_0 rfl) ?_
  refine And.imp_left (rs_iload_n i_X8_holds0_1 rfl) ?_
  by_cases c1 : v1 ≠ 0
  · replace hf := (if_pos c1).symm.trans hf
    refine And.imp_left (rs_ifT i_X8_holds0_2 (ct_ne c1) (tg := 9) (by decide)) ?_
    refine And.imp_left (rs_aload_n i_X8_holds0_9 rfl) ?_
    refine And.imp_left (rs_getI i_X8_holds0_10 (by decide) (by decide) (sO8 SH hh)) ?_
    exact q_X8_holds0_13 hd hh SH hf
  · replace hf := (if_neg c1).symm.trans hf
    refine And.imp_left (rs_ifF i_X8_holds0_2 (cf_ne c1)) ?_
    refine And.imp_left (rs_iload_n i_X8_holds0_5 rfl) ?_
    refine And.imp_left (rs_goto i_X8_holds0_6 (tg := 13) (by decide)) ?_
    exact q_X8_holds0_13 hd hh SH hf
noncomputable def g_X8_holds0 (v1 : Int32) (v2 : Int32) (h : Hp) : Option Hp := g_X8_holds0_0 v1 v2 h
theorem k_X8_holds0 {X : Nat → Int32} {d : Nat} (hd : 0 ≤ d) {L hi : Nat} (hh : 125 ≤ hi) {v1 : Int32} {v2 : Int32} {h : Hp} {o : Hp}  (SH : SHP L hi h) (hf : g_X8_holds0 v1 v2 h = some o) : Calls X d 133 [.ref 96, .int v1, .int v2] h (none, o) ∧ SHP L hi o := by
  obtain ⟨r, S2⟩ := q_X8_holds0_0 hd hh SH hf
  exact ⟨⟨_, rfl, r⟩, S2⟩
noncomputable def g_X8_set_0 (v1 : Int32) (v2 : Int32) (h : Hp) : Option (Int32 × Hp) :=
  (g_X8_in v1 0 2 h).bind fun o1 =>
  if o1.1 ≠ 0 then
    (g_X8_in v2 0 9 o1.2).bind fun o3 =>
    if o3.1 ≠ 0 then
      (g_X8_count v1 o3.2).bind fun o5 =>
      (g_X8_holds0 v1 v2 o5.2).bind fun o6 =>
      some (o5.1, o6)
    else
      some ((-2), o3.2)
  else
    some ((-1), o1.2)
set_option maxRecDepth 100000 in
set_option maxHeartbeats 4000000 in
theorem q_X8_set_0 {X : Nat → Int32} {d : Nat} (hd : 1 ≤ (d + 1)) {L hi : Nat} (hh : 125 ≤ hi) {v1 : Int32} {v2 : Int32} {h : Hp} {o : (Int32 × Hp)}  (SH : SHP L hi h) (hf : g_X8_set_0 v1 v2 h = some o) : Run X (d + 1) 132 0 [some (.ref 96), some (.int v1), some (.int v2), none] [] h (some (.int o.1), o.2) ∧ SHP L hi o.2 := by
  unfold g_X8_set_0 at hf
  refine And.imp_left (rs_iload_n i_X8_set_0 rfl) ?_
  refine And.imp_left (rs_iconst i_X8_set_1 (v := 0) (by decide)) ?_
  refine And.imp_left (rs_iconst i_X8_set_2 (v := 2) (by decide)) ?_
  obtain ⟨o1, e1, hf⟩ := bind_some hf
  obtain ⟨u1, SH2⟩ := k_X8_in (X := X) (d := d) (by omega) (by omega) SH e1
  refine And.imp_left (rs_inS i_X8_set_3 (by decide) m_X8_in rfl (As := [.int v1, .int 0, .int 2]) (rest := []) rfl rfl (Nat.le_of_ble_eq_true rfl) u1 (st' := [.int o1.1]) rfl) ?_
  clear SH; have SH := SH2; clear SH2
  by_cases c2 : o1.1 ≠ 0
  · replace hf := (if_pos c2).symm.trans hf
    refine And.imp_left (rs_ifT i_X8_set_6 (ct_ne c2) (tg := 11) (by decide)) ?_
    refine And.imp_left (rs_iload_n i_X8_set_11 rfl) ?_
    refine And.imp_left (rs_iconst i_X8_set_12 (v := 0) (by decide)) ?_
    refine And.imp_left (rs_bipush i_X8_set_13 (v := 9) (by decide)) ?_
    obtain ⟨o3, e3, hf⟩ := bind_some hf
    obtain ⟨u3, SH2⟩ := k_X8_in (X := X) (d := d) (by omega) (by omega) SH e3
    refine And.imp_left (rs_inS i_X8_set_15 (by decide) m_X8_in rfl (As := [.int v2, .int 0, .int 9]) (rest := []) rfl rfl (Nat.le_of_ble_eq_true rfl) u3 (st' := [.int o3.1]) rfl) ?_
    clear SH; have SH := SH2; clear SH2
    by_cases c4 : o3.1 ≠ 0
    · replace hf := (if_pos c4).symm.trans hf
      refine And.imp_left (rs_ifT i_X8_set_18 (ct_ne c4) (tg := 24) (by decide)) ?_
      refine And.imp_left (rs_aload_n i_X8_set_24 rfl) ?_
      refine And.imp_left (rs_iload_n i_X8_set_25 rfl) ?_
      obtain ⟨o5, e5, hf⟩ := bind_some hf
      obtain ⟨u5, SH2⟩ := k_X8_count (X := X) (d := d) (by omega) (by omega) SH e5
      refine And.imp_left (rs_inV i_X8_set_26 m_X8_count rfl (As := [.int v1]) (rest := []) rfl rfl (Nat.le_of_ble_eq_true rfl) (sO8 SH hh) u5 (st' := [.int o5.1]) rfl) ?_
      clear SH; have SH := SH2; clear SH2
      refine And.imp_left (rs_istore_n i_X8_set_29 (Nat.le_of_ble_eq_true rfl) (lv' := [some (.ref 96), some (.int v1), some (.int v2), some (.int o5.1)]) rfl) ?_
      refine And.imp_left (rs_aload_n i_X8_set_30 rfl) ?_
      refine And.imp_left (rs_iload_n i_X8_set_31 rfl) ?_
      refine And.imp_left (rs_iload_n i_X8_set_32 rfl) ?_
      obtain ⟨o6, e6, hf⟩ := bind_some hf
      obtain ⟨u6, SH2⟩ := k_X8_holds0 (X := X) (d := d) (by omega) (by omega) SH e6
      refine And.imp_left (rs_inV i_X8_set_33 m_X8_holds0 rfl (As := [.int v1, .int v2]) (rest := []) rfl rfl (Nat.le_of_ble_eq_true rfl) (sO8 SH hh) u6 (st' := []) rfl) ?_
      clear SH; have SH := SH2; clear SH2
      refine And.imp_left (rs_iload_n i_X8_set_36 rfl) ?_
      have hf := Option.some.inj hf
      subst hf
      exact ⟨rs_iret i_X8_set_37 m_X8_set rfl, SH⟩
    · replace hf := (if_neg c4).symm.trans hf
      refine And.imp_left (rs_ifF i_X8_set_18 (cf_ne c4)) ?_
      refine And.imp_left (rs_bipush i_X8_set_21 (v := (-2)) (by decide)) ?_
      have hf := Option.some.inj hf
      subst hf
      exact ⟨rs_iret i_X8_set_23 m_X8_set rfl, SH⟩
  · replace hf := (if_neg c2).symm.trans hf
    refine And.imp_left (rs_ifF i_X8_set_6 (cf_ne c2)) ?_
    refine And.imp_left (rs_iconst i_X8_set_9 (v := (-1)) (by decide)) ?_
    have hf := Option.some.inj hf
    subst hf
    exact ⟨rs_iret i_X8_set_10 m_X8_set rfl, SH⟩
noncomputable def g_X8_set (v1 : Int32) (v2 : Int32) (h : Hp) : Option (Int32 × Hp) := g_X8_set_0 v1 v2 h
theorem k_X8_set {X : Nat → Int32} {d : Nat} (hd : 1 ≤ d) {L hi : Nat} (hh : 125 ≤ hi) {v1 : Int32} {v2 : Int32} {h : Hp} {o : (Int32 × Hp)}  (SH : SHP L hi h) (hf : g_X8_set v1 v2 h = some o) : Calls X d 132 [.ref 96, .int v1, .int v2] h (some (.int o.1), o.2) ∧ SHP L hi o.2 := by
  obtain ⟨d, rfl⟩ : ∃ z, d = z + 1 := ⟨d - 1, by omega⟩
  obtain ⟨r, S2⟩ := q_X8_set_0 hd hh SH hf
  exact ⟨⟨_, rfl, r⟩, S2⟩
noncomputable def g_X8_feed_59 (n : Nat) (K33 : Int64 → Int32 → Hp → Option (Int32 × Hp)) (v1 : Int64) (v4 : Int32) (h : Hp) : Option (Int32 × Hp) :=
  K33 v1 (v4 + (-1)) (hsi h 96 10 ((gI h 96 10) + 1))
set_option maxRecDepth 100000 in
set_option maxHeartbeats 4000000 in
theorem q_X8_feed_59 {X : Nat → Int32} {d : Nat} (hd : 1 ≤ (d + 1)) {L hi : Nat} (hh : 125 ≤ hi) {n : Nat} {K33 : Int64 → Int32 → Hp → Option (Int32 × Hp)} (HK33 : ∀ (v1 : Int64) (v4 : Int32) (d3 : Int32) (h : Hp) (o : (Int32 × Hp)), SHP L hi h → K33 v1 v4 h = some o → Run X (d + 1) 135 33 [some (.ref 96), some (.long v1), none, some (.int d3), some (.int v4)] [] h (some (.int o.1), o.2) ∧ SHP L hi o.2) {v1 : Int64} {v4 : Int32} {d3 : Int32} {h : Hp} {o : (Int32 × Hp)}  (SH : SHP L hi h) (hf : g_X8_feed_59 n K33 v1 v4 h = some o) : Run X (d + 1) 135 59 [some (.ref 96), some (.long v1), none, some (.int d3), some (.int v4)] [] h (some (.int o.1), o.2) ∧ SHP L hi o.2 := by
  unfold g_X8_feed_59 at hf
  refine And.imp_left (rs_aload_n i_X8_feed_59 rfl) ?_
  refine And.imp_left (rs_dup i_X8_feed_60 rfl) ?_
  refine And.imp_left (rs_getI i_X8_feed_61 (by decide) (by decide) (sO8 SH hh)) ?_
  refine And.imp_left (rs_iconst i_X8_feed_64 (v := 1) (by decide)) ?_
  refine And.imp_left (rs_iadd i_X8_feed_65) ?_
  refine And.imp_left (rs_putI i_X8_feed_66 (by decide) (sO8 SH hh)) ?_
  have SH := shi SH 96 10 ((gI h 96 10) + 1)
  refine And.imp_left (rs_iinc i_X8_feed_69 rfl (v := v4 + (-1)) rfl (Nat.le_of_ble_eq_true rfl) (lv' := [some (.ref 96), some (.long v1), none, some (.int d3), some (.int (v4 + (-1)))]) rfl) ?_
  refine And.imp_left (rs_goto i_X8_feed_72 (tg := 33) (by decide)) ?_
  exact HK33 _ _ _ _ _ SH hf
noncomputable def g_X8_feed_33 (n : Nat) : Nat → Int64 → Int32 → Hp → Option (Int32 × Hp)
  | 0, _, _, _ => none
  | m + 1, v1, v4, h =>
    if v4 < 0 then
      some ((gI h 96 10), h)
    else
      if inb (gI h 96 10) 160 = true then
      g_X8_feed_59 n (g_X8_feed_33 n m) v1 v4 (hsi h 102 (ix (gI h 96 10)) (Int64.toInt32 ((v1 >>> (Int32.toInt64 (8 * v4) &&& 63)) &&& 255)))
      else none
set_option maxRecDepth 100000 in
set_option maxHeartbeats 4000000 in
theorem q_X8_feed_33 {X : Nat → Int32} {d : Nat} (hd : 1 ≤ (d + 1)) {L hi : Nat} (hh : 125 ≤ hi) {n : Nat} : ∀ (m : Nat) (v1 : Int64) (v4 : Int32) (d3 : Int32) (h : Hp) (o : (Int32 × Hp)), SHP L hi h → g_X8_feed_33 n m v1 v4 h = some o → Run X (d + 1) 135 33 [some (.ref 96), some (.long v1), none, some (.int d3), some (.int v4)] [] h (some (.int o.1), o.2) ∧ SHP L hi o.2 := by
  intro m
  induction m with
  | zero => intro v1 v4 d3 h o SH hf; cases hf
  | succ m ih =>
    intro v1 v4 d3 h o SH hf
    rw [g_X8_feed_33] at hf
    refine And.imp_left (rs_iload i_X8_feed_33 rfl) ?_
    by_cases c1 : v4 < 0
    · replace hf := (if_pos c1).symm.trans hf
      refine And.imp_left (rs_ifT i_X8_feed_35 (ct_lt c1) (tg := 75) (by decide)) ?_
      refine And.imp_left (rs_aload_n i_X8_feed_75 rfl) ?_
      refine And.imp_left (rs_getI i_X8_feed_76 (by decide) (by decide) (sO8 SH hh)) ?_
      have hf := Option.some.inj hf
      subst hf
      exact ⟨rs_iret i_X8_feed_79 m_X8_feed rfl, SH⟩
    · replace hf := (if_neg c1).symm.trans hf
      refine And.imp_left (rs_ifF i_X8_feed_35 (cf_lt c1)) ?_
      refine And.imp_left (rs_aload_n i_X8_feed_38 rfl) ?_
      refine And.imp_left (rs_getR i_X8_feed_39 (by decide) (by decide) (sO8 SH hh) (sR8_9 SH hh)) ?_
      refine And.imp_left (rs_aload_n i_X8_feed_42 rfl) ?_
      refine And.imp_left (rs_getI i_X8_feed_43 (by decide) (by decide) (sO8 SH hh)) ?_
      refine And.imp_left (rs_lload_n i_X8_feed_46 rfl) ?_
      refine And.imp_left (rs_bipush i_X8_feed_47 (v := 8) (by decide)) ?_
      refine And.imp_left (rs_iload i_X8_feed_49 rfl) ?_
      refine And.imp_left (rs_imul i_X8_feed_51) ?_
      refine And.imp_left (rs_lshr i_X8_feed_52) ?_
      refine And.imp_left (rs_ldc2 i_X8_feed_53 (v := 255) (by decide)) ?_
      refine And.imp_left (rs_land i_X8_feed_56) ?_
      refine And.imp_left (rs_l2i i_X8_feed_57) ?_
      obtain ⟨c2, hf⟩ := ite_some hf
      refine And.imp_left (rs_iast i_X8_feed_58 (mkI (sA SH hh (k := 9) (n := 160) (by decide)) c2)) ?_
      have SH := shi SH 102 (ix (gI h 96 10)) (Int64.toInt32 ((v1 >>> (Int32.toInt64 (8 * v4) &&& 63)) &&& 255))
      exact q_X8_feed_59 hd hh ih SH hf
noncomputable def g_X8_feed_0 (n : Nat) (v1 : Int64) (v3 : Int32) (h : Hp) : Option (Int32 × Hp) :=
  (g_X8_in v3 1 8 h).bind fun o1 =>
  if o1.1 ≠ 0 then
    if ((gI o1.2 96 10) + v3) ≤ 160 then
      g_X8_feed_33 n n v1 (v3 - 1) o1.2
    else
      some ((-4), o1.2)
  else
    some ((-2), o1.2)
set_option maxRecDepth 100000 in
set_option maxHeartbeats 4000000 in
theorem q_X8_feed_0 {X : Nat → Int32} {d : Nat} (hd : 1 ≤ (d + 1)) {L hi : Nat} (hh : 125 ≤ hi) {n : Nat} {v1 : Int64} {v3 : Int32} {h : Hp} {o : (Int32 × Hp)}  (SH : SHP L hi h) (hf : g_X8_feed_0 n v1 v3 h = some o) : Run X (d + 1) 135 0 [some (.ref 96), some (.long v1), none, some (.int v3), none] [] h (some (.int o.1), o.2) ∧ SHP L hi o.2 := by
  unfold g_X8_feed_0 at hf
  refine And.imp_left (rs_iload_n i_X8_feed_0 rfl) ?_
  refine And.imp_left (rs_iconst i_X8_feed_1 (v := 1) (by decide)) ?_
  refine And.imp_left (rs_bipush i_X8_feed_2 (v := 8) (by decide)) ?_
  obtain ⟨o1, e1, hf⟩ := bind_some hf
  obtain ⟨u1, SH2⟩ := k_X8_in (X := X) (d := d) (by omega) (by omega) SH e1
  refine And.imp_left (rs_inS i_X8_feed_4 (by decide) m_X8_in rfl (As := [.int v3, .int 1, .int 8]) (rest := []) rfl rfl (Nat.le_of_ble_eq_true rfl) u1 (st' := [.int o1.1]) rfl) ?_
  clear SH; have SH := SH2; clear SH2
  by_cases c2 : o1.1 ≠ 0
  · replace hf := (if_pos c2).symm.trans hf
    refine And.imp_left (rs_ifT i_X8_feed_7 (ct_ne c2) (tg := 13) (by decide)) ?_
    refine And.imp_left (rs_aload_n i_X8_feed_13 rfl) ?_
    refine And.imp_left (rs_getI i_X8_feed_14 (by decide) (by decide) (sO8 SH hh)) ?_
    refine And.imp_left (rs_iload_n i_X8_feed_17 rfl) ?_
    refine And.imp_left (rs_iadd i_X8_feed_18) ?_
    refine And.imp_left (rs_sipush i_X8_feed_19 (v := 160) (by decide)) ?_
    by_cases c3 : ((gI o1.2 96 10) + v3) ≤ 160
    · replace hf := (if_pos c3).symm.trans hf
      refine And.imp_left (rs_icT i_X8_feed_22 (ct_le c3) (tg := 28) (by decide)) ?_
      refine And.imp_left (rs_iload_n i_X8_feed_28 rfl) ?_
      refine And.imp_left (rs_iconst i_X8_feed_29 (v := 1) (by decide)) ?_
      refine And.imp_left (rs_isub i_X8_feed_30) ?_
      refine And.imp_left (rs_istore i_X8_feed_31 (Nat.le_of_ble_eq_true rfl) (lv' := [some (.ref 96), some (.long v1), none, some (.int v3), some (.int (v3 - 1))]) rfl) ?_
      exact q_X8_feed_33 hd hh _ _ _ _ _ _ SH hf
    · replace hf := (if_neg c3).symm.trans hf
      refine And.imp_left (rs_icF i_X8_feed_22 (cf_le c3)) ?_
      refine And.imp_left (rs_bipush i_X8_feed_25 (v := (-4)) (by decide)) ?_
      have hf := Option.some.inj hf
      subst hf
      exact ⟨rs_iret i_X8_feed_27 m_X8_feed rfl, SH⟩
  · replace hf := (if_neg c2).symm.trans hf
    refine And.imp_left (rs_ifF i_X8_feed_7 (cf_ne c2)) ?_
    refine And.imp_left (rs_bipush i_X8_feed_10 (v := (-2)) (by decide)) ?_
    have hf := Option.some.inj hf
    subst hf
    exact ⟨rs_iret i_X8_feed_12 m_X8_feed rfl, SH⟩
noncomputable def g_X8_feed (n : Nat) (v1 : Int64) (v3 : Int32) (h : Hp) : Option (Int32 × Hp) := g_X8_feed_0 n v1 v3 h
theorem k_X8_feed {X : Nat → Int32} {d : Nat} (hd : 1 ≤ d) {L hi : Nat} (hh : 125 ≤ hi) {n : Nat} {v1 : Int64} {v3 : Int32} {h : Hp} {o : (Int32 × Hp)}  (SH : SHP L hi h) (hf : g_X8_feed n v1 v3 h = some o) : Calls X d 135 [.ref 96, .long v1, .int v3] h (some (.int o.1), o.2) ∧ SHP L hi o.2 := by
  obtain ⟨d, rfl⟩ : ∃ z, d = z + 1 := ⟨d - 1, by omega⟩
  obtain ⟨r, S2⟩ := q_X8_feed_0 hd hh SH hf
  exact ⟨⟨_, rfl, r⟩, S2⟩
noncomputable def g_X8_two_52  (h : Hp) : Option (Int32 × Hp) :=
  some (1, h)
set_option maxRecDepth 100000 in
set_option maxHeartbeats 4000000 in
theorem q_X8_two_52 {X : Nat → Int32} {d : Nat} (hd : 0 ≤ d) {L hi : Nat} (hh : 125 ≤ hi) {d0 : Int32} {d1 : Int32} {d2 : Int32} {h : Hp} {o : (Int32 × Hp)}  (SH : SHP L hi h) (hf : g_X8_two_52 h = some o) : Run X d 147 52 [some (.int d0), some (.int d1), some (.int d2)] [] h (some (.int o.1), o.2) ∧ SHP L hi o.2 := by
  unfold g_X8_two_52 at hf
  refine And.imp_left (rs_iconst i_X8_two_52 (v := 1) (by decide)) ?_
  refine And.imp_left (rs_goto i_X8_two_53 (tg := 57) (by decide)) ?_
  have hf := Option.some.inj hf
  subst hf
  exact ⟨rs_iret i_X8_two_57 m_X8_two rfl, SH⟩
noncomputable def g_X8_two_0 (v0 : Int32) (v1 : Int32) (v2 : Int32) (h : Hp) : Option (Int32 × Hp) :=
  if v0 = 11 then
    if v1 ≠ 0 then
      g_X8_two_52 h
    else
      if v2 = 0 then
        some (0, h)
      else
        g_X8_two_52 h
  else
    if v0 = 12 then
      if v1 = 0 then
        some (0, h)
      else
        if v2 = 0 then
          some (0, h)
        else
          some (1, h)
    else
      if v0 = 13 then
        some ((v1 * v2), h)
      else
        if v0 = 14 then
          if v2 ≤ v1 then
            some (0, h)
          else
            some (1, h)
        else
          if v0 = 15 then
            if v1 ≠ v2 then
              some (0, h)
            else
              some (1, h)
          else
            if v0 = 16 then
              some ((v1 + v2), h)
            else
              if v0 = 17 then
                some ((v1 - v2), h)
              else
                some ((v1 * v2), h)
set_option maxRecDepth 100000 in
set_option maxHeartbeats 4000000 in
theorem q_X8_two_0 {X : Nat → Int32} {d : Nat} (hd : 0 ≤ d) {L hi : Nat} (hh : 125 ≤ hi) {v0 : Int32} {v1 : Int32} {v2 : Int32} {h : Hp} {o : (Int32 × Hp)}  (SH : SHP L hi h) (hf : g_X8_two_0 v0 v1 v2 h = some o) : Run X d 147 0 [some (.int v0), some (.int v1), some (.int v2)] [] h (some (.int o.1), o.2) ∧ SHP L hi o.2 := by
  unfold g_X8_two_0 at hf
  refine And.imp_left (rs_iload_n i_X8_two_0 rfl) ?_
  by_cases c1 : v0 = 11
  · replace hf := (if_pos c1).symm.trans hf
    refine And.imp_left (rs_tsw i_X8_two_1 (off := 43) (by rw [c1]; decide) (tg := 44) (by decide)) ?_
    refine And.imp_left (rs_iload_n i_X8_two_44 rfl) ?_
    by_cases c12 : v1 ≠ 0
    · replace hf := (if_pos c12).symm.trans hf
      refine And.imp_left (rs_ifT i_X8_two_45 (ct_ne c12) (tg := 52) (by decide)) ?_
      exact q_X8_two_52 hd hh SH hf
    · replace hf := (if_neg c12).symm.trans hf
      refine And.imp_left (rs_ifF i_X8_two_45 (cf_ne c12)) ?_
      refine And.imp_left (rs_iload_n i_X8_two_48 rfl) ?_
      by_cases c13 : v2 = 0
      · replace hf := (if_pos c13).symm.trans hf
        refine And.imp_left (rs_ifT i_X8_two_49 (ct_eq c13) (tg := 56) (by decide)) ?_
        refine And.imp_left (rs_iconst i_X8_two_56 (v := 0) (by decide)) ?_
        have hf := Option.some.inj hf
        subst hf
        exact ⟨rs_iret i_X8_two_57 m_X8_two rfl, SH⟩
      · replace hf := (if_neg c13).symm.trans hf
        refine And.imp_left (rs_ifF i_X8_two_49 (cf_eq c13)) ?_
        exact q_X8_two_52 hd hh SH hf
  · replace hf := (if_neg c1).symm.trans hf
    by_cases c2 : v0 = 12
    · replace hf := (if_pos c2).symm.trans hf
      refine And.imp_left (rs_tsw i_X8_two_1 (off := 57) (by rw [c2]; decide) (tg := 58) (by decide)) ?_
      refine And.imp_left (rs_iload_n i_X8_two_58 rfl) ?_
      by_cases c10 : v1 = 0
      · replace hf := (if_pos c10).symm.trans hf
        refine And.imp_left (rs_ifT i_X8_two_59 (ct_eq c10) (tg := 70) (by decide)) ?_
        refine And.imp_left (rs_iconst i_X8_two_70 (v := 0) (by decide)) ?_
        have hf := Option.some.inj hf
        subst hf
        exact ⟨rs_iret i_X8_two_71 m_X8_two rfl, SH⟩
      · replace hf := (if_neg c10).symm.trans hf
        refine And.imp_left (rs_ifF i_X8_two_59 (cf_eq c10)) ?_
        refine And.imp_left (rs_iload_n i_X8_two_62 rfl) ?_
        by_cases c11 : v2 = 0
        · replace hf := (if_pos c11).symm.trans hf
          refine And.imp_left (rs_ifT i_X8_two_63 (ct_eq c11) (tg := 70) (by decide)) ?_
          refine And.imp_left (rs_iconst i_X8_two_70 (v := 0) (by decide)) ?_
          have hf := Option.some.inj hf
          subst hf
          exact ⟨rs_iret i_X8_two_71 m_X8_two rfl, SH⟩
        · replace hf := (if_neg c11).symm.trans hf
          refine And.imp_left (rs_ifF i_X8_two_63 (cf_eq c11)) ?_
          refine And.imp_left (rs_iconst i_X8_two_66 (v := 1) (by decide)) ?_
          refine And.imp_left (rs_goto i_X8_two_67 (tg := 71) (by decide)) ?_
          have hf := Option.some.inj hf
          subst hf
          exact ⟨rs_iret i_X8_two_71 m_X8_two rfl, SH⟩
    · replace hf := (if_neg c2).symm.trans hf
      by_cases c3 : v0 = 13
      · replace hf := (if_pos c3).symm.trans hf
        refine And.imp_left (rs_tsw i_X8_two_1 (off := 101) (by rw [c3]; decide) (tg := 102) (by decide)) ?_
        refine And.imp_left (rs_iload_n i_X8_two_102 rfl) ?_
        refine And.imp_left (rs_iload_n i_X8_two_103 rfl) ?_
        refine And.imp_left (rs_imul i_X8_two_104) ?_
        have hf := Option.some.inj hf
        subst hf
        exact ⟨rs_iret i_X8_two_105 m_X8_two rfl, SH⟩
      · replace hf := (if_neg c3).symm.trans hf
        by_cases c4 : v0 = 14
        · replace hf := (if_pos c4).symm.trans hf
          refine And.imp_left (rs_tsw i_X8_two_1 (off := 71) (by rw [c4]; decide) (tg := 72) (by decide)) ?_
          refine And.imp_left (rs_iload_n i_X8_two_72 rfl) ?_
          refine And.imp_left (rs_iload_n i_X8_two_73 rfl) ?_
          by_cases c9 : v2 ≤ v1
          · replace hf := (if_pos c9).symm.trans hf
            refine And.imp_left (rs_icT i_X8_two_74 (ct_ge c9) (tg := 81) (by decide)) ?_
            refine And.imp_left (rs_iconst i_X8_two_81 (v := 0) (by decide)) ?_
            have hf := Option.some.inj hf
            subst hf
            exact ⟨rs_iret i_X8_two_82 m_X8_two rfl, SH⟩
          · replace hf := (if_neg c9).symm.trans hf
            refine And.imp_left (rs_icF i_X8_two_74 (cf_ge c9)) ?_
            refine And.imp_left (rs_iconst i_X8_two_77 (v := 1) (by decide)) ?_
            refine And.imp_left (rs_goto i_X8_two_78 (tg := 82) (by decide)) ?_
            have hf := Option.some.inj hf
            subst hf
            exact ⟨rs_iret i_X8_two_82 m_X8_two rfl, SH⟩
        · replace hf := (if_neg c4).symm.trans hf
          by_cases c5 : v0 = 15
          · replace hf := (if_pos c5).symm.trans hf
            refine And.imp_left (rs_tsw i_X8_two_1 (off := 82) (by rw [c5]; decide) (tg := 83) (by decide)) ?_
            refine And.imp_left (rs_iload_n i_X8_two_83 rfl) ?_
            refine And.imp_left (rs_iload_n i_X8_two_84 rfl) ?_
            by_cases c8 : v1 ≠ v2
            · replace hf := (if_pos c8).symm.trans hf
              refine And.imp_left (rs_icT i_X8_two_85 (ct_ne c8) (tg := 92) (by decide)) ?_
              refine And.imp_left (rs_iconst i_X8_two_92 (v := 0) (by decide)) ?_
              have hf := Option.some.inj hf
              subst hf
              exact ⟨rs_iret i_X8_two_93 m_X8_two rfl, SH⟩
            · replace hf := (if_neg c8).symm.trans hf
              refine And.imp_left (rs_icF i_X8_two_85 (cf_ne c8)) ?_
              refine And.imp_left (rs_iconst i_X8_two_88 (v := 1) (by decide)) ?_
              refine And.imp_left (rs_goto i_X8_two_89 (tg := 93) (by decide)) ?_
              have hf := Option.some.inj hf
              subst hf
              exact ⟨rs_iret i_X8_two_93 m_X8_two rfl, SH⟩
          · replace hf := (if_neg c5).symm.trans hf
            by_cases c6 : v0 = 16
            · replace hf := (if_pos c6).symm.trans hf
              refine And.imp_left (rs_tsw i_X8_two_1 (off := 93) (by rw [c6]; decide) (tg := 94) (by decide)) ?_
              refine And.imp_left (rs_iload_n i_X8_two_94 rfl) ?_
              refine And.imp_left (rs_iload_n i_X8_two_95 rfl) ?_
              refine And.imp_left (rs_iadd i_X8_two_96) ?_
              have hf := Option.some.inj hf
              subst hf
              exact ⟨rs_iret i_X8_two_97 m_X8_two rfl, SH⟩
            · replace hf := (if_neg c6).symm.trans hf
              by_cases c7 : v0 = 17
              · replace hf := (if_pos c7).symm.trans hf
                refine And.imp_left (rs_tsw i_X8_two_1 (off := 97) (by rw [c7]; decide) (tg := 98) (by decide)) ?_
                refine And.imp_left (rs_iload_n i_X8_two_98 rfl) ?_
                refine And.imp_left (rs_iload_n i_X8_two_99 rfl) ?_
                refine And.imp_left (rs_isub i_X8_two_100) ?_
                have hf := Option.some.inj hf
                subst hf
                exact ⟨rs_iret i_X8_two_101 m_X8_two rfl, SH⟩
              · replace hf := (if_neg c7).symm.trans hf
                refine And.imp_left (rs_tsw i_X8_two_1 (off := 101) (swt_df (by have z0 := ne_ti c1; rw [show (11 : Int32).toInt = 11 from by decide] at z0; have z1 := ne_ti c2; rw [show (12 : Int32).toInt = 12 from by decide] at z1; have z2 := ne_ti c3; rw [show (13 : Int32).toInt = 13 from by decide] at z2; have z3 := ne_ti c4; rw [show (14 : Int32).toInt = 14 from by decide] at z3; have z4 := ne_ti c5; rw [show (15 : Int32).toInt = 15 from by decide] at z4; have z5 := ne_ti c6; rw [show (16 : Int32).toInt = 16 from by decide] at z5; have z6 := ne_ti c7; rw [show (17 : Int32).toInt = 17 from by decide] at z6; omega)) (tg := 102) (by decide)) ?_
                refine And.imp_left (rs_iload_n i_X8_two_102 rfl) ?_
                refine And.imp_left (rs_iload_n i_X8_two_103 rfl) ?_
                refine And.imp_left (rs_imul i_X8_two_104) ?_
                have hf := Option.some.inj hf
                subst hf
                exact ⟨rs_iret i_X8_two_105 m_X8_two rfl, SH⟩
noncomputable def g_X8_two (v0 : Int32) (v1 : Int32) (v2 : Int32) (h : Hp) : Option (Int32 × Hp) := g_X8_two_0 v0 v1 v2 h
theorem k_X8_two {X : Nat → Int32} {d : Nat} (hd : 0 ≤ d) {L hi : Nat} (hh : 125 ≤ hi) {v0 : Int32} {v1 : Int32} {v2 : Int32} {h : Hp} {o : (Int32 × Hp)}  (SH : SHP L hi h) (hf : g_X8_two v0 v1 v2 h = some o) : Calls X d 147 [.int v0, .int v1, .int v2] h (some (.int o.1), o.2) ∧ SHP L hi o.2 := by
  obtain ⟨r, S2⟩ := q_X8_two_0 hd hh SH hf
  exact ⟨⟨_, rfl, r⟩, S2⟩
noncomputable def g_X8_worth_191 (n : Nat) (K16 : Int32 → Int32 → Int32 → Hp → Option (Int32 × Hp)) (v1 : Int32) (v2 : Int32) (v3 : Int32) (h : Hp) : Option (Int32 × Hp) :=
  K16 v1 v2 (v3 + 1) h
set_option maxRecDepth 100000 in
set_option maxHeartbeats 4000000 in
theorem q_X8_worth_191 {X : Nat → Int32} {d : Nat} (hd : 1 ≤ (d + 1)) {L hi : Nat} (hh : 125 ≤ hi) {n : Nat} {K16 : Int32 → Int32 → Int32 → Hp → Option (Int32 × Hp)} (HK16 : ∀ (v1 : Int32) (v2 : Int32) (v3 : Int32) (w4 : Option Value) (h : Hp) (o : (Int32 × Hp)), SHP L hi h → K16 v1 v2 v3 h = some o → Run X (d + 1) 148 16 [some (.ref 96), some (.int v1), some (.int v2), some (.int v3), w4] [] h (some (.int o.1), o.2) ∧ SHP L hi o.2) {v1 : Int32} {v2 : Int32} {v3 : Int32} {d4 : Int32} {h : Hp} {o : (Int32 × Hp)}  (SH : SHP L hi h) (hf : g_X8_worth_191 n K16 v1 v2 v3 h = some o) : Run X (d + 1) 148 191 [some (.ref 96), some (.int v1), some (.int v2), some (.int v3), some (.int d4)] [] h (some (.int o.1), o.2) ∧ SHP L hi o.2 := by
  unfold g_X8_worth_191 at hf
  refine And.imp_left (rs_iinc i_X8_worth_191 rfl (v := v3 + 1) rfl (Nat.le_of_ble_eq_true rfl) (lv' := [some (.ref 96), some (.int v1), some (.int v2), some (.int (v3 + 1)), some (.int d4)]) rfl) ?_
  refine And.imp_left (rs_goto i_X8_worth_194 (tg := 16) (by decide)) ?_
  exact HK16 _ _ _ _ _ _ SH hf
noncomputable def g_X8_worth_130 (n : Nat) (K16 : Int32 → Int32 → Int32 → Hp → Option (Int32 × Hp)) (v1 : Int32) (v2 : Int32) (v3 : Int32) (s0 : Nat) (s1 : Int32) (s2 : Int32) (h : Hp) : Option (Int32 × Hp) :=
  if inb s1 200 = true then
  g_X8_worth_191 n K16 v1 v2 v3 (hsi h s0 (ix s1) s2)
  else none
set_option maxRecDepth 100000 in
set_option maxHeartbeats 4000000 in
theorem q_X8_worth_130 {X : Nat → Int32} {d : Nat} (hd : 1 ≤ (d + 1)) {L hi : Nat} (hh : 125 ≤ hi) {n : Nat} {K16 : Int32 → Int32 → Int32 → Hp → Option (Int32 × Hp)} (HK16 : ∀ (v1 : Int32) (v2 : Int32) (v3 : Int32) (w4 : Option Value) (h : Hp) (o : (Int32 × Hp)), SHP L hi h → K16 v1 v2 v3 h = some o → Run X (d + 1) 148 16 [some (.ref 96), some (.int v1), some (.int v2), some (.int v3), w4] [] h (some (.int o.1), o.2) ∧ SHP L hi o.2) {v1 : Int32} {v2 : Int32} {v3 : Int32} {s0 : Nat} {s1 : Int32} {s2 : Int32} {d4 : Int32} {h : Hp} {o : (Int32 × Hp)} (hs0 : ARY 125 s0 9 200) (SH : SHP L hi h) (hf : g_X8_worth_130 n K16 v1 v2 v3 s0 s1 s2 h = some o) : Run X (d + 1) 148 130 [some (.ref 96), some (.int v1), some (.int v2), some (.int v3), some (.int d4)] [.int s2, .int s1, .ref s0] h (some (.int o.1), o.2) ∧ SHP L hi o.2 := by
  unfold g_X8_worth_130 at hf
  obtain ⟨c1, hf⟩ := ite_some hf
  refine And.imp_left (rs_iast i_X8_worth_130 (mkI (sA SH hh (k := 9) (n := 200) hs0) c1)) ?_
  have SH := shi SH s0 (ix s1) s2
  refine And.imp_left (rs_goto i_X8_worth_131 (tg := 191) (by decide)) ?_
  exact q_X8_worth_191 hd hh HK16 SH hf
noncomputable def g_X8_worth_93 (n : Nat) (K16 : Int32 → Int32 → Int32 → Hp → Option (Int32 × Hp)) (v1 : Int32) (v2 : Int32) (v3 : Int32) (s0 : Nat) (s1 : Int32) (s2 : Int32) (h : Hp) : Option (Int32 × Hp) :=
  if inb s1 200 = true then
  g_X8_worth_191 n K16 v1 (v2 + 1) v3 (hsi h s0 (ix s1) s2)
  else none
set_option maxRecDepth 100000 in
set_option maxHeartbeats 4000000 in
theorem q_X8_worth_93 {X : Nat → Int32} {d : Nat} (hd : 1 ≤ (d + 1)) {L hi : Nat} (hh : 125 ≤ hi) {n : Nat} {K16 : Int32 → Int32 → Int32 → Hp → Option (Int32 × Hp)} (HK16 : ∀ (v1 : Int32) (v2 : Int32) (v3 : Int32) (w4 : Option Value) (h : Hp) (o : (Int32 × Hp)), SHP L hi h → K16 v1 v2 v3 h = some o → Run X (d + 1) 148 16 [some (.ref 96), some (.int v1), some (.int v2), some (.int v3), w4] [] h (some (.int o.1), o.2) ∧ SHP L hi o.2) {v1 : Int32} {v2 : Int32} {v3 : Int32} {s0 : Nat} {s1 : Int32} {s2 : Int32} {d4 : Int32} {h : Hp} {o : (Int32 × Hp)} (hs0 : ARY 125 s0 9 200) (SH : SHP L hi h) (hf : g_X8_worth_93 n K16 v1 v2 v3 s0 s1 s2 h = some o) : Run X (d + 1) 148 93 [some (.ref 96), some (.int v1), some (.int v2), some (.int v3), some (.int d4)] [.int s2, .int s1, .ref s0] h (some (.int o.1), o.2) ∧ SHP L hi o.2 := by
  unfold g_X8_worth_93 at hf
  obtain ⟨c1, hf⟩ := ite_some hf
  refine And.imp_left (rs_iast i_X8_worth_93 (mkI (sA SH hh (k := 9) (n := 200) hs0) c1)) ?_
  have SH := shi SH s0 (ix s1) s2
  refine And.imp_left (rs_iinc i_X8_worth_94 rfl (v := v2 + 1) rfl (Nat.le_of_ble_eq_true rfl) (lv' := [some (.ref 96), some (.int v1), some (.int (v2 + 1)), some (.int v3), some (.int d4)]) rfl) ?_
  refine And.imp_left (rs_goto i_X8_worth_97 (tg := 191) (by decide)) ?_
  exact q_X8_worth_191 hd hh HK16 SH hf
noncomputable def g_X8_worth_66 (n : Nat) (K16 : Int32 → Int32 → Int32 → Hp → Option (Int32 × Hp)) (v1 : Int32) (v2 : Int32) (v3 : Int32) (v4 : Int32) (h : Hp) : Option (Int32 × Hp) :=
  if 11 ≤ v4 then
    g_X8_worth_93 n K16 v1 v2 v3 113 v2 (v4 - 100000) h
  else
    if inb v4 6 = true then
    g_X8_worth_93 n K16 v1 v2 v3 113 v2 (gI h 114 (ix v4)) h
    else none
set_option maxRecDepth 100000 in
set_option maxHeartbeats 4000000 in
theorem q_X8_worth_66 {X : Nat → Int32} {d : Nat} (hd : 1 ≤ (d + 1)) {L hi : Nat} (hh : 125 ≤ hi) {n : Nat} {K16 : Int32 → Int32 → Int32 → Hp → Option (Int32 × Hp)} (HK16 : ∀ (v1 : Int32) (v2 : Int32) (v3 : Int32) (w4 : Option Value) (h : Hp) (o : (Int32 × Hp)), SHP L hi h → K16 v1 v2 v3 h = some o → Run X (d + 1) 148 16 [some (.ref 96), some (.int v1), some (.int v2), some (.int v3), w4] [] h (some (.int o.1), o.2) ∧ SHP L hi o.2) {v1 : Int32} {v2 : Int32} {v3 : Int32} {v4 : Int32} {h : Hp} {o : (Int32 × Hp)}  (SH : SHP L hi h) (hf : g_X8_worth_66 n K16 v1 v2 v3 v4 h = some o) : Run X (d + 1) 148 66 [some (.ref 96), some (.int v1), some (.int v2), some (.int v3), some (.int v4)] [] h (some (.int o.1), o.2) ∧ SHP L hi o.2 := by
  unfold g_X8_worth_66 at hf
  refine And.imp_left (rs_aload_n i_X8_worth_66 rfl) ?_
  refine And.imp_left (rs_getR i_X8_worth_67 (by decide) (by decide) (sO8 SH hh) (sR8_35 SH hh)) ?_
  refine And.imp_left (rs_iload_n i_X8_worth_70 rfl) ?_
  refine And.imp_left (rs_iload i_X8_worth_71 rfl) ?_
  refine And.imp_left (rs_bipush i_X8_worth_73 (v := 11) (by decide)) ?_
  by_cases c1 : 11 ≤ v4
  · replace hf := (if_pos c1).symm.trans hf
    refine And.imp_left (rs_icT i_X8_worth_75 (ct_ge c1) (tg := 88) (by decide)) ?_
    refine And.imp_left (rs_iload i_X8_worth_88 rfl) ?_
    refine And.imp_left (rs_ldc i_X8_worth_90 (v := 100000) (by decide)) ?_
    refine And.imp_left (rs_isub i_X8_worth_92) ?_
    exact q_X8_worth_93 hd hh HK16 (by decide) SH hf
  · replace hf := (if_neg c1).symm.trans hf
    refine And.imp_left (rs_icF i_X8_worth_75 (cf_ge c1)) ?_
    refine And.imp_left (rs_aload_n i_X8_worth_78 rfl) ?_
    refine And.imp_left (rs_getR i_X8_worth_79 (by decide) (by decide) (sO8 SH hh) (sR8_36 SH hh)) ?_
    refine And.imp_left (rs_iload i_X8_worth_82 rfl) ?_
    obtain ⟨c2, hf⟩ := ite_some hf
    refine And.imp_left (rs_iald i_X8_worth_84 (mkI (sA SH hh (k := 9) (n := 6) (by decide)) c2)) ?_
    refine And.imp_left (rs_goto i_X8_worth_85 (tg := 93) (by decide)) ?_
    exact q_X8_worth_93 hd hh HK16 (by decide) SH hf
noncomputable def g_X8_worth_52 (n : Nat) (K16 : Int32 → Int32 → Int32 → Hp → Option (Int32 × Hp)) (v1 : Int32) (v2 : Int32) (v3 : Int32) (v4 : Int32) (h : Hp) : Option (Int32 × Hp) :=
  if 100000 ≤ v4 then
    g_X8_worth_66 n K16 v1 v2 v3 v4 h
  else
    if 11 ≤ v4 then
      if v4 ≠ 13 then
        if v4 ≠ 19 then
          if inb ((v2 + (-1)) - 1) 200 = true then
          if inb (v2 + (-1)) 200 = true then
          (g_X8_two v4 (gI h 113 (ix ((v2 + (-1)) - 1))) (gI h 113 (ix (v2 + (-1)))) h).bind fun o7 =>
          g_X8_worth_191 n K16 v1 (v2 + (-1)) v3 (hsi o7.2 113 (ix ((v2 + (-1)) - 1)) o7.1)
          else none
          else none
        else
          if inb (v2 - 1) 200 = true then
          g_X8_worth_191 n K16 v1 v2 v3 (hsi h 113 (ix (v2 - 1)) (-(gI h 113 (ix (v2 - 1)))))
          else none
      else
        if inb (v2 - 1) 200 = true then
        if (gI h 113 (ix (v2 - 1))) ≠ 0 then
          g_X8_worth_130 n K16 v1 v2 v3 113 (v2 - 1) 0 h
        else
          g_X8_worth_130 n K16 v1 v2 v3 113 (v2 - 1) 1 h
        else none
    else
      g_X8_worth_66 n K16 v1 v2 v3 v4 h
set_option maxRecDepth 100000 in
set_option maxHeartbeats 4000000 in
theorem q_X8_worth_52 {X : Nat → Int32} {d : Nat} (hd : 1 ≤ (d + 1)) {L hi : Nat} (hh : 125 ≤ hi) {n : Nat} {K16 : Int32 → Int32 → Int32 → Hp → Option (Int32 × Hp)} (HK16 : ∀ (v1 : Int32) (v2 : Int32) (v3 : Int32) (w4 : Option Value) (h : Hp) (o : (Int32 × Hp)), SHP L hi h → K16 v1 v2 v3 h = some o → Run X (d + 1) 148 16 [some (.ref 96), some (.int v1), some (.int v2), some (.int v3), w4] [] h (some (.int o.1), o.2) ∧ SHP L hi o.2) {v1 : Int32} {v2 : Int32} {v3 : Int32} {v4 : Int32} {h : Hp} {o : (Int32 × Hp)}  (SH : SHP L hi h) (hf : g_X8_worth_52 n K16 v1 v2 v3 v4 h = some o) : Run X (d + 1) 148 52 [some (.ref 96), some (.int v1), some (.int v2), some (.int v3), some (.int v4)] [] h (some (.int o.1), o.2) ∧ SHP L hi o.2 := by
  unfold g_X8_worth_52 at hf
  refine And.imp_left (rs_iload i_X8_worth_52 rfl) ?_
  refine And.imp_left (rs_ldc i_X8_worth_54 (v := 100000) (by decide)) ?_
  by_cases c1 : 100000 ≤ v4
  · replace hf := (if_pos c1).symm.trans hf
    refine And.imp_left (rs_icT i_X8_worth_56 (ct_ge c1) (tg := 66) (by decide)) ?_
    exact q_X8_worth_66 hd hh HK16 SH hf
  · replace hf := (if_neg c1).symm.trans hf
    refine And.imp_left (rs_icF i_X8_worth_56 (cf_ge c1)) ?_
    refine And.imp_left (rs_iload i_X8_worth_59 rfl) ?_
    refine And.imp_left (rs_bipush i_X8_worth_61 (v := 11) (by decide)) ?_
    by_cases c2 : 11 ≤ v4
    · replace hf := (if_pos c2).symm.trans hf
      refine And.imp_left (rs_icT i_X8_worth_63 (ct_ge c2) (tg := 100) (by decide)) ?_
      refine And.imp_left (rs_iload i_X8_worth_100 rfl) ?_
      refine And.imp_left (rs_bipush i_X8_worth_102 (v := 13) (by decide)) ?_
      by_cases c3 : v4 ≠ 13
      · replace hf := (if_pos c3).symm.trans hf
        refine And.imp_left (rs_icT i_X8_worth_104 (ct_ne c3) (tg := 134) (by decide)) ?_
        refine And.imp_left (rs_iload i_X8_worth_134 rfl) ?_
        refine And.imp_left (rs_bipush i_X8_worth_136 (v := 19) (by decide)) ?_
        by_cases c4 : v4 ≠ 19
        · replace hf := (if_pos c4).symm.trans hf
          refine And.imp_left (rs_icT i_X8_worth_138 (ct_ne c4) (tg := 161) (by decide)) ?_
          refine And.imp_left (rs_iinc i_X8_worth_161 rfl (v := v2 + (-1)) rfl (Nat.le_of_ble_eq_true rfl) (lv' := [some (.ref 96), some (.int v1), some (.int (v2 + (-1))), some (.int v3), some (.int v4)]) rfl) ?_
          refine And.imp_left (rs_aload_n i_X8_worth_164 rfl) ?_
          refine And.imp_left (rs_getR i_X8_worth_165 (by decide) (by decide) (sO8 SH hh) (sR8_35 SH hh)) ?_
          refine And.imp_left (rs_iload_n i_X8_worth_168 rfl) ?_
          refine And.imp_left (rs_iconst i_X8_worth_169 (v := 1) (by decide)) ?_
          refine And.imp_left (rs_isub i_X8_worth_170) ?_
          refine And.imp_left (rs_iload i_X8_worth_171 rfl) ?_
          refine And.imp_left (rs_aload_n i_X8_worth_173 rfl) ?_
          refine And.imp_left (rs_getR i_X8_worth_174 (by decide) (by decide) (sO8 SH hh) (sR8_35 SH hh)) ?_
          refine And.imp_left (rs_iload_n i_X8_worth_177 rfl) ?_
          refine And.imp_left (rs_iconst i_X8_worth_178 (v := 1) (by decide)) ?_
          refine And.imp_left (rs_isub i_X8_worth_179) ?_
          obtain ⟨c5, hf⟩ := ite_some hf
          refine And.imp_left (rs_iald i_X8_worth_180 (mkI (sA SH hh (k := 9) (n := 200) (by decide)) c5)) ?_
          refine And.imp_left (rs_aload_n i_X8_worth_181 rfl) ?_
          refine And.imp_left (rs_getR i_X8_worth_182 (by decide) (by decide) (sO8 SH hh) (sR8_35 SH hh)) ?_
          refine And.imp_left (rs_iload_n i_X8_worth_185 rfl) ?_
          obtain ⟨c6, hf⟩ := ite_some hf
          refine And.imp_left (rs_iald i_X8_worth_186 (mkI (sA SH hh (k := 9) (n := 200) (by decide)) c6)) ?_
          obtain ⟨o7, e7, hf⟩ := bind_some hf
          obtain ⟨u7, SH2⟩ := k_X8_two (X := X) (d := d) (by omega) (by omega) SH e7
          refine And.imp_left (rs_inS i_X8_worth_187 (by decide) m_X8_two rfl (As := [.int v4, .int (gI h 113 (ix ((v2 + (-1)) - 1))), .int (gI h 113 (ix (v2 + (-1))))]) (rest := [.int ((v2 + (-1)) - 1), .ref 113]) rfl rfl (Nat.le_of_ble_eq_true rfl) u7 (st' := [.int o7.1, .int ((v2 + (-1)) - 1), .ref 113]) rfl) ?_
          clear SH; have SH := SH2; clear SH2
          refine And.imp_left (rs_iast i_X8_worth_190 (mkI (sA SH hh (k := 9) (n := 200) (by decide)) c5)) ?_
          have SH := shi SH 113 (ix ((v2 + (-1)) - 1)) o7.1
          exact q_X8_worth_191 hd hh HK16 SH hf
        · replace hf := (if_neg c4).symm.trans hf
          refine And.imp_left (rs_icF i_X8_worth_138 (cf_ne c4)) ?_
          refine And.imp_left (rs_aload_n i_X8_worth_141 rfl) ?_
          refine And.imp_left (rs_getR i_X8_worth_142 (by decide) (by decide) (sO8 SH hh) (sR8_35 SH hh)) ?_
          refine And.imp_left (rs_iload_n i_X8_worth_145 rfl) ?_
          refine And.imp_left (rs_iconst i_X8_worth_146 (v := 1) (by decide)) ?_
          refine And.imp_left (rs_isub i_X8_worth_147) ?_
          refine And.imp_left (rs_aload_n i_X8_worth_148 rfl) ?_
          refine And.imp_left (rs_getR i_X8_worth_149 (by decide) (by decide) (sO8 SH hh) (sR8_35 SH hh)) ?_
          refine And.imp_left (rs_iload_n i_X8_worth_152 rfl) ?_
          refine And.imp_left (rs_iconst i_X8_worth_153 (v := 1) (by decide)) ?_
          refine And.imp_left (rs_isub i_X8_worth_154) ?_
          obtain ⟨c8, hf⟩ := ite_some hf
          refine And.imp_left (rs_iald i_X8_worth_155 (mkI (sA SH hh (k := 9) (n := 200) (by decide)) c8)) ?_
          refine And.imp_left (rs_ineg i_X8_worth_156) ?_
          refine And.imp_left (rs_iast i_X8_worth_157 (mkI (sA SH hh (k := 9) (n := 200) (by decide)) c8)) ?_
          have SH := shi SH 113 (ix (v2 - 1)) (-(gI h 113 (ix (v2 - 1))))
          refine And.imp_left (rs_goto i_X8_worth_158 (tg := 191) (by decide)) ?_
          exact q_X8_worth_191 hd hh HK16 SH hf
      · replace hf := (if_neg c3).symm.trans hf
        refine And.imp_left (rs_icF i_X8_worth_104 (cf_ne c3)) ?_
        refine And.imp_left (rs_aload_n i_X8_worth_107 rfl) ?_
        refine And.imp_left (rs_getR i_X8_worth_108 (by decide) (by decide) (sO8 SH hh) (sR8_35 SH hh)) ?_
        refine And.imp_left (rs_iload_n i_X8_worth_111 rfl) ?_
        refine And.imp_left (rs_iconst i_X8_worth_112 (v := 1) (by decide)) ?_
        refine And.imp_left (rs_isub i_X8_worth_113) ?_
        refine And.imp_left (rs_aload_n i_X8_worth_114 rfl) ?_
        refine And.imp_left (rs_getR i_X8_worth_115 (by decide) (by decide) (sO8 SH hh) (sR8_35 SH hh)) ?_
        refine And.imp_left (rs_iload_n i_X8_worth_118 rfl) ?_
        refine And.imp_left (rs_iconst i_X8_worth_119 (v := 1) (by decide)) ?_
        refine And.imp_left (rs_isub i_X8_worth_120) ?_
        obtain ⟨c9, hf⟩ := ite_some hf
        refine And.imp_left (rs_iald i_X8_worth_121 (mkI (sA SH hh (k := 9) (n := 200) (by decide)) c9)) ?_
        by_cases c10 : (gI h 113 (ix (v2 - 1))) ≠ 0
        · replace hf := (if_pos c10).symm.trans hf
          refine And.imp_left (rs_ifT i_X8_worth_122 (ct_ne c10) (tg := 129) (by decide)) ?_
          refine And.imp_left (rs_iconst i_X8_worth_129 (v := 0) (by decide)) ?_
          exact q_X8_worth_130 hd hh HK16 (by decide) SH hf
        · replace hf := (if_neg c10).symm.trans hf
          refine And.imp_left (rs_ifF i_X8_worth_122 (cf_ne c10)) ?_
          refine And.imp_left (rs_iconst i_X8_worth_125 (v := 1) (by decide)) ?_
          refine And.imp_left (rs_goto i_X8_worth_126 (tg := 130) (by decide)) ?_
          exact q_X8_worth_130 hd hh HK16 (by decide) SH hf
    · replace hf := (if_neg c2).symm.trans hf
      refine And.imp_left (rs_icF i_X8_worth_63 (cf_ge c2)) ?_
      exact q_X8_worth_66 hd hh HK16 SH hf
noncomputable def g_X8_worth_16 (n : Nat) : Nat → Int32 → Int32 → Int32 → Hp → Option (Int32 × Hp)
  | 0, _, _, _, _ => none
  | m + 1, v1, v2, v3, h =>
    if inb (((4 * (gI h 96 14)) + v1) + 1) 24 = true then
    if (gI h 104 (ix (((4 * (gI h 96 14)) + v1) + 1))) ≤ v3 then
      some ((gI h 113 (ix 0)), h)
    else
      if inb ((200 * (gI h 96 14)) + v3) 1200 = true then
      g_X8_worth_52 n (g_X8_worth_16 n m) v1 v2 v3 (gI h 103 (ix ((200 * (gI h 96 14)) + v3))) h
      else none
    else none
set_option maxRecDepth 100000 in
set_option maxHeartbeats 4000000 in
theorem q_X8_worth_16 {X : Nat → Int32} {d : Nat} (hd : 1 ≤ (d + 1)) {L hi : Nat} (hh : 125 ≤ hi) {n : Nat} : ∀ (m : Nat) (v1 : Int32) (v2 : Int32) (v3 : Int32) (w4 : Option Value) (h : Hp) (o : (Int32 × Hp)), SHP L hi h → g_X8_worth_16 n m v1 v2 v3 h = some o → Run X (d + 1) 148 16 [some (.ref 96), some (.int v1), some (.int v2), some (.int v3), w4] [] h (some (.int o.1), o.2) ∧ SHP L hi o.2 := by
  intro m
  induction m with
  | zero => intro v1 v2 v3 w4 h o SH hf; cases hf
  | succ m ih =>
    intro v1 v2 v3 w4 h o SH hf
    rw [g_X8_worth_16] at hf
    refine And.imp_left (rs_iload_n i_X8_worth_16 rfl) ?_
    refine And.imp_left (rs_aload_n i_X8_worth_17 rfl) ?_
    refine And.imp_left (rs_getR i_X8_worth_18 (by decide) (by decide) (sO8 SH hh) (sR8_12 SH hh)) ?_
    refine And.imp_left (rs_iconst i_X8_worth_21 (v := 4) (by decide)) ?_
    refine And.imp_left (rs_aload_n i_X8_worth_22 rfl) ?_
    refine And.imp_left (rs_getI i_X8_worth_23 (by decide) (by decide) (sO8 SH hh)) ?_
    refine And.imp_left (rs_imul i_X8_worth_26) ?_
    refine And.imp_left (rs_iload_n i_X8_worth_27 rfl) ?_
    refine And.imp_left (rs_iadd i_X8_worth_28) ?_
    refine And.imp_left (rs_iconst i_X8_worth_29 (v := 1) (by decide)) ?_
    refine And.imp_left (rs_iadd i_X8_worth_30) ?_
    obtain ⟨c1, hf⟩ := ite_some hf
    refine And.imp_left (rs_iald i_X8_worth_31 (mkI (sA SH hh (k := 9) (n := 24) (by decide)) c1)) ?_
    by_cases c2 : (gI h 104 (ix (((4 * (gI h 96 14)) + v1) + 1))) ≤ v3
    · replace hf := (if_pos c2).symm.trans hf
      refine And.imp_left (rs_icT i_X8_worth_32 (ct_ge c2) (tg := 197) (by decide)) ?_
      refine And.imp_left (rs_aload_n i_X8_worth_197 rfl) ?_
      refine And.imp_left (rs_getR i_X8_worth_198 (by decide) (by decide) (sO8 SH hh) (sR8_35 SH hh)) ?_
      refine And.imp_left (rs_iconst i_X8_worth_201 (v := 0) (by decide)) ?_
      refine And.imp_left (rs_iald i_X8_worth_202 (mkI (sA SH hh (k := 9) (n := 200) (by decide)) (by decide))) ?_
      have hf := Option.some.inj hf
      subst hf
      exact ⟨rs_iret i_X8_worth_203 m_X8_worth rfl, SH⟩
    · replace hf := (if_neg c2).symm.trans hf
      refine And.imp_left (rs_icF i_X8_worth_32 (cf_ge c2)) ?_
      refine And.imp_left (rs_aload_n i_X8_worth_35 rfl) ?_
      refine And.imp_left (rs_getR i_X8_worth_36 (by decide) (by decide) (sO8 SH hh) (sR8_11 SH hh)) ?_
      refine And.imp_left (rs_sipush i_X8_worth_39 (v := 200) (by decide)) ?_
      refine And.imp_left (rs_aload_n i_X8_worth_42 rfl) ?_
      refine And.imp_left (rs_getI i_X8_worth_43 (by decide) (by decide) (sO8 SH hh)) ?_
      refine And.imp_left (rs_imul i_X8_worth_46) ?_
      refine And.imp_left (rs_iload_n i_X8_worth_47 rfl) ?_
      refine And.imp_left (rs_iadd i_X8_worth_48) ?_
      obtain ⟨c3, hf⟩ := ite_some hf
      refine And.imp_left (rs_iald i_X8_worth_49 (mkI (sA SH hh (k := 9) (n := 1200) (by decide)) c3)) ?_
      refine And.imp_left (rs_istore i_X8_worth_50 (Nat.le_of_ble_eq_true rfl) (lv' := [some (.ref 96), some (.int v1), some (.int v2), some (.int v3), some (.int (gI h 103 (ix ((200 * (gI h 96 14)) + v3))))]) rfl) ?_
      exact q_X8_worth_52 hd hh ih SH hf
noncomputable def g_X8_worth_0 (n : Nat) (v1 : Int32) (h : Hp) : Option (Int32 × Hp) :=
  if inb ((4 * (gI h 96 14)) + v1) 24 = true then
  g_X8_worth_16 n n v1 0 (gI h 104 (ix ((4 * (gI h 96 14)) + v1))) h
  else none
set_option maxRecDepth 100000 in
set_option maxHeartbeats 4000000 in
theorem q_X8_worth_0 {X : Nat → Int32} {d : Nat} (hd : 1 ≤ (d + 1)) {L hi : Nat} (hh : 125 ≤ hi) {n : Nat} {v1 : Int32} {h : Hp} {o : (Int32 × Hp)}  (SH : SHP L hi h) (hf : g_X8_worth_0 n v1 h = some o) : Run X (d + 1) 148 0 [some (.ref 96), some (.int v1), none, none, none] [] h (some (.int o.1), o.2) ∧ SHP L hi o.2 := by
  unfold g_X8_worth_0 at hf
  refine And.imp_left (rs_iconst i_X8_worth_0 (v := 0) (by decide)) ?_
  refine And.imp_left (rs_istore_n i_X8_worth_1 (Nat.le_of_ble_eq_true rfl) (lv' := [some (.ref 96), some (.int v1), some (.int 0), none, none]) rfl) ?_
  refine And.imp_left (rs_aload_n i_X8_worth_2 rfl) ?_
  refine And.imp_left (rs_getR i_X8_worth_3 (by decide) (by decide) (sO8 SH hh) (sR8_12 SH hh)) ?_
  refine And.imp_left (rs_iconst i_X8_worth_6 (v := 4) (by decide)) ?_
  refine And.imp_left (rs_aload_n i_X8_worth_7 rfl) ?_
  refine And.imp_left (rs_getI i_X8_worth_8 (by decide) (by decide) (sO8 SH hh)) ?_
  refine And.imp_left (rs_imul i_X8_worth_11) ?_
  refine And.imp_left (rs_iload_n i_X8_worth_12 rfl) ?_
  refine And.imp_left (rs_iadd i_X8_worth_13) ?_
  obtain ⟨c1, hf⟩ := ite_some hf
  refine And.imp_left (rs_iald i_X8_worth_14 (mkI (sA SH hh (k := 9) (n := 24) (by decide)) c1)) ?_
  refine And.imp_left (rs_istore_n i_X8_worth_15 (Nat.le_of_ble_eq_true rfl) (lv' := [some (.ref 96), some (.int v1), some (.int 0), some (.int (gI h 104 (ix ((4 * (gI h 96 14)) + v1)))), none]) rfl) ?_
  exact q_X8_worth_16 hd hh _ _ _ _ _ _ _ SH hf
noncomputable def g_X8_worth (n : Nat) (v1 : Int32) (h : Hp) : Option (Int32 × Hp) := g_X8_worth_0 n v1 h
theorem k_X8_worth {X : Nat → Int32} {d : Nat} (hd : 1 ≤ d) {L hi : Nat} (hh : 125 ≤ hi) {n : Nat} {v1 : Int32} {h : Hp} {o : (Int32 × Hp)}  (SH : SHP L hi h) (hf : g_X8_worth n v1 h = some o) : Calls X d 148 [.ref 96, .int v1] h (some (.int o.1), o.2) ∧ SHP L hi o.2 := by
  obtain ⟨d, rfl⟩ : ∃ z, d = z + 1 := ⟨d - 1, by omega⟩
  obtain ⟨r, S2⟩ := q_X8_worth_0 hd hh SH hf
  exact ⟨⟨_, rfl, r⟩, S2⟩
noncomputable def g_X8_force_0 (v1 : Int32) (h : Hp) : Option (Int32 × Hp) :=
  (g_X8_in v1 0 ((gI h 96 13) - 1) h).bind fun o1 =>
  if o1.1 ≠ 0 then
    some ((gI o1.2 96 14), (hsi o1.2 96 14 v1))
  else
    some ((-2), o1.2)
set_option maxRecDepth 100000 in
set_option maxHeartbeats 4000000 in
theorem q_X8_force_0 {X : Nat → Int32} {d : Nat} (hd : 1 ≤ (d + 1)) {L hi : Nat} (hh : 125 ≤ hi) {v1 : Int32} {h : Hp} {o : (Int32 × Hp)}  (SH : SHP L hi h) (hf : g_X8_force_0 v1 h = some o) : Run X (d + 1) 149 0 [some (.ref 96), some (.int v1), none] [] h (some (.int o.1), o.2) ∧ SHP L hi o.2 := by
  unfold g_X8_force_0 at hf
  refine And.imp_left (rs_iload_n i_X8_force_0 rfl) ?_
  refine And.imp_left (rs_iconst i_X8_force_1 (v := 0) (by decide)) ?_
  refine And.imp_left (rs_aload_n i_X8_force_2 rfl) ?_
  refine And.imp_left (rs_getI i_X8_force_3 (by decide) (by decide) (sO8 SH hh)) ?_
  refine And.imp_left (rs_iconst i_X8_force_6 (v := 1) (by decide)) ?_
  refine And.imp_left (rs_isub i_X8_force_7) ?_
  obtain ⟨o1, e1, hf⟩ := bind_some hf
  obtain ⟨u1, SH2⟩ := k_X8_in (X := X) (d := d) (by omega) (by omega) SH e1
  refine And.imp_left (rs_inS i_X8_force_8 (by decide) m_X8_in rfl (As := [.int v1, .int 0, .int ((gI h 96 13) - 1)]) (rest := []) rfl rfl (Nat.le_of_ble_eq_true rfl) u1 (st' := [.int o1.1]) rfl) ?_
  clear SH; have SH := SH2; clear SH2
  by_cases c2 : o1.1 ≠ 0
  · replace hf := (if_pos c2).symm.trans hf
    refine And.imp_left (rs_ifT i_X8_force_11 (ct_ne c2) (tg := 17) (by decide)) ?_
    refine And.imp_left (rs_aload_n i_X8_force_17 rfl) ?_
    refine And.imp_left (rs_getI i_X8_force_18 (by decide) (by decide) (sO8 SH hh)) ?_
    refine And.imp_left (rs_istore_n i_X8_force_21 (Nat.le_of_ble_eq_true rfl) (lv' := [some (.ref 96), some (.int v1), some (.int (gI o1.2 96 14))]) rfl) ?_
    refine And.imp_left (rs_aload_n i_X8_force_22 rfl) ?_
    refine And.imp_left (rs_iload_n i_X8_force_23 rfl) ?_
    refine And.imp_left (rs_putI i_X8_force_24 (by decide) (sO8 SH hh)) ?_
    have SH := shi SH 96 14 v1
    refine And.imp_left (rs_iload_n i_X8_force_27 rfl) ?_
    have hf := Option.some.inj hf
    subst hf
    exact ⟨rs_iret i_X8_force_28 m_X8_force rfl, SH⟩
  · replace hf := (if_neg c2).symm.trans hf
    refine And.imp_left (rs_ifF i_X8_force_11 (cf_ne c2)) ?_
    refine And.imp_left (rs_bipush i_X8_force_14 (v := (-2)) (by decide)) ?_
    have hf := Option.some.inj hf
    subst hf
    exact ⟨rs_iret i_X8_force_16 m_X8_force rfl, SH⟩
noncomputable def g_X8_force (v1 : Int32) (h : Hp) : Option (Int32 × Hp) := g_X8_force_0 v1 h
theorem k_X8_force {X : Nat → Int32} {d : Nat} (hd : 1 ≤ d) {L hi : Nat} (hh : 125 ≤ hi) {v1 : Int32} {h : Hp} {o : (Int32 × Hp)}  (SH : SHP L hi h) (hf : g_X8_force v1 h = some o) : Calls X d 149 [.ref 96, .int v1] h (some (.int o.1), o.2) ∧ SHP L hi o.2 := by
  obtain ⟨d, rfl⟩ : ∃ z, d = z + 1 := ⟨d - 1, by omega⟩
  obtain ⟨r, S2⟩ := q_X8_force_0 hd hh SH hf
  exact ⟨⟨_, rfl, r⟩, S2⟩
noncomputable def g_X8_step_84  (h : Hp) : Option (Int32 × Hp) :=
  some (((gI h 96 5) - 1), h)
set_option maxRecDepth 100000 in
set_option maxHeartbeats 4000000 in
theorem q_X8_step_84 {X : Nat → Int32} {d : Nat} (hd : 1 ≤ (d + 1)) {L hi : Nat} (hh : 125 ≤ hi) {d1 : Int32} {d2 : Int32} {d3 : Int32} {h : Hp} {o : (Int32 × Hp)}  (SH : SHP L hi h) (hf : g_X8_step_84 h = some o) : Run X (d + 1) 150 84 [some (.ref 96), some (.int d1), some (.int d2), some (.int d3)] [] h (some (.int o.1), o.2) ∧ SHP L hi o.2 := by
  unfold g_X8_step_84 at hf
  refine And.imp_left (rs_aload_n i_X8_step_84 rfl) ?_
  refine And.imp_left (rs_getI i_X8_step_85 (by decide) (by decide) (sO8 SH hh)) ?_
  refine And.imp_left (rs_iconst i_X8_step_88 (v := 1) (by decide)) ?_
  refine And.imp_left (rs_isub i_X8_step_89) ?_
  have hf := Option.some.inj hf
  subst hf
  exact ⟨rs_iret i_X8_step_90 m_X8_step rfl, SH⟩
noncomputable def g_X8_step_74  (h : Hp) : Option (Int32 × Hp) :=
  g_X8_step_84 (hsi h 96 5 ((gI h 96 5) + 1))
set_option maxRecDepth 100000 in
set_option maxHeartbeats 4000000 in
theorem q_X8_step_74 {X : Nat → Int32} {d : Nat} (hd : 1 ≤ (d + 1)) {L hi : Nat} (hh : 125 ≤ hi) {d1 : Int32} {d2 : Int32} {d3 : Int32} {h : Hp} {o : (Int32 × Hp)}  (SH : SHP L hi h) (hf : g_X8_step_74 h = some o) : Run X (d + 1) 150 74 [some (.ref 96), some (.int d1), some (.int d2), some (.int d3)] [] h (some (.int o.1), o.2) ∧ SHP L hi o.2 := by
  unfold g_X8_step_74 at hf
  refine And.imp_left (rs_aload_n i_X8_step_74 rfl) ?_
  refine And.imp_left (rs_dup i_X8_step_75 rfl) ?_
  refine And.imp_left (rs_getI i_X8_step_76 (by decide) (by decide) (sO8 SH hh)) ?_
  refine And.imp_left (rs_iconst i_X8_step_79 (v := 1) (by decide)) ?_
  refine And.imp_left (rs_iadd i_X8_step_80) ?_
  refine And.imp_left (rs_putI i_X8_step_81 (by decide) (sO8 SH hh)) ?_
  have SH := shi SH 96 5 ((gI h 96 5) + 1)
  exact q_X8_step_84 hd hh SH hf
noncomputable def g_X8_step_64 (v3 : Int32) (h : Hp) : Option (Int32 × Hp) :=
  if inb (gI h 96 5) 12 = true then
  g_X8_step_74 (hsi h 101 (ix (gI h 96 5)) v3)
  else none
set_option maxRecDepth 100000 in
set_option maxHeartbeats 4000000 in
theorem q_X8_step_64 {X : Nat → Int32} {d : Nat} (hd : 1 ≤ (d + 1)) {L hi : Nat} (hh : 125 ≤ hi) {v3 : Int32} {d1 : Int32} {d2 : Int32} {h : Hp} {o : (Int32 × Hp)}  (SH : SHP L hi h) (hf : g_X8_step_64 v3 h = some o) : Run X (d + 1) 150 64 [some (.ref 96), some (.int d1), some (.int d2), some (.int v3)] [] h (some (.int o.1), o.2) ∧ SHP L hi o.2 := by
  unfold g_X8_step_64 at hf
  refine And.imp_left (rs_aload_n i_X8_step_64 rfl) ?_
  refine And.imp_left (rs_getR i_X8_step_65 (by decide) (by decide) (sO8 SH hh) (sR8_8 SH hh)) ?_
  refine And.imp_left (rs_aload_n i_X8_step_68 rfl) ?_
  refine And.imp_left (rs_getI i_X8_step_69 (by decide) (by decide) (sO8 SH hh)) ?_
  refine And.imp_left (rs_iload_n i_X8_step_72 rfl) ?_
  obtain ⟨c1, hf⟩ := ite_some hf
  refine And.imp_left (rs_iast i_X8_step_73 (mkI (sA SH hh (k := 9) (n := 12) (by decide)) c1)) ?_
  have SH := shi SH 101 (ix (gI h 96 5)) v3
  exact q_X8_step_74 hd hh SH hf
noncomputable def g_X8_step_54 (v2 : Int32) (v3 : Int32) (h : Hp) : Option (Int32 × Hp) :=
  if inb (gI h 96 5) 12 = true then
  g_X8_step_64 v3 (hsi h 100 (ix (gI h 96 5)) v2)
  else none
set_option maxRecDepth 100000 in
set_option maxHeartbeats 4000000 in
theorem q_X8_step_54 {X : Nat → Int32} {d : Nat} (hd : 1 ≤ (d + 1)) {L hi : Nat} (hh : 125 ≤ hi) {v2 : Int32} {v3 : Int32} {d1 : Int32} {h : Hp} {o : (Int32 × Hp)}  (SH : SHP L hi h) (hf : g_X8_step_54 v2 v3 h = some o) : Run X (d + 1) 150 54 [some (.ref 96), some (.int d1), some (.int v2), some (.int v3)] [] h (some (.int o.1), o.2) ∧ SHP L hi o.2 := by
  unfold g_X8_step_54 at hf
  refine And.imp_left (rs_aload_n i_X8_step_54 rfl) ?_
  refine And.imp_left (rs_getR i_X8_step_55 (by decide) (by decide) (sO8 SH hh) (sR8_7 SH hh)) ?_
  refine And.imp_left (rs_aload_n i_X8_step_58 rfl) ?_
  refine And.imp_left (rs_getI i_X8_step_59 (by decide) (by decide) (sO8 SH hh)) ?_
  refine And.imp_left (rs_iload_n i_X8_step_62 rfl) ?_
  obtain ⟨c1, hf⟩ := ite_some hf
  refine And.imp_left (rs_iast i_X8_step_63 (mkI (sA SH hh (k := 9) (n := 12) (by decide)) c1)) ?_
  have SH := shi SH 100 (ix (gI h 96 5)) v2
  exact q_X8_step_64 hd hh SH hf
noncomputable def g_X8_step_0 (v1 : Int32) (v2 : Int32) (v3 : Int32) (h : Hp) : Option (Int32 × Hp) :=
  (g_X8_in v1 0 5 h).bind fun o1 =>
  if o1.1 = 0 then
    some ((-2), o1.2)
  else
    (g_X8_in v2 0 9 o1.2).bind fun o3 =>
    if o3.1 = 0 then
      some ((-2), o3.2)
    else
      (g_X8_in v3 1 9 o3.2).bind fun o5 =>
      if o5.1 ≠ 0 then
        if (gI o5.2 96 5) ≠ 12 then
          if inb (gI o5.2 96 5) 12 = true then
          g_X8_step_54 v2 v3 (hsi o5.2 99 (ix (gI o5.2 96 5)) v1)
          else none
        else
          some ((-4), o5.2)
      else
        some ((-2), o5.2)
set_option maxRecDepth 100000 in
set_option maxHeartbeats 4000000 in
theorem q_X8_step_0 {X : Nat → Int32} {d : Nat} (hd : 1 ≤ (d + 1)) {L hi : Nat} (hh : 125 ≤ hi) {v1 : Int32} {v2 : Int32} {v3 : Int32} {h : Hp} {o : (Int32 × Hp)}  (SH : SHP L hi h) (hf : g_X8_step_0 v1 v2 v3 h = some o) : Run X (d + 1) 150 0 [some (.ref 96), some (.int v1), some (.int v2), some (.int v3)] [] h (some (.int o.1), o.2) ∧ SHP L hi o.2 := by
  unfold g_X8_step_0 at hf
  refine And.imp_left (rs_iload_n i_X8_step_0 rfl) ?_
  refine And.imp_left (rs_iconst i_X8_step_1 (v := 0) (by decide)) ?_
  refine And.imp_left (rs_iconst i_X8_step_2 (v := 5) (by decide)) ?_
  obtain ⟨o1, e1, hf⟩ := bind_some hf
  obtain ⟨u1, SH2⟩ := k_X8_in (X := X) (d := d) (by omega) (by omega) SH e1
  refine And.imp_left (rs_inS i_X8_step_3 (by decide) m_X8_in rfl (As := [.int v1, .int 0, .int 5]) (rest := []) rfl rfl (Nat.le_of_ble_eq_true rfl) u1 (st' := [.int o1.1]) rfl) ?_
  clear SH; have SH := SH2; clear SH2
  by_cases c2 : o1.1 = 0
  · replace hf := (if_pos c2).symm.trans hf
    refine And.imp_left (rs_ifT i_X8_step_6 (ct_eq c2) (tg := 29) (by decide)) ?_
    refine And.imp_left (rs_bipush i_X8_step_29 (v := (-2)) (by decide)) ?_
    have hf := Option.some.inj hf
    subst hf
    exact ⟨rs_iret i_X8_step_31 m_X8_step rfl, SH⟩
  · replace hf := (if_neg c2).symm.trans hf
    refine And.imp_left (rs_ifF i_X8_step_6 (cf_eq c2)) ?_
    refine And.imp_left (rs_iload_n i_X8_step_9 rfl) ?_
    refine And.imp_left (rs_iconst i_X8_step_10 (v := 0) (by decide)) ?_
    refine And.imp_left (rs_bipush i_X8_step_11 (v := 9) (by decide)) ?_
    obtain ⟨o3, e3, hf⟩ := bind_some hf
    obtain ⟨u3, SH2⟩ := k_X8_in (X := X) (d := d) (by omega) (by omega) SH e3
    refine And.imp_left (rs_inS i_X8_step_13 (by decide) m_X8_in rfl (As := [.int v2, .int 0, .int 9]) (rest := []) rfl rfl (Nat.le_of_ble_eq_true rfl) u3 (st' := [.int o3.1]) rfl) ?_
    clear SH; have SH := SH2; clear SH2
    by_cases c4 : o3.1 = 0
    · replace hf := (if_pos c4).symm.trans hf
      refine And.imp_left (rs_ifT i_X8_step_16 (ct_eq c4) (tg := 29) (by decide)) ?_
      refine And.imp_left (rs_bipush i_X8_step_29 (v := (-2)) (by decide)) ?_
      have hf := Option.some.inj hf
      subst hf
      exact ⟨rs_iret i_X8_step_31 m_X8_step rfl, SH⟩
    · replace hf := (if_neg c4).symm.trans hf
      refine And.imp_left (rs_ifF i_X8_step_16 (cf_eq c4)) ?_
      refine And.imp_left (rs_iload_n i_X8_step_19 rfl) ?_
      refine And.imp_left (rs_iconst i_X8_step_20 (v := 1) (by decide)) ?_
      refine And.imp_left (rs_bipush i_X8_step_21 (v := 9) (by decide)) ?_
      obtain ⟨o5, e5, hf⟩ := bind_some hf
      obtain ⟨u5, SH2⟩ := k_X8_in (X := X) (d := d) (by omega) (by omega) SH e5
      refine And.imp_left (rs_inS i_X8_step_23 (by decide) m_X8_in rfl (As := [.int v3, .int 1, .int 9]) (rest := []) rfl rfl (Nat.le_of_ble_eq_true rfl) u5 (st' := [.int o5.1]) rfl) ?_
      clear SH; have SH := SH2; clear SH2
      by_cases c6 : o5.1 ≠ 0
      · replace hf := (if_pos c6).symm.trans hf
        refine And.imp_left (rs_ifT i_X8_step_26 (ct_ne c6) (tg := 32) (by decide)) ?_
        refine And.imp_left (rs_aload_n i_X8_step_32 rfl) ?_
        refine And.imp_left (rs_getI i_X8_step_33 (by decide) (by decide) (sO8 SH hh)) ?_
        refine And.imp_left (rs_bipush i_X8_step_36 (v := 12) (by decide)) ?_
        by_cases c7 : (gI o5.2 96 5) ≠ 12
        · replace hf := (if_pos c7).symm.trans hf
          refine And.imp_left (rs_icT i_X8_step_38 (ct_ne c7) (tg := 44) (by decide)) ?_
          refine And.imp_left (rs_aload_n i_X8_step_44 rfl) ?_
          refine And.imp_left (rs_getR i_X8_step_45 (by decide) (by decide) (sO8 SH hh) (sR8_6 SH hh)) ?_
          refine And.imp_left (rs_aload_n i_X8_step_48 rfl) ?_
          refine And.imp_left (rs_getI i_X8_step_49 (by decide) (by decide) (sO8 SH hh)) ?_
          refine And.imp_left (rs_iload_n i_X8_step_52 rfl) ?_
          obtain ⟨c8, hf⟩ := ite_some hf
          refine And.imp_left (rs_iast i_X8_step_53 (mkI (sA SH hh (k := 9) (n := 12) (by decide)) c8)) ?_
          have SH := shi SH 99 (ix (gI o5.2 96 5)) v1
          exact q_X8_step_54 hd hh SH hf
        · replace hf := (if_neg c7).symm.trans hf
          refine And.imp_left (rs_icF i_X8_step_38 (cf_ne c7)) ?_
          refine And.imp_left (rs_bipush i_X8_step_41 (v := (-4)) (by decide)) ?_
          have hf := Option.some.inj hf
          subst hf
          exact ⟨rs_iret i_X8_step_43 m_X8_step rfl, SH⟩
      · replace hf := (if_neg c6).symm.trans hf
        refine And.imp_left (rs_ifF i_X8_step_26 (cf_ne c6)) ?_
        refine And.imp_left (rs_bipush i_X8_step_29 (v := (-2)) (by decide)) ?_
        have hf := Option.some.inj hf
        subst hf
        exact ⟨rs_iret i_X8_step_31 m_X8_step rfl, SH⟩
noncomputable def g_X8_step (v1 : Int32) (v2 : Int32) (v3 : Int32) (h : Hp) : Option (Int32 × Hp) := g_X8_step_0 v1 v2 v3 h
theorem k_X8_step {X : Nat → Int32} {d : Nat} (hd : 1 ≤ d) {L hi : Nat} (hh : 125 ≤ hi) {v1 : Int32} {v2 : Int32} {v3 : Int32} {h : Hp} {o : (Int32 × Hp)}  (SH : SHP L hi h) (hf : g_X8_step v1 v2 v3 h = some o) : Calls X d 150 [.ref 96, .int v1, .int v2, .int v3] h (some (.int o.1), o.2) ∧ SHP L hi o.2 := by
  obtain ⟨d, rfl⟩ : ∃ z, d = z + 1 := ⟨d - 1, by omega⟩
  obtain ⟨r, S2⟩ := q_X8_step_0 hd hh SH hf
  exact ⟨⟨_, rfl, r⟩, S2⟩
noncomputable def g_X8_forget_20  (h : Hp) : Option (Int32 × Hp) :=
  some ((gI h 96 5), h)
set_option maxRecDepth 100000 in
set_option maxHeartbeats 4000000 in
theorem q_X8_forget_20 {X : Nat → Int32} {d : Nat} (hd : 0 ≤ d) {L hi : Nat} (hh : 125 ≤ hi)  {h : Hp} {o : (Int32 × Hp)}  (SH : SHP L hi h) (hf : g_X8_forget_20 h = some o) : Run X d 151 20 [some (.ref 96)] [] h (some (.int o.1), o.2) ∧ SHP L hi o.2 := by
  unfold g_X8_forget_20 at hf
  refine And.imp_left (rs_aload_n i_X8_forget_20 rfl) ?_
  refine And.imp_left (rs_getI i_X8_forget_21 (by decide) (by decide) (sO8 SH hh)) ?_
  have hf := Option.some.inj hf
  subst hf
  exact ⟨rs_iret i_X8_forget_24 m_X8_forget rfl, SH⟩
noncomputable def g_X8_forget_0  (h : Hp) : Option (Int32 × Hp) :=
  if (gI h 96 5) ≠ 0 then
    g_X8_forget_20 (hsi h 96 5 ((gI h 96 5) - 1))
  else
    some ((-3), h)
set_option maxRecDepth 100000 in
set_option maxHeartbeats 4000000 in
theorem q_X8_forget_0 {X : Nat → Int32} {d : Nat} (hd : 0 ≤ d) {L hi : Nat} (hh : 125 ≤ hi)  {h : Hp} {o : (Int32 × Hp)}  (SH : SHP L hi h) (hf : g_X8_forget_0 h = some o) : Run X d 151 0 [some (.ref 96)] [] h (some (.int o.1), o.2) ∧ SHP L hi o.2 := by
  unfold g_X8_forget_0 at hf
  refine And.imp_left (rs_aload_n i_X8_forget_0 rfl) ?_
  refine And.imp_left (rs_getI i_X8_forget_1 (by decide) (by decide) (sO8 SH hh)) ?_
  by_cases c1 : (gI h 96 5) ≠ 0
  · replace hf := (if_pos c1).symm.trans hf
    refine And.imp_left (rs_ifT i_X8_forget_4 (ct_ne c1) (tg := 10) (by decide)) ?_
    refine And.imp_left (rs_aload_n i_X8_forget_10 rfl) ?_
    refine And.imp_left (rs_dup i_X8_forget_11 rfl) ?_
    refine And.imp_left (rs_getI i_X8_forget_12 (by decide) (by decide) (sO8 SH hh)) ?_
    refine And.imp_left (rs_iconst i_X8_forget_15 (v := 1) (by decide)) ?_
    refine And.imp_left (rs_isub i_X8_forget_16) ?_
    refine And.imp_left (rs_putI i_X8_forget_17 (by decide) (sO8 SH hh)) ?_
    have SH := shi SH 96 5 ((gI h 96 5) - 1)
    exact q_X8_forget_20 hd hh SH hf
  · replace hf := (if_neg c1).symm.trans hf
    refine And.imp_left (rs_ifF i_X8_forget_4 (cf_ne c1)) ?_
    refine And.imp_left (rs_bipush i_X8_forget_7 (v := (-3)) (by decide)) ?_
    have hf := Option.some.inj hf
    subst hf
    exact ⟨rs_iret i_X8_forget_9 m_X8_forget rfl, SH⟩
noncomputable def g_X8_forget  (h : Hp) : Option (Int32 × Hp) := g_X8_forget_0 h
theorem k_X8_forget {X : Nat → Int32} {d : Nat} (hd : 0 ≤ d) {L hi : Nat} (hh : 125 ≤ hi)  {h : Hp} {o : (Int32 × Hp)}  (SH : SHP L hi h) (hf : g_X8_forget h = some o) : Calls X d 151 [.ref 96] h (some (.int o.1), o.2) ∧ SHP L hi o.2 := by
  obtain ⟨r, S2⟩ := q_X8_forget_0 hd hh SH hf
  exact ⟨⟨_, rfl, r⟩, S2⟩
noncomputable def g_X8_takesOf_0 (v1 : Int32) (h : Hp) : Option (Int32 × Hp) :=
  if inb v1 12 = true then
  if (gI h 99 (ix v1)) = 1 then
    some ((10 - (gI h 101 (ix v1))), h)
  else
    if (gI h 99 (ix v1)) = 2 then
      some ((12 - (gI h 101 (ix v1))), h)
    else
      if (gI h 99 (ix v1)) = 3 then
        some (3, h)
      else
        if (gI h 99 (ix v1)) = 4 then
          some (((gI h 100 (ix v1)) + 1), h)
        else
          if (gI h 99 (ix v1)) = 5 then
            some ((3 + (gI h 100 (ix v1))), h)
          else
            some ((10 * (gI h 100 (ix v1))), h)
  else none
set_option maxRecDepth 100000 in
set_option maxHeartbeats 4000000 in
theorem q_X8_takesOf_0 {X : Nat → Int32} {d : Nat} (hd : 0 ≤ d) {L hi : Nat} (hh : 125 ≤ hi) {v1 : Int32} {h : Hp} {o : (Int32 × Hp)}  (SH : SHP L hi h) (hf : g_X8_takesOf_0 v1 h = some o) : Run X d 152 0 [some (.ref 96), some (.int v1)] [] h (some (.int o.1), o.2) ∧ SHP L hi o.2 := by
  unfold g_X8_takesOf_0 at hf
  refine And.imp_left (rs_aload_n i_X8_takesOf_0 rfl) ?_
  refine And.imp_left (rs_getR i_X8_takesOf_1 (by decide) (by decide) (sO8 SH hh) (sR8_6 SH hh)) ?_
  refine And.imp_left (rs_iload_n i_X8_takesOf_4 rfl) ?_
  obtain ⟨c1, hf⟩ := ite_some hf
  refine And.imp_left (rs_iald i_X8_takesOf_5 (mkI (sA SH hh (k := 9) (n := 12) (by decide)) c1)) ?_
  by_cases c2 : (gI h 99 (ix v1)) = 1
  · replace hf := (if_pos c2).symm.trans hf
    refine And.imp_left (rs_tsw i_X8_takesOf_6 (off := 34) (by rw [c2]; decide) (tg := 40) (by decide)) ?_
    refine And.imp_left (rs_bipush i_X8_takesOf_40 (v := 10) (by decide)) ?_
    refine And.imp_left (rs_aload_n i_X8_takesOf_42 rfl) ?_
    refine And.imp_left (rs_getR i_X8_takesOf_43 (by decide) (by decide) (sO8 SH hh) (sR8_8 SH hh)) ?_
    refine And.imp_left (rs_iload_n i_X8_takesOf_46 rfl) ?_
    refine And.imp_left (rs_iald i_X8_takesOf_47 (mkI (sA SH hh (k := 9) (n := 12) (by decide)) c1)) ?_
    refine And.imp_left (rs_isub i_X8_takesOf_48) ?_
    have hf := Option.some.inj hf
    subst hf
    exact ⟨rs_iret i_X8_takesOf_49 m_X8_takesOf rfl, SH⟩
  · replace hf := (if_neg c2).symm.trans hf
    by_cases c3 : (gI h 99 (ix v1)) = 2
    · replace hf := (if_pos c3).symm.trans hf
      refine And.imp_left (rs_tsw i_X8_takesOf_6 (off := 44) (by rw [c3]; decide) (tg := 50) (by decide)) ?_
      refine And.imp_left (rs_bipush i_X8_takesOf_50 (v := 12) (by decide)) ?_
      refine And.imp_left (rs_aload_n i_X8_takesOf_52 rfl) ?_
      refine And.imp_left (rs_getR i_X8_takesOf_53 (by decide) (by decide) (sO8 SH hh) (sR8_8 SH hh)) ?_
      refine And.imp_left (rs_iload_n i_X8_takesOf_56 rfl) ?_
      refine And.imp_left (rs_iald i_X8_takesOf_57 (mkI (sA SH hh (k := 9) (n := 12) (by decide)) c1)) ?_
      refine And.imp_left (rs_isub i_X8_takesOf_58) ?_
      have hf := Option.some.inj hf
      subst hf
      exact ⟨rs_iret i_X8_takesOf_59 m_X8_takesOf rfl, SH⟩
    · replace hf := (if_neg c3).symm.trans hf
      by_cases c4 : (gI h 99 (ix v1)) = 3
      · replace hf := (if_pos c4).symm.trans hf
        refine And.imp_left (rs_tsw i_X8_takesOf_6 (off := 54) (by rw [c4]; decide) (tg := 60) (by decide)) ?_
        refine And.imp_left (rs_iconst i_X8_takesOf_60 (v := 3) (by decide)) ?_
        have hf := Option.some.inj hf
        subst hf
        exact ⟨rs_iret i_X8_takesOf_61 m_X8_takesOf rfl, SH⟩
      · replace hf := (if_neg c4).symm.trans hf
        by_cases c5 : (gI h 99 (ix v1)) = 4
        · replace hf := (if_pos c5).symm.trans hf
          refine And.imp_left (rs_tsw i_X8_takesOf_6 (off := 56) (by rw [c5]; decide) (tg := 62) (by decide)) ?_
          refine And.imp_left (rs_aload_n i_X8_takesOf_62 rfl) ?_
          refine And.imp_left (rs_getR i_X8_takesOf_63 (by decide) (by decide) (sO8 SH hh) (sR8_7 SH hh)) ?_
          refine And.imp_left (rs_iload_n i_X8_takesOf_66 rfl) ?_
          refine And.imp_left (rs_iald i_X8_takesOf_67 (mkI (sA SH hh (k := 9) (n := 12) (by decide)) c1)) ?_
          refine And.imp_left (rs_iconst i_X8_takesOf_68 (v := 1) (by decide)) ?_
          refine And.imp_left (rs_iadd i_X8_takesOf_69) ?_
          have hf := Option.some.inj hf
          subst hf
          exact ⟨rs_iret i_X8_takesOf_70 m_X8_takesOf rfl, SH⟩
        · replace hf := (if_neg c5).symm.trans hf
          by_cases c6 : (gI h 99 (ix v1)) = 5
          · replace hf := (if_pos c6).symm.trans hf
            refine And.imp_left (rs_tsw i_X8_takesOf_6 (off := 65) (by rw [c6]; decide) (tg := 71) (by decide)) ?_
            refine And.imp_left (rs_iconst i_X8_takesOf_71 (v := 3) (by decide)) ?_
            refine And.imp_left (rs_aload_n i_X8_takesOf_72 rfl) ?_
            refine And.imp_left (rs_getR i_X8_takesOf_73 (by decide) (by decide) (sO8 SH hh) (sR8_7 SH hh)) ?_
            refine And.imp_left (rs_iload_n i_X8_takesOf_76 rfl) ?_
            refine And.imp_left (rs_iald i_X8_takesOf_77 (mkI (sA SH hh (k := 9) (n := 12) (by decide)) c1)) ?_
            refine And.imp_left (rs_iadd i_X8_takesOf_78) ?_
            have hf := Option.some.inj hf
            subst hf
            exact ⟨rs_iret i_X8_takesOf_79 m_X8_takesOf rfl, SH⟩
          · replace hf := (if_neg c6).symm.trans hf
            refine And.imp_left (rs_tsw i_X8_takesOf_6 (off := 74) (swt_df (by have z0 := ne_ti c2; rw [show (1 : Int32).toInt = 1 from by decide] at z0; have z1 := ne_ti c3; rw [show (2 : Int32).toInt = 2 from by decide] at z1; have z2 := ne_ti c4; rw [show (3 : Int32).toInt = 3 from by decide] at z2; have z3 := ne_ti c5; rw [show (4 : Int32).toInt = 4 from by decide] at z3; have z4 := ne_ti c6; rw [show (5 : Int32).toInt = 5 from by decide] at z4; omega)) (tg := 80) (by decide)) ?_
            refine And.imp_left (rs_bipush i_X8_takesOf_80 (v := 10) (by decide)) ?_
            refine And.imp_left (rs_aload_n i_X8_takesOf_82 rfl) ?_
            refine And.imp_left (rs_getR i_X8_takesOf_83 (by decide) (by decide) (sO8 SH hh) (sR8_7 SH hh)) ?_
            refine And.imp_left (rs_iload_n i_X8_takesOf_86 rfl) ?_
            refine And.imp_left (rs_iald i_X8_takesOf_87 (mkI (sA SH hh (k := 9) (n := 12) (by decide)) c1)) ?_
            refine And.imp_left (rs_imul i_X8_takesOf_88) ?_
            have hf := Option.some.inj hf
            subst hf
            exact ⟨rs_iret i_X8_takesOf_89 m_X8_takesOf rfl, SH⟩
noncomputable def g_X8_takesOf (v1 : Int32) (h : Hp) : Option (Int32 × Hp) := g_X8_takesOf_0 v1 h
theorem k_X8_takesOf {X : Nat → Int32} {d : Nat} (hd : 0 ≤ d) {L hi : Nat} (hh : 125 ≤ hi) {v1 : Int32} {h : Hp} {o : (Int32 × Hp)}  (SH : SHP L hi h) (hf : g_X8_takesOf v1 h = some o) : Calls X d 152 [.ref 96, .int v1] h (some (.int o.1), o.2) ∧ SHP L hi o.2 := by
  obtain ⟨r, S2⟩ := q_X8_takesOf_0 hd hh SH hf
  exact ⟨⟨_, rfl, r⟩, S2⟩
noncomputable def g_X8_stepTold_0 (v1 : Int32) (v2 : Int32) (h : Hp) : Option (Int32 × Hp) :=
  (g_X8_in v1 0 ((gI h 96 5) - 1) h).bind fun o1 =>
  if o1.1 ≠ 0 then
    if v2 ≠ 0 then
      if v2 ≠ 1 then
        if v2 ≠ 2 then
          if v2 ≠ 3 then
            some ((-7), o1.2)
          else
            (g_X8_takesOf v1 o1.2).bind fun o7 =>
            some (o7.1, o7.2)
        else
          if inb v1 12 = true then
          some ((gI o1.2 101 (ix v1)), o1.2)
          else none
      else
        if inb v1 12 = true then
        some ((gI o1.2 100 (ix v1)), o1.2)
        else none
    else
      if inb v1 12 = true then
      some ((gI o1.2 99 (ix v1)), o1.2)
      else none
  else
    some ((-5), o1.2)
set_option maxRecDepth 100000 in
set_option maxHeartbeats 4000000 in
theorem q_X8_stepTold_0 {X : Nat → Int32} {d : Nat} (hd : 1 ≤ (d + 1)) {L hi : Nat} (hh : 125 ≤ hi) {v1 : Int32} {v2 : Int32} {h : Hp} {o : (Int32 × Hp)}  (SH : SHP L hi h) (hf : g_X8_stepTold_0 v1 v2 h = some o) : Run X (d + 1) 153 0 [some (.ref 96), some (.int v1), some (.int v2)] [] h (some (.int o.1), o.2) ∧ SHP L hi o.2 := by
  unfold g_X8_stepTold_0 at hf
  refine And.imp_left (rs_iload_n i_X8_stepTold_0 rfl) ?_
  refine And.imp_left (rs_iconst i_X8_stepTold_1 (v := 0) (by decide)) ?_
  refine And.imp_left (rs_aload_n i_X8_stepTold_2 rfl) ?_
  refine And.imp_left (rs_getI i_X8_stepTold_3 (by decide) (by decide) (sO8 SH hh)) ?_
  refine And.imp_left (rs_iconst i_X8_stepTold_6 (v := 1) (by decide)) ?_
  refine And.imp_left (rs_isub i_X8_stepTold_7) ?_
  obtain ⟨o1, e1, hf⟩ := bind_some hf
  obtain ⟨u1, SH2⟩ := k_X8_in (X := X) (d := d) (by omega) (by omega) SH e1
  refine And.imp_left (rs_inS i_X8_stepTold_8 (by decide) m_X8_in rfl (As := [.int v1, .int 0, .int ((gI h 96 5) - 1)]) (rest := []) rfl rfl (Nat.le_of_ble_eq_true rfl) u1 (st' := [.int o1.1]) rfl) ?_
  clear SH; have SH := SH2; clear SH2
  by_cases c2 : o1.1 ≠ 0
  · replace hf := (if_pos c2).symm.trans hf
    refine And.imp_left (rs_ifT i_X8_stepTold_11 (ct_ne c2) (tg := 17) (by decide)) ?_
    refine And.imp_left (rs_iload_n i_X8_stepTold_17 rfl) ?_
    by_cases c3 : v2 ≠ 0
    · replace hf := (if_pos c3).symm.trans hf
      refine And.imp_left (rs_ifT i_X8_stepTold_18 (ct_ne c3) (tg := 30) (by decide)) ?_
      refine And.imp_left (rs_iload_n i_X8_stepTold_30 rfl) ?_
      refine And.imp_left (rs_iconst i_X8_stepTold_31 (v := 1) (by decide)) ?_
      by_cases c4 : v2 ≠ 1
      · replace hf := (if_pos c4).symm.trans hf
        refine And.imp_left (rs_icT i_X8_stepTold_32 (ct_ne c4) (tg := 44) (by decide)) ?_
        refine And.imp_left (rs_iload_n i_X8_stepTold_44 rfl) ?_
        refine And.imp_left (rs_iconst i_X8_stepTold_45 (v := 2) (by decide)) ?_
        by_cases c5 : v2 ≠ 2
        · replace hf := (if_pos c5).symm.trans hf
          refine And.imp_left (rs_icT i_X8_stepTold_46 (ct_ne c5) (tg := 58) (by decide)) ?_
          refine And.imp_left (rs_iload_n i_X8_stepTold_58 rfl) ?_
          refine And.imp_left (rs_iconst i_X8_stepTold_59 (v := 3) (by decide)) ?_
          by_cases c6 : v2 ≠ 3
          · replace hf := (if_pos c6).symm.trans hf
            refine And.imp_left (rs_icT i_X8_stepTold_60 (ct_ne c6) (tg := 71) (by decide)) ?_
            refine And.imp_left (rs_bipush i_X8_stepTold_71 (v := (-7)) (by decide)) ?_
            have hf := Option.some.inj hf
            subst hf
            exact ⟨rs_iret i_X8_stepTold_73 m_X8_stepTold rfl, SH⟩
          · replace hf := (if_neg c6).symm.trans hf
            refine And.imp_left (rs_icF i_X8_stepTold_60 (cf_ne c6)) ?_
            refine And.imp_left (rs_aload_n i_X8_stepTold_63 rfl) ?_
            refine And.imp_left (rs_iload_n i_X8_stepTold_64 rfl) ?_
            obtain ⟨o7, e7, hf⟩ := bind_some hf
            obtain ⟨u7, SH2⟩ := k_X8_takesOf (X := X) (d := d) (by omega) (by omega) SH e7
            refine And.imp_left (rs_inV i_X8_stepTold_65 m_X8_takesOf rfl (As := [.int v1]) (rest := []) rfl rfl (Nat.le_of_ble_eq_true rfl) (sO8 SH hh) u7 (st' := [.int o7.1]) rfl) ?_
            clear SH; have SH := SH2; clear SH2
            refine And.imp_left (rs_goto i_X8_stepTold_68 (tg := 73) (by decide)) ?_
            have hf := Option.some.inj hf
            subst hf
            exact ⟨rs_iret i_X8_stepTold_73 m_X8_stepTold rfl, SH⟩
        · replace hf := (if_neg c5).symm.trans hf
          refine And.imp_left (rs_icF i_X8_stepTold_46 (cf_ne c5)) ?_
          refine And.imp_left (rs_aload_n i_X8_stepTold_49 rfl) ?_
          refine And.imp_left (rs_getR i_X8_stepTold_50 (by decide) (by decide) (sO8 SH hh) (sR8_8 SH hh)) ?_
          refine And.imp_left (rs_iload_n i_X8_stepTold_53 rfl) ?_
          obtain ⟨c8, hf⟩ := ite_some hf
          refine And.imp_left (rs_iald i_X8_stepTold_54 (mkI (sA SH hh (k := 9) (n := 12) (by decide)) c8)) ?_
          refine And.imp_left (rs_goto i_X8_stepTold_55 (tg := 73) (by decide)) ?_
          have hf := Option.some.inj hf
          subst hf
          exact ⟨rs_iret i_X8_stepTold_73 m_X8_stepTold rfl, SH⟩
      · replace hf := (if_neg c4).symm.trans hf
        refine And.imp_left (rs_icF i_X8_stepTold_32 (cf_ne c4)) ?_
        refine And.imp_left (rs_aload_n i_X8_stepTold_35 rfl) ?_
        refine And.imp_left (rs_getR i_X8_stepTold_36 (by decide) (by decide) (sO8 SH hh) (sR8_7 SH hh)) ?_
        refine And.imp_left (rs_iload_n i_X8_stepTold_39 rfl) ?_
        obtain ⟨c9, hf⟩ := ite_some hf
        refine And.imp_left (rs_iald i_X8_stepTold_40 (mkI (sA SH hh (k := 9) (n := 12) (by decide)) c9)) ?_
        refine And.imp_left (rs_goto i_X8_stepTold_41 (tg := 73) (by decide)) ?_
        have hf := Option.some.inj hf
        subst hf
        exact ⟨rs_iret i_X8_stepTold_73 m_X8_stepTold rfl, SH⟩
    · replace hf := (if_neg c3).symm.trans hf
      refine And.imp_left (rs_ifF i_X8_stepTold_18 (cf_ne c3)) ?_
      refine And.imp_left (rs_aload_n i_X8_stepTold_21 rfl) ?_
      refine And.imp_left (rs_getR i_X8_stepTold_22 (by decide) (by decide) (sO8 SH hh) (sR8_6 SH hh)) ?_
      refine And.imp_left (rs_iload_n i_X8_stepTold_25 rfl) ?_
      obtain ⟨c10, hf⟩ := ite_some hf
      refine And.imp_left (rs_iald i_X8_stepTold_26 (mkI (sA SH hh (k := 9) (n := 12) (by decide)) c10)) ?_
      refine And.imp_left (rs_goto i_X8_stepTold_27 (tg := 73) (by decide)) ?_
      have hf := Option.some.inj hf
      subst hf
      exact ⟨rs_iret i_X8_stepTold_73 m_X8_stepTold rfl, SH⟩
  · replace hf := (if_neg c2).symm.trans hf
    refine And.imp_left (rs_ifF i_X8_stepTold_11 (cf_ne c2)) ?_
    refine And.imp_left (rs_bipush i_X8_stepTold_14 (v := (-5)) (by decide)) ?_
    have hf := Option.some.inj hf
    subst hf
    exact ⟨rs_iret i_X8_stepTold_16 m_X8_stepTold rfl, SH⟩
noncomputable def g_X8_stepTold (v1 : Int32) (v2 : Int32) (h : Hp) : Option (Int32 × Hp) := g_X8_stepTold_0 v1 v2 h
theorem k_X8_stepTold {X : Nat → Int32} {d : Nat} (hd : 1 ≤ d) {L hi : Nat} (hh : 125 ≤ hi) {v1 : Int32} {v2 : Int32} {h : Hp} {o : (Int32 × Hp)}  (SH : SHP L hi h) (hf : g_X8_stepTold v1 v2 h = some o) : Calls X d 153 [.ref 96, .int v1, .int v2] h (some (.int o.1), o.2) ∧ SHP L hi o.2 := by
  obtain ⟨d, rfl⟩ : ∃ z, d = z + 1 := ⟨d - 1, by omega⟩
  obtain ⟨r, S2⟩ := q_X8_stepTold_0 hd hh SH hf
  exact ⟨⟨_, rfl, r⟩, S2⟩
noncomputable def g_X8_thickOf_0 (v1 : Int32) (h : Hp) : Option (Int32 × Hp) :=
  if inb v1 12 = true then
  if ¬ (gI h 116 (ix v1)) = 0 then
  some (((gI h 115 (ix v1)) / (gI h 116 (ix v1))), h)
  else none
  else none
set_option maxRecDepth 100000 in
set_option maxHeartbeats 4000000 in
theorem q_X8_thickOf_0 {X : Nat → Int32} {d : Nat} (hd : 0 ≤ d) {L hi : Nat} (hh : 125 ≤ hi) {v1 : Int32} {h : Hp} {o : (Int32 × Hp)}  (SH : SHP L hi h) (hf : g_X8_thickOf_0 v1 h = some o) : Run X d 154 0 [some (.ref 96), some (.int v1)] [] h (some (.int o.1), o.2) ∧ SHP L hi o.2 := by
  unfold g_X8_thickOf_0 at hf
  refine And.imp_left (rs_aload_n i_X8_thickOf_0 rfl) ?_
  refine And.imp_left (rs_getR i_X8_thickOf_1 (by decide) (by decide) (sO8 SH hh) (sR8_37 SH hh)) ?_
  refine And.imp_left (rs_iload_n i_X8_thickOf_4 rfl) ?_
  obtain ⟨c1, hf⟩ := ite_some hf
  refine And.imp_left (rs_iald i_X8_thickOf_5 (mkI (sA SH hh (k := 9) (n := 12) (by decide)) c1)) ?_
  refine And.imp_left (rs_aload_n i_X8_thickOf_6 rfl) ?_
  refine And.imp_left (rs_getR i_X8_thickOf_7 (by decide) (by decide) (sO8 SH hh) (sR8_38 SH hh)) ?_
  refine And.imp_left (rs_iload_n i_X8_thickOf_10 rfl) ?_
  refine And.imp_left (rs_iald i_X8_thickOf_11 (mkI (sA SH hh (k := 9) (n := 12) (by decide)) c1)) ?_
  obtain ⟨c2, hf⟩ := ite_some hf
  refine And.imp_left (rs_idiv i_X8_thickOf_12 c2) ?_
  have hf := Option.some.inj hf
  subst hf
  exact ⟨rs_iret i_X8_thickOf_13 m_X8_thickOf rfl, SH⟩
noncomputable def g_X8_thickOf (v1 : Int32) (h : Hp) : Option (Int32 × Hp) := g_X8_thickOf_0 v1 h
theorem k_X8_thickOf {X : Nat → Int32} {d : Nat} (hd : 0 ≤ d) {L hi : Nat} (hh : 125 ≤ hi) {v1 : Int32} {h : Hp} {o : (Int32 × Hp)}  (SH : SHP L hi h) (hf : g_X8_thickOf v1 h = some o) : Calls X d 154 [.ref 96, .int v1] h (some (.int o.1), o.2) ∧ SHP L hi o.2 := by
  obtain ⟨r, S2⟩ := q_X8_thickOf_0 hd hh SH hf
  exact ⟨⟨_, rfl, r⟩, S2⟩
noncomputable def g_X8_asks_60 (n : Nat) (v1 : Int32) (h : Hp) : Option (Int32 × Hp) :=
  (g_X8_worth n v1 h).bind fun o1 =>
  some (o1.1, o1.2)
set_option maxRecDepth 100000 in
set_option maxHeartbeats 4000000 in
theorem q_X8_asks_60 {X : Nat → Int32} {d : Nat} (hd : 2 ≤ (d + 1)) {L hi : Nat} (hh : 125 ≤ hi) {n : Nat} {v1 : Int32} {d2 : Int32} {d3 : Int32} {h : Hp} {o : (Int32 × Hp)}  (SH : SHP L hi h) (hf : g_X8_asks_60 n v1 h = some o) : Run X (d + 1) 155 60 [some (.ref 96), some (.int v1), some (.int d2), some (.int d3)] [] h (some (.int o.1), o.2) ∧ SHP L hi o.2 := by
  unfold g_X8_asks_60 at hf
  refine And.imp_left (rs_aload_n i_X8_asks_60 rfl) ?_
  refine And.imp_left (rs_iload_n i_X8_asks_61 rfl) ?_
  obtain ⟨o1, e1, hf⟩ := bind_some hf
  obtain ⟨u1, SH2⟩ := k_X8_worth (X := X) (d := d) (by omega) (by omega) SH e1
  refine And.imp_left (rs_inV i_X8_asks_62 m_X8_worth rfl (As := [.int v1]) (rest := []) rfl rfl (Nat.le_of_ble_eq_true rfl) (sO8 SH hh) u1 (st' := [.int o1.1]) rfl) ?_
  clear SH; have SH := SH2; clear SH2
  have hf := Option.some.inj hf
  subst hf
  exact ⟨rs_iret i_X8_asks_65 m_X8_asks rfl, SH⟩
noncomputable def g_X8_asks_50 (n : Nat) (v1 : Int32) (h : Hp) : Option (Int32 × Hp) :=
  g_X8_asks_60 n v1 (hsi h 114 (ix 5) (gI h 96 41))
set_option maxRecDepth 100000 in
set_option maxHeartbeats 4000000 in
theorem q_X8_asks_50 {X : Nat → Int32} {d : Nat} (hd : 2 ≤ (d + 1)) {L hi : Nat} (hh : 125 ≤ hi) {n : Nat} {v1 : Int32} {d2 : Int32} {d3 : Int32} {h : Hp} {o : (Int32 × Hp)}  (SH : SHP L hi h) (hf : g_X8_asks_50 n v1 h = some o) : Run X (d + 1) 155 50 [some (.ref 96), some (.int v1), some (.int d2), some (.int d3)] [] h (some (.int o.1), o.2) ∧ SHP L hi o.2 := by
  unfold g_X8_asks_50 at hf
  refine And.imp_left (rs_aload_n i_X8_asks_50 rfl) ?_
  refine And.imp_left (rs_getR i_X8_asks_51 (by decide) (by decide) (sO8 SH hh) (sR8_36 SH hh)) ?_
  refine And.imp_left (rs_iconst i_X8_asks_54 (v := 5) (by decide)) ?_
  refine And.imp_left (rs_aload_n i_X8_asks_55 rfl) ?_
  refine And.imp_left (rs_getI i_X8_asks_56 (by decide) (by decide) (sO8 SH hh)) ?_
  refine And.imp_left (rs_iast i_X8_asks_59 (mkI (sA SH hh (k := 9) (n := 6) (by decide)) (by decide))) ?_
  have SH := shi SH 114 (ix 5) (gI h 96 41)
  exact q_X8_asks_60 hd hh SH hf
noncomputable def g_X8_asks_40 (n : Nat) (v1 : Int32) (h : Hp) : Option (Int32 × Hp) :=
  g_X8_asks_50 n v1 (hsi h 114 (ix 4) (gI h 96 40))
set_option maxRecDepth 100000 in
set_option maxHeartbeats 4000000 in
theorem q_X8_asks_40 {X : Nat → Int32} {d : Nat} (hd : 2 ≤ (d + 1)) {L hi : Nat} (hh : 125 ≤ hi) {n : Nat} {v1 : Int32} {d2 : Int32} {d3 : Int32} {h : Hp} {o : (Int32 × Hp)}  (SH : SHP L hi h) (hf : g_X8_asks_40 n v1 h = some o) : Run X (d + 1) 155 40 [some (.ref 96), some (.int v1), some (.int d2), some (.int d3)] [] h (some (.int o.1), o.2) ∧ SHP L hi o.2 := by
  unfold g_X8_asks_40 at hf
  refine And.imp_left (rs_aload_n i_X8_asks_40 rfl) ?_
  refine And.imp_left (rs_getR i_X8_asks_41 (by decide) (by decide) (sO8 SH hh) (sR8_36 SH hh)) ?_
  refine And.imp_left (rs_iconst i_X8_asks_44 (v := 4) (by decide)) ?_
  refine And.imp_left (rs_aload_n i_X8_asks_45 rfl) ?_
  refine And.imp_left (rs_getI i_X8_asks_46 (by decide) (by decide) (sO8 SH hh)) ?_
  refine And.imp_left (rs_iast i_X8_asks_49 (mkI (sA SH hh (k := 9) (n := 6) (by decide)) (by decide))) ?_
  have SH := shi SH 114 (ix 4) (gI h 96 40)
  exact q_X8_asks_50 hd hh SH hf
noncomputable def g_X8_asks_33 (n : Nat) (v1 : Int32) (v3 : Int32) (h : Hp) : Option (Int32 × Hp) :=
  g_X8_asks_40 n v1 (hsi h 114 (ix 3) v3)
set_option maxRecDepth 100000 in
set_option maxHeartbeats 4000000 in
theorem q_X8_asks_33 {X : Nat → Int32} {d : Nat} (hd : 2 ≤ (d + 1)) {L hi : Nat} (hh : 125 ≤ hi) {n : Nat} {v1 : Int32} {v3 : Int32} {d2 : Int32} {h : Hp} {o : (Int32 × Hp)}  (SH : SHP L hi h) (hf : g_X8_asks_33 n v1 v3 h = some o) : Run X (d + 1) 155 33 [some (.ref 96), some (.int v1), some (.int d2), some (.int v3)] [] h (some (.int o.1), o.2) ∧ SHP L hi o.2 := by
  unfold g_X8_asks_33 at hf
  refine And.imp_left (rs_aload_n i_X8_asks_33 rfl) ?_
  refine And.imp_left (rs_getR i_X8_asks_34 (by decide) (by decide) (sO8 SH hh) (sR8_36 SH hh)) ?_
  refine And.imp_left (rs_iconst i_X8_asks_37 (v := 3) (by decide)) ?_
  refine And.imp_left (rs_iload_n i_X8_asks_38 rfl) ?_
  refine And.imp_left (rs_iast i_X8_asks_39 (mkI (sA SH hh (k := 9) (n := 6) (by decide)) (by decide))) ?_
  have SH := shi SH 114 (ix 3) v3
  exact q_X8_asks_40 hd hh SH hf
noncomputable def g_X8_asks_21 (n : Nat) (v1 : Int32) (v2 : Int32) (v3 : Int32) (h : Hp) : Option (Int32 × Hp) :=
  if inb v2 12 = true then
  g_X8_asks_33 n v1 v3 (hsi h 114 (ix 2) (gI h 117 (ix v2)))
  else none
set_option maxRecDepth 100000 in
set_option maxHeartbeats 4000000 in
theorem q_X8_asks_21 {X : Nat → Int32} {d : Nat} (hd : 2 ≤ (d + 1)) {L hi : Nat} (hh : 125 ≤ hi) {n : Nat} {v1 : Int32} {v2 : Int32} {v3 : Int32} {h : Hp} {o : (Int32 × Hp)}  (SH : SHP L hi h) (hf : g_X8_asks_21 n v1 v2 v3 h = some o) : Run X (d + 1) 155 21 [some (.ref 96), some (.int v1), some (.int v2), some (.int v3)] [] h (some (.int o.1), o.2) ∧ SHP L hi o.2 := by
  unfold g_X8_asks_21 at hf
  refine And.imp_left (rs_aload_n i_X8_asks_21 rfl) ?_
  refine And.imp_left (rs_getR i_X8_asks_22 (by decide) (by decide) (sO8 SH hh) (sR8_36 SH hh)) ?_
  refine And.imp_left (rs_iconst i_X8_asks_25 (v := 2) (by decide)) ?_
  refine And.imp_left (rs_aload_n i_X8_asks_26 rfl) ?_
  refine And.imp_left (rs_getR i_X8_asks_27 (by decide) (by decide) (sO8 SH hh) (sR8_39 SH hh)) ?_
  refine And.imp_left (rs_iload_n i_X8_asks_30 rfl) ?_
  obtain ⟨c1, hf⟩ := ite_some hf
  refine And.imp_left (rs_iald i_X8_asks_31 (mkI (sA SH hh (k := 9) (n := 12) (by decide)) c1)) ?_
  refine And.imp_left (rs_iast i_X8_asks_32 (mkI (sA SH hh (k := 9) (n := 6) (by decide)) (by decide))) ?_
  have SH := shi SH 114 (ix 2) (gI h 117 (ix v2))
  exact q_X8_asks_33 hd hh SH hf
noncomputable def g_X8_asks_10 (n : Nat) (v1 : Int32) (v2 : Int32) (v3 : Int32) (h : Hp) : Option (Int32 × Hp) :=
  (g_X8_thickOf v2 h).bind fun o1 =>
  g_X8_asks_21 n v1 v2 v3 (hsi o1.2 114 (ix 1) o1.1)
set_option maxRecDepth 100000 in
set_option maxHeartbeats 4000000 in
theorem q_X8_asks_10 {X : Nat → Int32} {d : Nat} (hd : 2 ≤ (d + 1)) {L hi : Nat} (hh : 125 ≤ hi) {n : Nat} {v1 : Int32} {v2 : Int32} {v3 : Int32} {h : Hp} {o : (Int32 × Hp)}  (SH : SHP L hi h) (hf : g_X8_asks_10 n v1 v2 v3 h = some o) : Run X (d + 1) 155 10 [some (.ref 96), some (.int v1), some (.int v2), some (.int v3)] [] h (some (.int o.1), o.2) ∧ SHP L hi o.2 := by
  unfold g_X8_asks_10 at hf
  refine And.imp_left (rs_aload_n i_X8_asks_10 rfl) ?_
  refine And.imp_left (rs_getR i_X8_asks_11 (by decide) (by decide) (sO8 SH hh) (sR8_36 SH hh)) ?_
  refine And.imp_left (rs_iconst i_X8_asks_14 (v := 1) (by decide)) ?_
  refine And.imp_left (rs_aload_n i_X8_asks_15 rfl) ?_
  refine And.imp_left (rs_iload_n i_X8_asks_16 rfl) ?_
  obtain ⟨o1, e1, hf⟩ := bind_some hf
  obtain ⟨u1, SH2⟩ := k_X8_thickOf (X := X) (d := d) (by omega) (by omega) SH e1
  refine And.imp_left (rs_inV i_X8_asks_17 m_X8_thickOf rfl (As := [.int v2]) (rest := [.int 1, .ref 114]) rfl rfl (Nat.le_of_ble_eq_true rfl) (sO8 SH hh) u1 (st' := [.int o1.1, .int 1, .ref 114]) rfl) ?_
  clear SH; have SH := SH2; clear SH2
  refine And.imp_left (rs_iast i_X8_asks_20 (mkI (sA SH hh (k := 9) (n := 6) (by decide)) (by decide))) ?_
  have SH := shi SH 114 (ix 1) o1.1
  exact q_X8_asks_21 hd hh SH hf
noncomputable def g_X8_asks_0 (n : Nat) (v1 : Int32) (v2 : Int32) (v3 : Int32) (h : Hp) : Option (Int32 × Hp) :=
  g_X8_asks_10 n v1 v2 v3 (hsi h 114 (ix 0) (gI h 96 2))
set_option maxRecDepth 100000 in
set_option maxHeartbeats 4000000 in
theorem q_X8_asks_0 {X : Nat → Int32} {d : Nat} (hd : 2 ≤ (d + 1)) {L hi : Nat} (hh : 125 ≤ hi) {n : Nat} {v1 : Int32} {v2 : Int32} {v3 : Int32} {h : Hp} {o : (Int32 × Hp)}  (SH : SHP L hi h) (hf : g_X8_asks_0 n v1 v2 v3 h = some o) : Run X (d + 1) 155 0 [some (.ref 96), some (.int v1), some (.int v2), some (.int v3)] [] h (some (.int o.1), o.2) ∧ SHP L hi o.2 := by
  unfold g_X8_asks_0 at hf
  refine And.imp_left (rs_aload_n i_X8_asks_0 rfl) ?_
  refine And.imp_left (rs_getR i_X8_asks_1 (by decide) (by decide) (sO8 SH hh) (sR8_36 SH hh)) ?_
  refine And.imp_left (rs_iconst i_X8_asks_4 (v := 0) (by decide)) ?_
  refine And.imp_left (rs_aload_n i_X8_asks_5 rfl) ?_
  refine And.imp_left (rs_getI i_X8_asks_6 (by decide) (by decide) (sO8 SH hh)) ?_
  refine And.imp_left (rs_iast i_X8_asks_9 (mkI (sA SH hh (k := 9) (n := 6) (by decide)) (by decide))) ?_
  have SH := shi SH 114 (ix 0) (gI h 96 2)
  exact q_X8_asks_10 hd hh SH hf
noncomputable def g_X8_asks (n : Nat) (v1 : Int32) (v2 : Int32) (v3 : Int32) (h : Hp) : Option (Int32 × Hp) := g_X8_asks_0 n v1 v2 v3 h
theorem k_X8_asks {X : Nat → Int32} {d : Nat} (hd : 2 ≤ d) {L hi : Nat} (hh : 125 ≤ hi) {n : Nat} {v1 : Int32} {v2 : Int32} {v3 : Int32} {h : Hp} {o : (Int32 × Hp)}  (SH : SHP L hi h) (hf : g_X8_asks n v1 v2 v3 h = some o) : Calls X d 155 [.ref 96, .int v1, .int v2, .int v3] h (some (.int o.1), o.2) ∧ SHP L hi o.2 := by
  obtain ⟨d, rfl⟩ : ∃ z, d = z + 1 := ⟨d - 1, by omega⟩
  obtain ⟨r, S2⟩ := q_X8_asks_0 hd hh SH hf
  exact ⟨⟨_, rfl, r⟩, S2⟩
noncomputable def g_X8_allLength_4 (n : Nat) : Nat → Int32 → Int32 → Hp → Option (Int32 × Hp)
  | 0, _, _, _ => none
  | m + 1, v1, v2, h =>
    if 12 ≤ v2 then
      some (v1, h)
    else
      if inb v2 12 = true then
      (g_X8_allLength_4 n m) (v1 + (gI h 116 (ix v2))) (v2 + 1) h
      else none
set_option maxRecDepth 100000 in
set_option maxHeartbeats 4000000 in
theorem q_X8_allLength_4 {X : Nat → Int32} {d : Nat} (hd : 0 ≤ d) {L hi : Nat} (hh : 125 ≤ hi) {n : Nat} : ∀ (m : Nat) (v1 : Int32) (v2 : Int32) (h : Hp) (o : (Int32 × Hp)), SHP L hi h → g_X8_allLength_4 n m v1 v2 h = some o → Run X d 156 4 [some (.ref 96), some (.int v1), some (.int v2)] [] h (some (.int o.1), o.2) ∧ SHP L hi o.2 := by
  intro m
  induction m with
  | zero => intro v1 v2 h o SH hf; cases hf
  | succ m ih =>
    intro v1 v2 h o SH hf
    rw [g_X8_allLength_4] at hf
    refine And.imp_left (rs_iload_n i_X8_allLength_4 rfl) ?_
    refine And.imp_left (rs_bipush i_X8_allLength_5 (v := 12) (by decide)) ?_
    by_cases c1 : 12 ≤ v2
    · replace hf := (if_pos c1).symm.trans hf
      refine And.imp_left (rs_icT i_X8_allLength_7 (ct_ge c1) (tg := 25) (by decide)) ?_
      refine And.imp_left (rs_iload_n i_X8_allLength_25 rfl) ?_
      have hf := Option.some.inj hf
      subst hf
      exact ⟨rs_iret i_X8_allLength_26 m_X8_allLength rfl, SH⟩
    · replace hf := (if_neg c1).symm.trans hf
      refine And.imp_left (rs_icF i_X8_allLength_7 (cf_ge c1)) ?_
      refine And.imp_left (rs_iload_n i_X8_allLength_10 rfl) ?_
      refine And.imp_left (rs_aload_n i_X8_allLength_11 rfl) ?_
      refine And.imp_left (rs_getR i_X8_allLength_12 (by decide) (by decide) (sO8 SH hh) (sR8_38 SH hh)) ?_
      refine And.imp_left (rs_iload_n i_X8_allLength_15 rfl) ?_
      obtain ⟨c2, hf⟩ := ite_some hf
      refine And.imp_left (rs_iald i_X8_allLength_16 (mkI (sA SH hh (k := 9) (n := 12) (by decide)) c2)) ?_
      refine And.imp_left (rs_iadd i_X8_allLength_17) ?_
      refine And.imp_left (rs_istore_n i_X8_allLength_18 (Nat.le_of_ble_eq_true rfl) (lv' := [some (.ref 96), some (.int (v1 + (gI h 116 (ix v2)))), some (.int v2)]) rfl) ?_
      refine And.imp_left (rs_iinc i_X8_allLength_19 rfl (v := v2 + 1) rfl (Nat.le_of_ble_eq_true rfl) (lv' := [some (.ref 96), some (.int (v1 + (gI h 116 (ix v2)))), some (.int (v2 + 1))]) rfl) ?_
      refine And.imp_left (rs_goto i_X8_allLength_22 (tg := 4) (by decide)) ?_
      exact ih _ _ _ _ SH hf
noncomputable def g_X8_allLength_0 (n : Nat)  (h : Hp) : Option (Int32 × Hp) :=
  g_X8_allLength_4 n n 0 0 h
set_option maxRecDepth 100000 in
set_option maxHeartbeats 4000000 in
theorem q_X8_allLength_0 {X : Nat → Int32} {d : Nat} (hd : 0 ≤ d) {L hi : Nat} (hh : 125 ≤ hi) {n : Nat}  {h : Hp} {o : (Int32 × Hp)}  (SH : SHP L hi h) (hf : g_X8_allLength_0 n h = some o) : Run X d 156 0 [some (.ref 96), none, none] [] h (some (.int o.1), o.2) ∧ SHP L hi o.2 := by
  unfold g_X8_allLength_0 at hf
  refine And.imp_left (rs_iconst i_X8_allLength_0 (v := 0) (by decide)) ?_
  refine And.imp_left (rs_istore_n i_X8_allLength_1 (Nat.le_of_ble_eq_true rfl) (lv' := [some (.ref 96), some (.int 0), none]) rfl) ?_
  refine And.imp_left (rs_iconst i_X8_allLength_2 (v := 0) (by decide)) ?_
  refine And.imp_left (rs_istore_n i_X8_allLength_3 (Nat.le_of_ble_eq_true rfl) (lv' := [some (.ref 96), some (.int 0), some (.int 0)]) rfl) ?_
  exact q_X8_allLength_4 hd hh _ _ _ _ _ SH hf
noncomputable def g_X8_allLength (n : Nat)  (h : Hp) : Option (Int32 × Hp) := g_X8_allLength_0 n h
theorem k_X8_allLength {X : Nat → Int32} {d : Nat} (hd : 0 ≤ d) {L hi : Nat} (hh : 125 ≤ hi) {n : Nat}  {h : Hp} {o : (Int32 × Hp)}  (SH : SHP L hi h) (hf : g_X8_allLength n h = some o) : Calls X d 156 [.ref 96] h (some (.int o.1), o.2) ∧ SHP L hi o.2 := by
  obtain ⟨r, S2⟩ := q_X8_allLength_0 hd hh SH hf
  exact ⟨⟨_, rfl, r⟩, S2⟩
noncomputable def g_X8_drawsMore_25  (h : Hp) : Option (Int32 × Hp) :=
  some (((Int64.toInt32 ((gL' h 96 46) - (gL' h 96 46) / 5 * 5)) - 2), h)
set_option maxRecDepth 100000 in
set_option maxHeartbeats 4000000 in
theorem q_X8_drawsMore_25 {X : Nat → Int32} {d : Nat} (hd : 0 ≤ d) {L hi : Nat} (hh : 125 ≤ hi)  {h : Hp} {o : (Int32 × Hp)}  (SH : SHP L hi h) (hf : g_X8_drawsMore_25 h = some o) : Run X d 157 25 [some (.ref 96)] [] h (some (.int o.1), o.2) ∧ SHP L hi o.2 := by
  unfold g_X8_drawsMore_25 at hf
  refine And.imp_left (rs_aload_n i_X8_drawsMore_25 rfl) ?_
  refine And.imp_left (rs_getL i_X8_drawsMore_26 (by decide) (by decide) (sO8 SH hh)) ?_
  refine And.imp_left (rs_ldc2 i_X8_drawsMore_29 (v := 5) (by decide)) ?_
  refine And.imp_left (rs_lrem i_X8_drawsMore_32 (by decide)) ?_
  refine And.imp_left (rs_l2i i_X8_drawsMore_33) ?_
  refine And.imp_left (rs_iconst i_X8_drawsMore_34 (v := 2) (by decide)) ?_
  refine And.imp_left (rs_isub i_X8_drawsMore_35) ?_
  have hf := Option.some.inj hf
  subst hf
  exact ⟨rs_iret i_X8_drawsMore_36 m_X8_drawsMore rfl, SH⟩
noncomputable def g_X8_drawsMore_0  (h : Hp) : Option (Int32 × Hp) :=
  if (gI h 96 45) ≠ 0 then
    g_X8_drawsMore_25 (hsl h 96 46 (((gL' h 96 46) * 48271) - ((gL' h 96 46) * 48271) / 2147483647 * 2147483647))
  else
    some (0, h)
set_option maxRecDepth 100000 in
set_option maxHeartbeats 4000000 in
theorem q_X8_drawsMore_0 {X : Nat → Int32} {d : Nat} (hd : 0 ≤ d) {L hi : Nat} (hh : 125 ≤ hi)  {h : Hp} {o : (Int32 × Hp)}  (SH : SHP L hi h) (hf : g_X8_drawsMore_0 h = some o) : Run X d 157 0 [some (.ref 96)] [] h (some (.int o.1), o.2) ∧ SHP L hi o.2 := by
  unfold g_X8_drawsMore_0 at hf
  refine And.imp_left (rs_aload_n i_X8_drawsMore_0 rfl) ?_
  refine And.imp_left (rs_getI i_X8_drawsMore_1 (by decide) (by decide) (sO8 SH hh)) ?_
  by_cases c1 : (gI h 96 45) ≠ 0
  · replace hf := (if_pos c1).symm.trans hf
    refine And.imp_left (rs_ifT i_X8_drawsMore_4 (ct_ne c1) (tg := 9) (by decide)) ?_
    refine And.imp_left (rs_aload_n i_X8_drawsMore_9 rfl) ?_
    refine And.imp_left (rs_aload_n i_X8_drawsMore_10 rfl) ?_
    refine And.imp_left (rs_getL i_X8_drawsMore_11 (by decide) (by decide) (sO8 SH hh)) ?_
    refine And.imp_left (rs_ldc2 i_X8_drawsMore_14 (v := 48271) (by decide)) ?_
    refine And.imp_left (rs_lmul i_X8_drawsMore_17) ?_
    refine And.imp_left (rs_ldc2 i_X8_drawsMore_18 (v := 2147483647) (by decide)) ?_
    refine And.imp_left (rs_lrem i_X8_drawsMore_21 (by decide)) ?_
    refine And.imp_left (rs_putL i_X8_drawsMore_22 (by decide) (sO8 SH hh)) ?_
    have SH := shl SH 96 46 (((gL' h 96 46) * 48271) - ((gL' h 96 46) * 48271) / 2147483647 * 2147483647)
    exact q_X8_drawsMore_25 hd hh SH hf
  · replace hf := (if_neg c1).symm.trans hf
    refine And.imp_left (rs_ifF i_X8_drawsMore_4 (cf_ne c1)) ?_
    refine And.imp_left (rs_iconst i_X8_drawsMore_7 (v := 0) (by decide)) ?_
    have hf := Option.some.inj hf
    subst hf
    exact ⟨rs_iret i_X8_drawsMore_8 m_X8_drawsMore rfl, SH⟩
noncomputable def g_X8_drawsMore  (h : Hp) : Option (Int32 × Hp) := g_X8_drawsMore_0 h
theorem k_X8_drawsMore {X : Nat → Int32} {d : Nat} (hd : 0 ≤ d) {L hi : Nat} (hh : 125 ≤ hi)  {h : Hp} {o : (Int32 × Hp)}  (SH : SHP L hi h) (hf : g_X8_drawsMore h = some o) : Calls X d 157 [.ref 96] h (some (.int o.1), o.2) ∧ SHP L hi o.2 := by
  obtain ⟨r, S2⟩ := q_X8_drawsMore_0 hd hh SH hf
  exact ⟨⟨_, rfl, r⟩, S2⟩
noncomputable def g_X8_draws_258 (n : Nat) : Nat → Int32 → Int32 → Hp → Option Hp
  | 0, _, _, _ => none
  | m + 1, v2, v5, h =>
    if 12 ≤ v5 then
      some h
    else
      (g_X8_asks n 1 v5 v2 h).bind fun o2 =>
      (g_X8_within o2.1 0 100 o2.2).bind fun o3 =>
      (g_X8_draws_258 n m) v2 (v5 + 1) (hsl o3.2 96 43 (((gL' h 96 43) * (Int32.toInt64 (100 - o3.1))) / 100))
set_option maxRecDepth 100000 in
set_option maxHeartbeats 4000000 in
theorem q_X8_draws_258 {X : Nat → Int32} {d : Nat} (hd : 3 ≤ (d + 1)) {L hi : Nat} (hh : 125 ≤ hi) {n : Nat} : ∀ (m : Nat) (v2 : Int32) (v5 : Int32) (d1 : Int32) (d3 : Int32) (d4 : Int32) (w6 : Option Value) (h : Hp) (o : Hp), SHP L hi h → g_X8_draws_258 n m v2 v5 h = some o → Run X (d + 1) 158 258 [some (.ref 96), some (.int d1), some (.int v2), some (.int d3), some (.int d4), some (.int v5), w6] [] h (none, o) ∧ SHP L hi o := by
  intro m
  induction m with
  | zero => intro v2 v5 d1 d3 d4 w6 h o SH hf; cases hf
  | succ m ih =>
    intro v2 v5 d1 d3 d4 w6 h o SH hf
    rw [g_X8_draws_258] at hf
    refine And.imp_left (rs_iload i_X8_draws_258 rfl) ?_
    refine And.imp_left (rs_bipush i_X8_draws_260 (v := 12) (by decide)) ?_
    by_cases c1 : 12 ≤ v5
    · replace hf := (if_pos c1).symm.trans hf
      refine And.imp_left (rs_icT i_X8_draws_262 (ct_ge c1) (tg := 302) (by decide)) ?_
      have hf := Option.some.inj hf
      subst hf
      exact ⟨rs_vret i_X8_draws_302 m_X8_draws rfl, SH⟩
    · replace hf := (if_neg c1).symm.trans hf
      refine And.imp_left (rs_icF i_X8_draws_262 (cf_ge c1)) ?_
      refine And.imp_left (rs_aload_n i_X8_draws_265 rfl) ?_
      refine And.imp_left (rs_aload_n i_X8_draws_266 rfl) ?_
      refine And.imp_left (rs_getL i_X8_draws_267 (by decide) (by decide) (sO8 SH hh)) ?_
      refine And.imp_left (rs_bipush i_X8_draws_270 (v := 100) (by decide)) ?_
      refine And.imp_left (rs_aload_n i_X8_draws_272 rfl) ?_
      refine And.imp_left (rs_iconst i_X8_draws_273 (v := 1) (by decide)) ?_
      refine And.imp_left (rs_iload i_X8_draws_274 rfl) ?_
      refine And.imp_left (rs_iload_n i_X8_draws_276 rfl) ?_
      obtain ⟨o2, e2, hf⟩ := bind_some hf
      obtain ⟨u2, SH2⟩ := k_X8_asks (X := X) (d := d) (by omega) (by omega) SH e2
      refine And.imp_left (rs_inV i_X8_draws_277 m_X8_asks rfl (As := [.int 1, .int v5, .int v2]) (rest := [.int 100, .long (gL' h 96 43), .ref 96]) rfl rfl (Nat.le_of_ble_eq_true rfl) (sO8 SH hh) u2 (st' := [.int o2.1, .int 100, .long (gL' h 96 43), .ref 96]) rfl) ?_
      clear SH; have SH := SH2; clear SH2
      refine And.imp_left (rs_iconst i_X8_draws_280 (v := 0) (by decide)) ?_
      refine And.imp_left (rs_bipush i_X8_draws_281 (v := 100) (by decide)) ?_
      obtain ⟨o3, e3, hf⟩ := bind_some hf
      obtain ⟨u3, SH2⟩ := k_X8_within (X := X) (d := d) (by omega) (by omega) SH e3
      refine And.imp_left (rs_inS i_X8_draws_283 (by decide) m_X8_within rfl (As := [.int o2.1, .int 0, .int 100]) (rest := [.int 100, .long (gL' h 96 43), .ref 96]) rfl rfl (Nat.le_of_ble_eq_true rfl) u3 (st' := [.int o3.1, .int 100, .long (gL' h 96 43), .ref 96]) rfl) ?_
      clear SH; have SH := SH2; clear SH2
      refine And.imp_left (rs_isub i_X8_draws_286) ?_
      refine And.imp_left (rs_i2l i_X8_draws_287) ?_
      refine And.imp_left (rs_lmul i_X8_draws_288) ?_
      refine And.imp_left (rs_ldc2 i_X8_draws_289 (v := 100) (by decide)) ?_
      refine And.imp_left (rs_ldiv i_X8_draws_292 (by decide)) ?_
      refine And.imp_left (rs_putL i_X8_draws_293 (by decide) (sO8 SH hh)) ?_
      have SH := shl SH 96 43 (((gL' h 96 43) * (Int32.toInt64 (100 - o3.1))) / 100)
      refine And.imp_left (rs_iinc i_X8_draws_296 rfl (v := v5 + 1) rfl (Nat.le_of_ble_eq_true rfl) (lv' := [some (.ref 96), some (.int d1), some (.int v2), some (.int d3), some (.int d4), some (.int (v5 + 1)), w6]) rfl) ?_
      refine And.imp_left (rs_goto i_X8_draws_299 (tg := 258) (by decide)) ?_
      exact ih _ _ _ _ _ _ _ _ SH hf
noncomputable def g_X8_draws_248 (n : Nat) (K186 : Int32 → Int32 → Hp → Option Hp) (v2 : Int32) (v5 : Int32) (s0 : Nat) (s1 : Int32) (s2 : Int32) (h : Hp) : Option Hp :=
  if inb s1 12 = true then
  K186 v2 (v5 + 1) (hsi h s0 (ix s1) s2)
  else none
set_option maxRecDepth 100000 in
set_option maxHeartbeats 4000000 in
theorem q_X8_draws_248 {X : Nat → Int32} {d : Nat} (hd : 3 ≤ (d + 1)) {L hi : Nat} (hh : 125 ≤ hi) {n : Nat} {K186 : Int32 → Int32 → Hp → Option Hp} (HK186 : ∀ (v2 : Int32) (v5 : Int32) (d1 : Int32) (d3 : Int32) (d4 : Int32) (w6 : Option Value) (h : Hp) (o : Hp), SHP L hi h → K186 v2 v5 h = some o → Run X (d + 1) 158 186 [some (.ref 96), some (.int d1), some (.int v2), some (.int d3), some (.int d4), some (.int v5), w6] [] h (none, o) ∧ SHP L hi o) {v2 : Int32} {v5 : Int32} {s0 : Nat} {s1 : Int32} {s2 : Int32} {d1 : Int32} {d3 : Int32} {d4 : Int32} {d6 : Int32} {h : Hp} {o : Hp} (hs0 : ARY 125 s0 9 12) (SH : SHP L hi h) (hf : g_X8_draws_248 n K186 v2 v5 s0 s1 s2 h = some o) : Run X (d + 1) 158 248 [some (.ref 96), some (.int d1), some (.int v2), some (.int d3), some (.int d4), some (.int v5), some (.int d6)] [.int s2, .int s1, .ref s0] h (none, o) ∧ SHP L hi o := by
  unfold g_X8_draws_248 at hf
  obtain ⟨c1, hf⟩ := ite_some hf
  refine And.imp_left (rs_iast i_X8_draws_248 (mkI (sA SH hh (k := 9) (n := 12) hs0) c1)) ?_
  have SH := shi SH s0 (ix s1) s2
  refine And.imp_left (rs_iinc i_X8_draws_249 rfl (v := v5 + 1) rfl (Nat.le_of_ble_eq_true rfl) (lv' := [some (.ref 96), some (.int d1), some (.int v2), some (.int d3), some (.int d4), some (.int (v5 + 1)), some (.int d6)]) rfl) ?_
  refine And.imp_left (rs_goto i_X8_draws_252 (tg := 186) (by decide)) ?_
  exact HK186 _ _ _ _ _ _ _ _ SH hf
noncomputable def g_X8_draws_228 (n : Nat) (K186 : Int32 → Int32 → Hp → Option Hp) (v2 : Int32) (v5 : Int32) (v6 : Int32) (h : Hp) : Option Hp :=
  if v6 ≤ 99 then
    g_X8_draws_248 n K186 v2 v5 117 v5 v6 h
  else
    g_X8_draws_248 n K186 v2 v5 117 v5 99 h
set_option maxRecDepth 100000 in
set_option maxHeartbeats 4000000 in
theorem q_X8_draws_228 {X : Nat → Int32} {d : Nat} (hd : 3 ≤ (d + 1)) {L hi : Nat} (hh : 125 ≤ hi) {n : Nat} {K186 : Int32 → Int32 → Hp → Option Hp} (HK186 : ∀ (v2 : Int32) (v5 : Int32) (d1 : Int32) (d3 : Int32) (d4 : Int32) (w6 : Option Value) (h : Hp) (o : Hp), SHP L hi h → K186 v2 v5 h = some o → Run X (d + 1) 158 186 [some (.ref 96), some (.int d1), some (.int v2), some (.int d3), some (.int d4), some (.int v5), w6] [] h (none, o) ∧ SHP L hi o) {v2 : Int32} {v5 : Int32} {v6 : Int32} {d1 : Int32} {d3 : Int32} {d4 : Int32} {h : Hp} {o : Hp}  (SH : SHP L hi h) (hf : g_X8_draws_228 n K186 v2 v5 v6 h = some o) : Run X (d + 1) 158 228 [some (.ref 96), some (.int d1), some (.int v2), some (.int d3), some (.int d4), some (.int v5), some (.int v6)] [] h (none, o) ∧ SHP L hi o := by
  unfold g_X8_draws_228 at hf
  refine And.imp_left (rs_aload_n i_X8_draws_228 rfl) ?_
  refine And.imp_left (rs_getR i_X8_draws_229 (by decide) (by decide) (sO8 SH hh) (sR8_39 SH hh)) ?_
  refine And.imp_left (rs_iload i_X8_draws_232 rfl) ?_
  refine And.imp_left (rs_iload i_X8_draws_234 rfl) ?_
  refine And.imp_left (rs_bipush i_X8_draws_236 (v := 99) (by decide)) ?_
  by_cases c1 : v6 ≤ 99
  · replace hf := (if_pos c1).symm.trans hf
    refine And.imp_left (rs_icT i_X8_draws_238 (ct_le c1) (tg := 246) (by decide)) ?_
    refine And.imp_left (rs_iload i_X8_draws_246 rfl) ?_
    exact q_X8_draws_248 hd hh HK186 (by decide) SH hf
  · replace hf := (if_neg c1).symm.trans hf
    refine And.imp_left (rs_icF i_X8_draws_238 (cf_le c1)) ?_
    refine And.imp_left (rs_bipush i_X8_draws_241 (v := 99) (by decide)) ?_
    refine And.imp_left (rs_goto i_X8_draws_243 (tg := 248) (by decide)) ?_
    exact q_X8_draws_248 hd hh HK186 (by decide) SH hf
noncomputable def g_X8_draws_186 (n : Nat) : Nat → Int32 → Int32 → Hp → Option Hp
  | 0, _, _, _ => none
  | m + 1, v2, v5, h =>
    if 12 ≤ v5 then
      g_X8_draws_258 n n v2 0 h
    else
      if inb v5 12 = true then
      if ¬ (Int32.toInt64 (gI h 116 (ix v5))) = 0 then
      g_X8_draws_228 n (g_X8_draws_186 n m) v2 v5 ((gI h 117 (ix v5)) + (Int64.toInt32 ((((Int32.toInt64 (gI h 119 (ix v5))) * (Int32.toInt64 v2)) * 10) / (Int32.toInt64 (gI h 116 (ix v5)))))) h
      else none
      else none
set_option maxRecDepth 100000 in
set_option maxHeartbeats 4000000 in
theorem q_X8_draws_186 {X : Nat → Int32} {d : Nat} (hd : 3 ≤ (d + 1)) {L hi : Nat} (hh : 125 ≤ hi) {n : Nat} : ∀ (m : Nat) (v2 : Int32) (v5 : Int32) (d1 : Int32) (d3 : Int32) (d4 : Int32) (w6 : Option Value) (h : Hp) (o : Hp), SHP L hi h → g_X8_draws_186 n m v2 v5 h = some o → Run X (d + 1) 158 186 [some (.ref 96), some (.int d1), some (.int v2), some (.int d3), some (.int d4), some (.int v5), w6] [] h (none, o) ∧ SHP L hi o := by
  intro m
  induction m with
  | zero => intro v2 v5 d1 d3 d4 w6 h o SH hf; cases hf
  | succ m ih =>
    intro v2 v5 d1 d3 d4 w6 h o SH hf
    rw [g_X8_draws_186] at hf
    refine And.imp_left (rs_iload i_X8_draws_186 rfl) ?_
    refine And.imp_left (rs_bipush i_X8_draws_188 (v := 12) (by decide)) ?_
    by_cases c1 : 12 ≤ v5
    · replace hf := (if_pos c1).symm.trans hf
      refine And.imp_left (rs_icT i_X8_draws_190 (ct_ge c1) (tg := 255) (by decide)) ?_
      refine And.imp_left (rs_iconst i_X8_draws_255 (v := 0) (by decide)) ?_
      refine And.imp_left (rs_istore i_X8_draws_256 (Nat.le_of_ble_eq_true rfl) (lv' := [some (.ref 96), some (.int d1), some (.int v2), some (.int d3), some (.int d4), some (.int 0), w6]) rfl) ?_
      exact q_X8_draws_258 hd hh _ _ _ _ _ _ _ _ _ SH hf
    · replace hf := (if_neg c1).symm.trans hf
      refine And.imp_left (rs_icF i_X8_draws_190 (cf_ge c1)) ?_
      refine And.imp_left (rs_aload_n i_X8_draws_193 rfl) ?_
      refine And.imp_left (rs_getR i_X8_draws_194 (by decide) (by decide) (sO8 SH hh) (sR8_39 SH hh)) ?_
      refine And.imp_left (rs_iload i_X8_draws_197 rfl) ?_
      obtain ⟨c2, hf⟩ := ite_some hf
      refine And.imp_left (rs_iald i_X8_draws_199 (mkI (sA SH hh (k := 9) (n := 12) (by decide)) c2)) ?_
      refine And.imp_left (rs_aload_n i_X8_draws_200 rfl) ?_
      refine And.imp_left (rs_getR i_X8_draws_201 (by decide) (by decide) (sO8 SH hh) (sR8_48 SH hh)) ?_
      refine And.imp_left (rs_iload i_X8_draws_204 rfl) ?_
      refine And.imp_left (rs_iald i_X8_draws_206 (mkI (sA SH hh (k := 9) (n := 12) (by decide)) c2)) ?_
      refine And.imp_left (rs_i2l i_X8_draws_207) ?_
      refine And.imp_left (rs_iload_n i_X8_draws_208 rfl) ?_
      refine And.imp_left (rs_i2l i_X8_draws_209) ?_
      refine And.imp_left (rs_lmul i_X8_draws_210) ?_
      refine And.imp_left (rs_ldc2 i_X8_draws_211 (v := 10) (by decide)) ?_
      refine And.imp_left (rs_lmul i_X8_draws_214) ?_
      refine And.imp_left (rs_aload_n i_X8_draws_215 rfl) ?_
      refine And.imp_left (rs_getR i_X8_draws_216 (by decide) (by decide) (sO8 SH hh) (sR8_38 SH hh)) ?_
      refine And.imp_left (rs_iload i_X8_draws_219 rfl) ?_
      refine And.imp_left (rs_iald i_X8_draws_221 (mkI (sA SH hh (k := 9) (n := 12) (by decide)) c2)) ?_
      refine And.imp_left (rs_i2l i_X8_draws_222) ?_
      obtain ⟨c3, hf⟩ := ite_some hf
      refine And.imp_left (rs_ldiv i_X8_draws_223 c3) ?_
      refine And.imp_left (rs_l2i i_X8_draws_224) ?_
      refine And.imp_left (rs_iadd i_X8_draws_225) ?_
      refine And.imp_left (rs_istore i_X8_draws_226 (Nat.le_of_ble_eq_true rfl) (lv' := [some (.ref 96), some (.int d1), some (.int v2), some (.int d3), some (.int d4), some (.int v5), some (.int ((gI h 117 (ix v5)) + (Int64.toInt32 ((((Int32.toInt64 (gI h 119 (ix v5))) * (Int32.toInt64 v2)) * 10) / (Int32.toInt64 (gI h 116 (ix v5)))))))]) rfl) ?_
      exact q_X8_draws_228 hd hh ih SH hf
noncomputable def g_X8_draws_176 (n : Nat) (K110 : Int32 → Int32 → Int32 → Hp → Option Hp) (v2 : Int32) (v4 : Int32) (v5 : Int32) (s0 : Nat) (s1 : Int32) (s2 : Int32) (h : Hp) : Option Hp :=
  if inb s1 12 = true then
  K110 v2 v4 (v5 + 1) (hsi h s0 (ix s1) s2)
  else none
set_option maxRecDepth 100000 in
set_option maxHeartbeats 4000000 in
theorem q_X8_draws_176 {X : Nat → Int32} {d : Nat} (hd : 3 ≤ (d + 1)) {L hi : Nat} (hh : 125 ≤ hi) {n : Nat} {K110 : Int32 → Int32 → Int32 → Hp → Option Hp} (HK110 : ∀ (v2 : Int32) (v4 : Int32) (v5 : Int32) (d1 : Int32) (d3 : Int32) (w6 : Option Value) (h : Hp) (o : Hp), SHP L hi h → K110 v2 v4 v5 h = some o → Run X (d + 1) 158 110 [some (.ref 96), some (.int d1), some (.int v2), some (.int d3), some (.int v4), some (.int v5), w6] [] h (none, o) ∧ SHP L hi o) {v2 : Int32} {v4 : Int32} {v5 : Int32} {s0 : Nat} {s1 : Int32} {s2 : Int32} {d1 : Int32} {d3 : Int32} {d6 : Int32} {h : Hp} {o : Hp} (hs0 : ARY 125 s0 9 12) (SH : SHP L hi h) (hf : g_X8_draws_176 n K110 v2 v4 v5 s0 s1 s2 h = some o) : Run X (d + 1) 158 176 [some (.ref 96), some (.int d1), some (.int v2), some (.int d3), some (.int v4), some (.int v5), some (.int d6)] [.int s2, .int s1, .ref s0] h (none, o) ∧ SHP L hi o := by
  unfold g_X8_draws_176 at hf
  obtain ⟨c1, hf⟩ := ite_some hf
  refine And.imp_left (rs_iast i_X8_draws_176 (mkI (sA SH hh (k := 9) (n := 12) hs0) c1)) ?_
  have SH := shi SH s0 (ix s1) s2
  refine And.imp_left (rs_iinc i_X8_draws_177 rfl (v := v5 + 1) rfl (Nat.le_of_ble_eq_true rfl) (lv' := [some (.ref 96), some (.int d1), some (.int v2), some (.int d3), some (.int v4), some (.int (v5 + 1)), some (.int d6)]) rfl) ?_
  refine And.imp_left (rs_goto i_X8_draws_180 (tg := 110) (by decide)) ?_
  exact HK110 _ _ _ _ _ _ _ _ SH hf
noncomputable def g_X8_draws_139 (n : Nat) (K110 : Int32 → Int32 → Int32 → Hp → Option Hp) (v2 : Int32) (v4 : Int32) (v5 : Int32) (h : Hp) : Option Hp :=
  if inb v5 12 = true then
  if ((gI h 116 (ix v5)) + (gI h 119 (ix v5))) ≤ 1000000 then
    g_X8_draws_176 n K110 v2 v4 v5 116 v5 ((gI h 116 (ix v5)) + (gI h 119 (ix v5))) h
  else
    g_X8_draws_176 n K110 v2 v4 v5 116 v5 1000000 h
  else none
set_option maxRecDepth 100000 in
set_option maxHeartbeats 4000000 in
theorem q_X8_draws_139 {X : Nat → Int32} {d : Nat} (hd : 3 ≤ (d + 1)) {L hi : Nat} (hh : 125 ≤ hi) {n : Nat} {K110 : Int32 → Int32 → Int32 → Hp → Option Hp} (HK110 : ∀ (v2 : Int32) (v4 : Int32) (v5 : Int32) (d1 : Int32) (d3 : Int32) (w6 : Option Value) (h : Hp) (o : Hp), SHP L hi h → K110 v2 v4 v5 h = some o → Run X (d + 1) 158 110 [some (.ref 96), some (.int d1), some (.int v2), some (.int d3), some (.int v4), some (.int v5), w6] [] h (none, o) ∧ SHP L hi o) {v2 : Int32} {v4 : Int32} {v5 : Int32} {d1 : Int32} {d3 : Int32} {w6 : Option Value} {h : Hp} {o : Hp}  (SH : SHP L hi h) (hf : g_X8_draws_139 n K110 v2 v4 v5 h = some o) : Run X (d + 1) 158 139 [some (.ref 96), some (.int d1), some (.int v2), some (.int d3), some (.int v4), some (.int v5), w6] [] h (none, o) ∧ SHP L hi o := by
  unfold g_X8_draws_139 at hf
  refine And.imp_left (rs_aload_n i_X8_draws_139 rfl) ?_
  refine And.imp_left (rs_getR i_X8_draws_140 (by decide) (by decide) (sO8 SH hh) (sR8_38 SH hh)) ?_
  refine And.imp_left (rs_iload i_X8_draws_143 rfl) ?_
  obtain ⟨c1, hf⟩ := ite_some hf
  refine And.imp_left (rs_iald i_X8_draws_145 (mkI (sA SH hh (k := 9) (n := 12) (by decide)) c1)) ?_
  refine And.imp_left (rs_aload_n i_X8_draws_146 rfl) ?_
  refine And.imp_left (rs_getR i_X8_draws_147 (by decide) (by decide) (sO8 SH hh) (sR8_48 SH hh)) ?_
  refine And.imp_left (rs_iload i_X8_draws_150 rfl) ?_
  refine And.imp_left (rs_iald i_X8_draws_152 (mkI (sA SH hh (k := 9) (n := 12) (by decide)) c1)) ?_
  refine And.imp_left (rs_iadd i_X8_draws_153) ?_
  refine And.imp_left (rs_istore i_X8_draws_154 (Nat.le_of_ble_eq_true rfl) (lv' := [some (.ref 96), some (.int d1), some (.int v2), some (.int d3), some (.int v4), some (.int v5), some (.int ((gI h 116 (ix v5)) + (gI h 119 (ix v5))))]) rfl) ?_
  refine And.imp_left (rs_aload_n i_X8_draws_156 rfl) ?_
  refine And.imp_left (rs_getR i_X8_draws_157 (by decide) (by decide) (sO8 SH hh) (sR8_38 SH hh)) ?_
  refine And.imp_left (rs_iload i_X8_draws_160 rfl) ?_
  refine And.imp_left (rs_iload i_X8_draws_162 rfl) ?_
  refine And.imp_left (rs_ldc i_X8_draws_164 (v := 1000000) (by decide)) ?_
  by_cases c2 : ((gI h 116 (ix v5)) + (gI h 119 (ix v5))) ≤ 1000000
  · replace hf := (if_pos c2).symm.trans hf
    refine And.imp_left (rs_icT i_X8_draws_166 (ct_le c2) (tg := 174) (by decide)) ?_
    refine And.imp_left (rs_iload i_X8_draws_174 rfl) ?_
    exact q_X8_draws_176 hd hh HK110 (by decide) SH hf
  · replace hf := (if_neg c2).symm.trans hf
    refine And.imp_left (rs_icF i_X8_draws_166 (cf_le c2)) ?_
    refine And.imp_left (rs_ldc i_X8_draws_169 (v := 1000000) (by decide)) ?_
    refine And.imp_left (rs_goto i_X8_draws_171 (tg := 176) (by decide)) ?_
    exact q_X8_draws_176 hd hh HK110 (by decide) SH hf
noncomputable def g_X8_draws_137 (n : Nat) (K110 : Int32 → Int32 → Int32 → Hp → Option Hp) (v2 : Int32) (v4 : Int32) (v5 : Int32) (s0 : Nat) (s1 : Int32) (s2 : Int32) (s3 : Int32) (h : Hp) : Option Hp :=
  if inb s1 12 = true then
  g_X8_draws_139 n K110 v2 v4 v5 (hsi h s0 (ix s1) (s2 + s3))
  else none
set_option maxRecDepth 100000 in
set_option maxHeartbeats 4000000 in
theorem q_X8_draws_137 {X : Nat → Int32} {d : Nat} (hd : 3 ≤ (d + 1)) {L hi : Nat} (hh : 125 ≤ hi) {n : Nat} {K110 : Int32 → Int32 → Int32 → Hp → Option Hp} (HK110 : ∀ (v2 : Int32) (v4 : Int32) (v5 : Int32) (d1 : Int32) (d3 : Int32) (w6 : Option Value) (h : Hp) (o : Hp), SHP L hi h → K110 v2 v4 v5 h = some o → Run X (d + 1) 158 110 [some (.ref 96), some (.int d1), some (.int v2), some (.int d3), some (.int v4), some (.int v5), w6] [] h (none, o) ∧ SHP L hi o) {v2 : Int32} {v4 : Int32} {v5 : Int32} {s0 : Nat} {s1 : Int32} {s2 : Int32} {s3 : Int32} {d1 : Int32} {d3 : Int32} {w6 : Option Value} {h : Hp} {o : Hp} (hs0 : ARY 125 s0 9 12) (SH : SHP L hi h) (hf : g_X8_draws_137 n K110 v2 v4 v5 s0 s1 s2 s3 h = some o) : Run X (d + 1) 158 137 [some (.ref 96), some (.int d1), some (.int v2), some (.int d3), some (.int v4), some (.int v5), w6] [.int s3, .int s2, .int s1, .ref s0] h (none, o) ∧ SHP L hi o := by
  unfold g_X8_draws_137 at hf
  refine And.imp_left (rs_iadd i_X8_draws_137) ?_
  obtain ⟨c1, hf⟩ := ite_some hf
  refine And.imp_left (rs_iast i_X8_draws_138 (mkI (sA SH hh (k := 9) (n := 12) hs0) c1)) ?_
  have SH := shi SH s0 (ix s1) (s2 + s3)
  exact q_X8_draws_139 hd hh HK110 SH hf
noncomputable def g_X8_draws_110 (n : Nat) : Nat → Int32 → Int32 → Int32 → Hp → Option Hp
  | 0, _, _, _, _ => none
  | m + 1, v2, v4, v5, h =>
    if 12 ≤ v5 then
      g_X8_draws_186 n n v2 0 h
    else
      if inb v5 12 = true then
      if v4 ≤ v5 then
        g_X8_draws_137 n (g_X8_draws_110 n m) v2 v4 v5 119 v5 (gI h 119 (ix v5)) 0 h
      else
        g_X8_draws_137 n (g_X8_draws_110 n m) v2 v4 v5 119 v5 (gI h 119 (ix v5)) 1 h
      else none
set_option maxRecDepth 100000 in
set_option maxHeartbeats 4000000 in
theorem q_X8_draws_110 {X : Nat → Int32} {d : Nat} (hd : 3 ≤ (d + 1)) {L hi : Nat} (hh : 125 ≤ hi) {n : Nat} : ∀ (m : Nat) (v2 : Int32) (v4 : Int32) (v5 : Int32) (d1 : Int32) (d3 : Int32) (w6 : Option Value) (h : Hp) (o : Hp), SHP L hi h → g_X8_draws_110 n m v2 v4 v5 h = some o → Run X (d + 1) 158 110 [some (.ref 96), some (.int d1), some (.int v2), some (.int d3), some (.int v4), some (.int v5), w6] [] h (none, o) ∧ SHP L hi o := by
  intro m
  induction m with
  | zero => intro v2 v4 v5 d1 d3 w6 h o SH hf; cases hf
  | succ m ih =>
    intro v2 v4 v5 d1 d3 w6 h o SH hf
    rw [g_X8_draws_110] at hf
    refine And.imp_left (rs_iload i_X8_draws_110 rfl) ?_
    refine And.imp_left (rs_bipush i_X8_draws_112 (v := 12) (by decide)) ?_
    by_cases c1 : 12 ≤ v5
    · replace hf := (if_pos c1).symm.trans hf
      refine And.imp_left (rs_icT i_X8_draws_114 (ct_ge c1) (tg := 183) (by decide)) ?_
      refine And.imp_left (rs_iconst i_X8_draws_183 (v := 0) (by decide)) ?_
      refine And.imp_left (rs_istore i_X8_draws_184 (Nat.le_of_ble_eq_true rfl) (lv' := [some (.ref 96), some (.int d1), some (.int v2), some (.int d3), some (.int v4), some (.int 0), w6]) rfl) ?_
      exact q_X8_draws_186 hd hh _ _ _ _ _ _ _ _ _ SH hf
    · replace hf := (if_neg c1).symm.trans hf
      refine And.imp_left (rs_icF i_X8_draws_114 (cf_ge c1)) ?_
      refine And.imp_left (rs_aload_n i_X8_draws_117 rfl) ?_
      refine And.imp_left (rs_getR i_X8_draws_118 (by decide) (by decide) (sO8 SH hh) (sR8_48 SH hh)) ?_
      refine And.imp_left (rs_iload i_X8_draws_121 rfl) ?_
      refine And.imp_left (rs_dup2 i_X8_draws_123 ⟨rfl, rfl⟩) ?_
      obtain ⟨c2, hf⟩ := ite_some hf
      refine And.imp_left (rs_iald i_X8_draws_124 (mkI (sA SH hh (k := 9) (n := 12) (by decide)) c2)) ?_
      refine And.imp_left (rs_iload i_X8_draws_125 rfl) ?_
      refine And.imp_left (rs_iload i_X8_draws_127 rfl) ?_
      by_cases c3 : v4 ≤ v5
      · replace hf := (if_pos c3).symm.trans hf
        refine And.imp_left (rs_icT i_X8_draws_129 (ct_ge c3) (tg := 136) (by decide)) ?_
        refine And.imp_left (rs_iconst i_X8_draws_136 (v := 0) (by decide)) ?_
        exact q_X8_draws_137 hd hh ih (by decide) SH hf
      · replace hf := (if_neg c3).symm.trans hf
        refine And.imp_left (rs_icF i_X8_draws_129 (cf_ge c3)) ?_
        refine And.imp_left (rs_iconst i_X8_draws_132 (v := 1) (by decide)) ?_
        refine And.imp_left (rs_goto i_X8_draws_133 (tg := 137) (by decide)) ?_
        exact q_X8_draws_137 hd hh ih (by decide) SH hf
noncomputable def g_X8_draws_89 (n : Nat) (K60 : Int32 → Int32 → Int32 → Int32 → Int32 → Hp → Option Hp) (v1 : Int32) (v2 : Int32) (v3 : Int32) (v4 : Int32) (v5 : Int32) (h : Hp) : Option Hp :=
  if inb v5 12 = true then
  K60 v1 v2 v3 (v4 - (gI h 119 (ix v5))) (v5 + 1) h
  else none
set_option maxRecDepth 100000 in
set_option maxHeartbeats 4000000 in
theorem q_X8_draws_89 {X : Nat → Int32} {d : Nat} (hd : 3 ≤ (d + 1)) {L hi : Nat} (hh : 125 ≤ hi) {n : Nat} {K60 : Int32 → Int32 → Int32 → Int32 → Int32 → Hp → Option Hp} (HK60 : ∀ (v1 : Int32) (v2 : Int32) (v3 : Int32) (v4 : Int32) (v5 : Int32) (h : Hp) (o : Hp), SHP L hi h → K60 v1 v2 v3 v4 v5 h = some o → Run X (d + 1) 158 60 [some (.ref 96), some (.int v1), some (.int v2), some (.int v3), some (.int v4), some (.int v5), none] [] h (none, o) ∧ SHP L hi o) {v1 : Int32} {v2 : Int32} {v3 : Int32} {v4 : Int32} {v5 : Int32} {h : Hp} {o : Hp}  (SH : SHP L hi h) (hf : g_X8_draws_89 n K60 v1 v2 v3 v4 v5 h = some o) : Run X (d + 1) 158 89 [some (.ref 96), some (.int v1), some (.int v2), some (.int v3), some (.int v4), some (.int v5), none] [] h (none, o) ∧ SHP L hi o := by
  unfold g_X8_draws_89 at hf
  refine And.imp_left (rs_iload i_X8_draws_89 rfl) ?_
  refine And.imp_left (rs_aload_n i_X8_draws_91 rfl) ?_
  refine And.imp_left (rs_getR i_X8_draws_92 (by decide) (by decide) (sO8 SH hh) (sR8_48 SH hh)) ?_
  refine And.imp_left (rs_iload i_X8_draws_95 rfl) ?_
  obtain ⟨c1, hf⟩ := ite_some hf
  refine And.imp_left (rs_iald i_X8_draws_97 (mkI (sA SH hh (k := 9) (n := 12) (by decide)) c1)) ?_
  refine And.imp_left (rs_isub i_X8_draws_98) ?_
  refine And.imp_left (rs_istore i_X8_draws_99 (Nat.le_of_ble_eq_true rfl) (lv' := [some (.ref 96), some (.int v1), some (.int v2), some (.int v3), some (.int (v4 - (gI h 119 (ix v5)))), some (.int v5), none]) rfl) ?_
  refine And.imp_left (rs_iinc i_X8_draws_101 rfl (v := v5 + 1) rfl (Nat.le_of_ble_eq_true rfl) (lv' := [some (.ref 96), some (.int v1), some (.int v2), some (.int v3), some (.int (v4 - (gI h 119 (ix v5)))), some (.int (v5 + 1)), none]) rfl) ?_
  refine And.imp_left (rs_goto i_X8_draws_104 (tg := 60) (by decide)) ?_
  exact HK60 _ _ _ _ _ _ _ SH hf
noncomputable def g_X8_draws_60 (n : Nat) : Nat → Int32 → Int32 → Int32 → Int32 → Int32 → Hp → Option Hp
  | 0, _, _, _, _, _, _ => none
  | m + 1, v1, v2, v3, v4, v5, h =>
    if 12 ≤ v5 then
      g_X8_draws_110 n n v2 v4 0 h
    else
      if inb v5 12 = true then
      if ¬ (Int32.toInt64 v3) = 0 then
      g_X8_draws_89 n (g_X8_draws_60 n m) v1 v2 v3 v4 v5 (hsi h 119 (ix v5) (Int64.toInt32 (((Int32.toInt64 v1) * (Int32.toInt64 (gI h 118 (ix v5)))) / (Int32.toInt64 v3))))
      else none
      else none
set_option maxRecDepth 100000 in
set_option maxHeartbeats 4000000 in
theorem q_X8_draws_60 {X : Nat → Int32} {d : Nat} (hd : 3 ≤ (d + 1)) {L hi : Nat} (hh : 125 ≤ hi) {n : Nat} : ∀ (m : Nat) (v1 : Int32) (v2 : Int32) (v3 : Int32) (v4 : Int32) (v5 : Int32) (h : Hp) (o : Hp), SHP L hi h → g_X8_draws_60 n m v1 v2 v3 v4 v5 h = some o → Run X (d + 1) 158 60 [some (.ref 96), some (.int v1), some (.int v2), some (.int v3), some (.int v4), some (.int v5), none] [] h (none, o) ∧ SHP L hi o := by
  intro m
  induction m with
  | zero => intro v1 v2 v3 v4 v5 h o SH hf; cases hf
  | succ m ih =>
    intro v1 v2 v3 v4 v5 h o SH hf
    rw [g_X8_draws_60] at hf
    refine And.imp_left (rs_iload i_X8_draws_60 rfl) ?_
    refine And.imp_left (rs_bipush i_X8_draws_62 (v := 12) (by decide)) ?_
    by_cases c1 : 12 ≤ v5
    · replace hf := (if_pos c1).symm.trans hf
      refine And.imp_left (rs_icT i_X8_draws_64 (ct_ge c1) (tg := 107) (by decide)) ?_
      refine And.imp_left (rs_iconst i_X8_draws_107 (v := 0) (by decide)) ?_
      refine And.imp_left (rs_istore i_X8_draws_108 (Nat.le_of_ble_eq_true rfl) (lv' := [some (.ref 96), some (.int v1), some (.int v2), some (.int v3), some (.int v4), some (.int 0), none]) rfl) ?_
      exact q_X8_draws_110 hd hh _ _ _ _ _ _ _ _ _ SH hf
    · replace hf := (if_neg c1).symm.trans hf
      refine And.imp_left (rs_icF i_X8_draws_64 (cf_ge c1)) ?_
      refine And.imp_left (rs_aload_n i_X8_draws_67 rfl) ?_
      refine And.imp_left (rs_getR i_X8_draws_68 (by decide) (by decide) (sO8 SH hh) (sR8_48 SH hh)) ?_
      refine And.imp_left (rs_iload i_X8_draws_71 rfl) ?_
      refine And.imp_left (rs_iload_n i_X8_draws_73 rfl) ?_
      refine And.imp_left (rs_i2l i_X8_draws_74) ?_
      refine And.imp_left (rs_aload_n i_X8_draws_75 rfl) ?_
      refine And.imp_left (rs_getR i_X8_draws_76 (by decide) (by decide) (sO8 SH hh) (sR8_47 SH hh)) ?_
      refine And.imp_left (rs_iload i_X8_draws_79 rfl) ?_
      obtain ⟨c2, hf⟩ := ite_some hf
      refine And.imp_left (rs_iald i_X8_draws_81 (mkI (sA SH hh (k := 9) (n := 12) (by decide)) c2)) ?_
      refine And.imp_left (rs_i2l i_X8_draws_82) ?_
      refine And.imp_left (rs_lmul i_X8_draws_83) ?_
      refine And.imp_left (rs_iload_n i_X8_draws_84 rfl) ?_
      refine And.imp_left (rs_i2l i_X8_draws_85) ?_
      obtain ⟨c3, hf⟩ := ite_some hf
      refine And.imp_left (rs_ldiv i_X8_draws_86 c3) ?_
      refine And.imp_left (rs_l2i i_X8_draws_87) ?_
      refine And.imp_left (rs_iast i_X8_draws_88 (mkI (sA SH hh (k := 9) (n := 12) (by decide)) c2)) ?_
      have SH := shi SH 119 (ix v5) (Int64.toInt32 (((Int32.toInt64 v1) * (Int32.toInt64 (gI h 118 (ix v5)))) / (Int32.toInt64 v3)))
      exact q_X8_draws_89 hd hh ih SH hf
noncomputable def g_X8_draws_38 (n : Nat) (K5 : Int32 → Int32 → Int32 → Int32 → Hp → Option Hp) (v1 : Int32) (v2 : Int32) (v3 : Int32) (v4 : Int32) (h : Hp) : Option Hp :=
  if inb v4 12 = true then
  K5 v1 v2 (v3 + (gI h 118 (ix v4))) (v4 + 1) h
  else none
set_option maxRecDepth 100000 in
set_option maxHeartbeats 4000000 in
theorem q_X8_draws_38 {X : Nat → Int32} {d : Nat} (hd : 3 ≤ (d + 1)) {L hi : Nat} (hh : 125 ≤ hi) {n : Nat} {K5 : Int32 → Int32 → Int32 → Int32 → Hp → Option Hp} (HK5 : ∀ (v1 : Int32) (v2 : Int32) (v3 : Int32) (v4 : Int32) (h : Hp) (o : Hp), SHP L hi h → K5 v1 v2 v3 v4 h = some o → Run X (d + 1) 158 5 [some (.ref 96), some (.int v1), some (.int v2), some (.int v3), some (.int v4), none, none] [] h (none, o) ∧ SHP L hi o) {v1 : Int32} {v2 : Int32} {v3 : Int32} {v4 : Int32} {h : Hp} {o : Hp}  (SH : SHP L hi h) (hf : g_X8_draws_38 n K5 v1 v2 v3 v4 h = some o) : Run X (d + 1) 158 38 [some (.ref 96), some (.int v1), some (.int v2), some (.int v3), some (.int v4), none, none] [] h (none, o) ∧ SHP L hi o := by
  unfold g_X8_draws_38 at hf
  refine And.imp_left (rs_iload_n i_X8_draws_38 rfl) ?_
  refine And.imp_left (rs_aload_n i_X8_draws_39 rfl) ?_
  refine And.imp_left (rs_getR i_X8_draws_40 (by decide) (by decide) (sO8 SH hh) (sR8_47 SH hh)) ?_
  refine And.imp_left (rs_iload i_X8_draws_43 rfl) ?_
  obtain ⟨c1, hf⟩ := ite_some hf
  refine And.imp_left (rs_iald i_X8_draws_45 (mkI (sA SH hh (k := 9) (n := 12) (by decide)) c1)) ?_
  refine And.imp_left (rs_iadd i_X8_draws_46) ?_
  refine And.imp_left (rs_istore_n i_X8_draws_47 (Nat.le_of_ble_eq_true rfl) (lv' := [some (.ref 96), some (.int v1), some (.int v2), some (.int (v3 + (gI h 118 (ix v4)))), some (.int v4), none, none]) rfl) ?_
  refine And.imp_left (rs_iinc i_X8_draws_48 rfl (v := v4 + 1) rfl (Nat.le_of_ble_eq_true rfl) (lv' := [some (.ref 96), some (.int v1), some (.int v2), some (.int (v3 + (gI h 118 (ix v4)))), some (.int (v4 + 1)), none, none]) rfl) ?_
  refine And.imp_left (rs_goto i_X8_draws_51 (tg := 5) (by decide)) ?_
  exact HK5 _ _ _ _ _ _ SH hf
noncomputable def g_X8_draws_5 (n : Nat) : Nat → Int32 → Int32 → Int32 → Int32 → Hp → Option Hp
  | 0, _, _, _, _, _ => none
  | m + 1, v1, v2, v3, v4, h =>
    if 12 ≤ v4 then
      g_X8_draws_60 n n v1 v2 v3 v1 0 h
    else
      (g_X8_asks n 0 v4 v2 h).bind fun o2 =>
      (g_X8_drawsMore o2.2).bind fun o3 =>
      (g_X8_within (o2.1 + o3.1) 1 99 o3.2).bind fun o4 =>
      if inb v4 12 = true then
      g_X8_draws_38 n (g_X8_draws_5 n m) v1 v2 v3 v4 (hsi o4.2 118 (ix v4) o4.1)
      else none
set_option maxRecDepth 100000 in
set_option maxHeartbeats 4000000 in
theorem q_X8_draws_5 {X : Nat → Int32} {d : Nat} (hd : 3 ≤ (d + 1)) {L hi : Nat} (hh : 125 ≤ hi) {n : Nat} : ∀ (m : Nat) (v1 : Int32) (v2 : Int32) (v3 : Int32) (v4 : Int32) (h : Hp) (o : Hp), SHP L hi h → g_X8_draws_5 n m v1 v2 v3 v4 h = some o → Run X (d + 1) 158 5 [some (.ref 96), some (.int v1), some (.int v2), some (.int v3), some (.int v4), none, none] [] h (none, o) ∧ SHP L hi o := by
  intro m
  induction m with
  | zero => intro v1 v2 v3 v4 h o SH hf; cases hf
  | succ m ih =>
    intro v1 v2 v3 v4 h o SH hf
    rw [g_X8_draws_5] at hf
    refine And.imp_left (rs_iload i_X8_draws_5 rfl) ?_
    refine And.imp_left (rs_bipush i_X8_draws_7 (v := 12) (by decide)) ?_
    by_cases c1 : 12 ≤ v4
    · replace hf := (if_pos c1).symm.trans hf
      refine And.imp_left (rs_icT i_X8_draws_9 (ct_ge c1) (tg := 54) (by decide)) ?_
      refine And.imp_left (rs_iload_n i_X8_draws_54 rfl) ?_
      refine And.imp_left (rs_istore i_X8_draws_55 (Nat.le_of_ble_eq_true rfl) (lv' := [some (.ref 96), some (.int v1), some (.int v2), some (.int v3), some (.int v1), none, none]) rfl) ?_
      refine And.imp_left (rs_iconst i_X8_draws_57 (v := 0) (by decide)) ?_
      refine And.imp_left (rs_istore i_X8_draws_58 (Nat.le_of_ble_eq_true rfl) (lv' := [some (.ref 96), some (.int v1), some (.int v2), some (.int v3), some (.int v1), some (.int 0), none]) rfl) ?_
      exact q_X8_draws_60 hd hh _ _ _ _ _ _ _ _ SH hf
    · replace hf := (if_neg c1).symm.trans hf
      refine And.imp_left (rs_icF i_X8_draws_9 (cf_ge c1)) ?_
      refine And.imp_left (rs_aload_n i_X8_draws_12 rfl) ?_
      refine And.imp_left (rs_getR i_X8_draws_13 (by decide) (by decide) (sO8 SH hh) (sR8_47 SH hh)) ?_
      refine And.imp_left (rs_iload i_X8_draws_16 rfl) ?_
      refine And.imp_left (rs_aload_n i_X8_draws_18 rfl) ?_
      refine And.imp_left (rs_iconst i_X8_draws_19 (v := 0) (by decide)) ?_
      refine And.imp_left (rs_iload i_X8_draws_20 rfl) ?_
      refine And.imp_left (rs_iload_n i_X8_draws_22 rfl) ?_
      obtain ⟨o2, e2, hf⟩ := bind_some hf
      obtain ⟨u2, SH2⟩ := k_X8_asks (X := X) (d := d) (by omega) (by omega) SH e2
      refine And.imp_left (rs_inV i_X8_draws_23 m_X8_asks rfl (As := [.int 0, .int v4, .int v2]) (rest := [.int v4, .ref 118]) rfl rfl (Nat.le_of_ble_eq_true rfl) (sO8 SH hh) u2 (st' := [.int o2.1, .int v4, .ref 118]) rfl) ?_
      clear SH; have SH := SH2; clear SH2
      refine And.imp_left (rs_aload_n i_X8_draws_26 rfl) ?_
      obtain ⟨o3, e3, hf⟩ := bind_some hf
      obtain ⟨u3, SH2⟩ := k_X8_drawsMore (X := X) (d := d) (by omega) (by omega) SH e3
      refine And.imp_left (rs_inV i_X8_draws_27 m_X8_drawsMore rfl (As := []) (rest := [.int o2.1, .int v4, .ref 118]) rfl rfl (Nat.le_of_ble_eq_true rfl) (sO8 SH hh) u3 (st' := [.int o3.1, .int o2.1, .int v4, .ref 118]) rfl) ?_
      clear SH; have SH := SH2; clear SH2
      refine And.imp_left (rs_iadd i_X8_draws_30) ?_
      refine And.imp_left (rs_iconst i_X8_draws_31 (v := 1) (by decide)) ?_
      refine And.imp_left (rs_bipush i_X8_draws_32 (v := 99) (by decide)) ?_
      obtain ⟨o4, e4, hf⟩ := bind_some hf
      obtain ⟨u4, SH2⟩ := k_X8_within (X := X) (d := d) (by omega) (by omega) SH e4
      refine And.imp_left (rs_inS i_X8_draws_34 (by decide) m_X8_within rfl (As := [.int (o2.1 + o3.1), .int 1, .int 99]) (rest := [.int v4, .ref 118]) rfl rfl (Nat.le_of_ble_eq_true rfl) u4 (st' := [.int o4.1, .int v4, .ref 118]) rfl) ?_
      clear SH; have SH := SH2; clear SH2
      obtain ⟨c5, hf⟩ := ite_some hf
      refine And.imp_left (rs_iast i_X8_draws_37 (mkI (sA SH hh (k := 9) (n := 12) (by decide)) c5)) ?_
      have SH := shi SH 118 (ix v4) o4.1
      exact q_X8_draws_38 hd hh ih SH hf
noncomputable def g_X8_draws_0 (n : Nat) (v1 : Int32) (v2 : Int32) (h : Hp) : Option Hp :=
  g_X8_draws_5 n n v1 v2 0 0 h
set_option maxRecDepth 100000 in
set_option maxHeartbeats 4000000 in
theorem q_X8_draws_0 {X : Nat → Int32} {d : Nat} (hd : 3 ≤ (d + 1)) {L hi : Nat} (hh : 125 ≤ hi) {n : Nat} {v1 : Int32} {v2 : Int32} {h : Hp} {o : Hp}  (SH : SHP L hi h) (hf : g_X8_draws_0 n v1 v2 h = some o) : Run X (d + 1) 158 0 [some (.ref 96), some (.int v1), some (.int v2), none, none, none, none] [] h (none, o) ∧ SHP L hi o := by
  unfold g_X8_draws_0 at hf
  refine And.imp_left (rs_iconst i_X8_draws_0 (v := 0) (by decide)) ?_
  refine And.imp_left (rs_istore_n i_X8_draws_1 (Nat.le_of_ble_eq_true rfl) (lv' := [some (.ref 96), some (.int v1), some (.int v2), some (.int 0), none, none, none]) rfl) ?_
  refine And.imp_left (rs_iconst i_X8_draws_2 (v := 0) (by decide)) ?_
  refine And.imp_left (rs_istore i_X8_draws_3 (Nat.le_of_ble_eq_true rfl) (lv' := [some (.ref 96), some (.int v1), some (.int v2), some (.int 0), some (.int 0), none, none]) rfl) ?_
  exact q_X8_draws_5 hd hh _ _ _ _ _ _ _ SH hf
noncomputable def g_X8_draws (n : Nat) (v1 : Int32) (v2 : Int32) (h : Hp) : Option Hp := g_X8_draws_0 n v1 v2 h
theorem k_X8_draws {X : Nat → Int32} {d : Nat} (hd : 3 ≤ d) {L hi : Nat} (hh : 125 ≤ hi) {n : Nat} {v1 : Int32} {v2 : Int32} {h : Hp} {o : Hp}  (SH : SHP L hi h) (hf : g_X8_draws n v1 v2 h = some o) : Calls X d 158 [.ref 96, .int v1, .int v2] h (none, o) ∧ SHP L hi o := by
  obtain ⟨d, rfl⟩ : ∃ z, d = z + 1 := ⟨d - 1, by omega⟩
  obtain ⟨r, S2⟩ := q_X8_draws_0 hd hh SH hf
  exact ⟨⟨_, rfl, r⟩, S2⟩
noncomputable def g_X8_keepsRow_32 (n : Nat) (K2 : Int32 → Hp → Option Hp) (v1 : Int32) (h : Hp) : Option Hp :=
  if inb v1 12 = true then
  K2 (v1 + 1) (hsi h 122 (ix v1) (gI h 117 (ix v1)))
  else none
set_option maxRecDepth 100000 in
set_option maxHeartbeats 4000000 in
theorem q_X8_keepsRow_32 {X : Nat → Int32} {d : Nat} (hd : 0 ≤ d) {L hi : Nat} (hh : 125 ≤ hi) {n : Nat} {K2 : Int32 → Hp → Option Hp} (HK2 : ∀ (v1 : Int32) (h : Hp) (o : Hp), SHP L hi h → K2 v1 h = some o → Run X d 159 2 [some (.ref 96), some (.int v1)] [] h (none, o) ∧ SHP L hi o) {v1 : Int32} {h : Hp} {o : Hp}  (SH : SHP L hi h) (hf : g_X8_keepsRow_32 n K2 v1 h = some o) : Run X d 159 32 [some (.ref 96), some (.int v1)] [] h (none, o) ∧ SHP L hi o := by
  unfold g_X8_keepsRow_32 at hf
  refine And.imp_left (rs_aload_n i_X8_keepsRow_32 rfl) ?_
  refine And.imp_left (rs_getR i_X8_keepsRow_33 (by decide) (by decide) (sO8 SH hh) (sR8_51 SH hh)) ?_
  refine And.imp_left (rs_iload_n i_X8_keepsRow_36 rfl) ?_
  refine And.imp_left (rs_aload_n i_X8_keepsRow_37 rfl) ?_
  refine And.imp_left (rs_getR i_X8_keepsRow_38 (by decide) (by decide) (sO8 SH hh) (sR8_39 SH hh)) ?_
  refine And.imp_left (rs_iload_n i_X8_keepsRow_41 rfl) ?_
  obtain ⟨c1, hf⟩ := ite_some hf
  refine And.imp_left (rs_iald i_X8_keepsRow_42 (mkI (sA SH hh (k := 9) (n := 12) (by decide)) c1)) ?_
  refine And.imp_left (rs_iast i_X8_keepsRow_43 (mkI (sA SH hh (k := 9) (n := 12) (by decide)) c1)) ?_
  have SH := shi SH 122 (ix v1) (gI h 117 (ix v1))
  refine And.imp_left (rs_iinc i_X8_keepsRow_44 rfl (v := v1 + 1) rfl (Nat.le_of_ble_eq_true rfl) (lv' := [some (.ref 96), some (.int (v1 + 1))]) rfl) ?_
  refine And.imp_left (rs_goto i_X8_keepsRow_47 (tg := 2) (by decide)) ?_
  exact HK2 _ _ _ SH hf
noncomputable def g_X8_keepsRow_20 (n : Nat) (K2 : Int32 → Hp → Option Hp) (v1 : Int32) (h : Hp) : Option Hp :=
  if inb v1 12 = true then
  g_X8_keepsRow_32 n K2 v1 (hsi h 121 (ix v1) (gI h 116 (ix v1)))
  else none
set_option maxRecDepth 100000 in
set_option maxHeartbeats 4000000 in
theorem q_X8_keepsRow_20 {X : Nat → Int32} {d : Nat} (hd : 0 ≤ d) {L hi : Nat} (hh : 125 ≤ hi) {n : Nat} {K2 : Int32 → Hp → Option Hp} (HK2 : ∀ (v1 : Int32) (h : Hp) (o : Hp), SHP L hi h → K2 v1 h = some o → Run X d 159 2 [some (.ref 96), some (.int v1)] [] h (none, o) ∧ SHP L hi o) {v1 : Int32} {h : Hp} {o : Hp}  (SH : SHP L hi h) (hf : g_X8_keepsRow_20 n K2 v1 h = some o) : Run X d 159 20 [some (.ref 96), some (.int v1)] [] h (none, o) ∧ SHP L hi o := by
  unfold g_X8_keepsRow_20 at hf
  refine And.imp_left (rs_aload_n i_X8_keepsRow_20 rfl) ?_
  refine And.imp_left (rs_getR i_X8_keepsRow_21 (by decide) (by decide) (sO8 SH hh) (sR8_50 SH hh)) ?_
  refine And.imp_left (rs_iload_n i_X8_keepsRow_24 rfl) ?_
  refine And.imp_left (rs_aload_n i_X8_keepsRow_25 rfl) ?_
  refine And.imp_left (rs_getR i_X8_keepsRow_26 (by decide) (by decide) (sO8 SH hh) (sR8_38 SH hh)) ?_
  refine And.imp_left (rs_iload_n i_X8_keepsRow_29 rfl) ?_
  obtain ⟨c1, hf⟩ := ite_some hf
  refine And.imp_left (rs_iald i_X8_keepsRow_30 (mkI (sA SH hh (k := 9) (n := 12) (by decide)) c1)) ?_
  refine And.imp_left (rs_iast i_X8_keepsRow_31 (mkI (sA SH hh (k := 9) (n := 12) (by decide)) c1)) ?_
  have SH := shi SH 121 (ix v1) (gI h 116 (ix v1))
  exact q_X8_keepsRow_32 hd hh HK2 SH hf
noncomputable def g_X8_keepsRow_2 (n : Nat) : Nat → Int32 → Hp → Option Hp
  | 0, _, _ => none
  | m + 1, v1, h =>
    if 12 ≤ v1 then
      some h
    else
      if inb v1 12 = true then
      g_X8_keepsRow_20 n (g_X8_keepsRow_2 n m) v1 (hsi h 120 (ix v1) (gI h 115 (ix v1)))
      else none
set_option maxRecDepth 100000 in
set_option maxHeartbeats 4000000 in
theorem q_X8_keepsRow_2 {X : Nat → Int32} {d : Nat} (hd : 0 ≤ d) {L hi : Nat} (hh : 125 ≤ hi) {n : Nat} : ∀ (m : Nat) (v1 : Int32) (h : Hp) (o : Hp), SHP L hi h → g_X8_keepsRow_2 n m v1 h = some o → Run X d 159 2 [some (.ref 96), some (.int v1)] [] h (none, o) ∧ SHP L hi o := by
  intro m
  induction m with
  | zero => intro v1 h o SH hf; cases hf
  | succ m ih =>
    intro v1 h o SH hf
    rw [g_X8_keepsRow_2] at hf
    refine And.imp_left (rs_iload_n i_X8_keepsRow_2 rfl) ?_
    refine And.imp_left (rs_bipush i_X8_keepsRow_3 (v := 12) (by decide)) ?_
    by_cases c1 : 12 ≤ v1
    · replace hf := (if_pos c1).symm.trans hf
      refine And.imp_left (rs_icT i_X8_keepsRow_5 (ct_ge c1) (tg := 50) (by decide)) ?_
      have hf := Option.some.inj hf
      subst hf
      exact ⟨rs_vret i_X8_keepsRow_50 m_X8_keepsRow rfl, SH⟩
    · replace hf := (if_neg c1).symm.trans hf
      refine And.imp_left (rs_icF i_X8_keepsRow_5 (cf_ge c1)) ?_
      refine And.imp_left (rs_aload_n i_X8_keepsRow_8 rfl) ?_
      refine And.imp_left (rs_getR i_X8_keepsRow_9 (by decide) (by decide) (sO8 SH hh) (sR8_49 SH hh)) ?_
      refine And.imp_left (rs_iload_n i_X8_keepsRow_12 rfl) ?_
      refine And.imp_left (rs_aload_n i_X8_keepsRow_13 rfl) ?_
      refine And.imp_left (rs_getR i_X8_keepsRow_14 (by decide) (by decide) (sO8 SH hh) (sR8_37 SH hh)) ?_
      refine And.imp_left (rs_iload_n i_X8_keepsRow_17 rfl) ?_
      obtain ⟨c2, hf⟩ := ite_some hf
      refine And.imp_left (rs_iald i_X8_keepsRow_18 (mkI (sA SH hh (k := 9) (n := 12) (by decide)) c2)) ?_
      refine And.imp_left (rs_iast i_X8_keepsRow_19 (mkI (sA SH hh (k := 9) (n := 12) (by decide)) c2)) ?_
      have SH := shi SH 120 (ix v1) (gI h 115 (ix v1))
      exact q_X8_keepsRow_20 hd hh ih SH hf
noncomputable def g_X8_keepsRow_0 (n : Nat)  (h : Hp) : Option Hp :=
  g_X8_keepsRow_2 n n 0 h
set_option maxRecDepth 100000 in
set_option maxHeartbeats 4000000 in
theorem q_X8_keepsRow_0 {X : Nat → Int32} {d : Nat} (hd : 0 ≤ d) {L hi : Nat} (hh : 125 ≤ hi) {n : Nat}  {h : Hp} {o : Hp}  (SH : SHP L hi h) (hf : g_X8_keepsRow_0 n h = some o) : Run X d 159 0 [some (.ref 96), none] [] h (none, o) ∧ SHP L hi o := by
  unfold g_X8_keepsRow_0 at hf
  refine And.imp_left (rs_iconst i_X8_keepsRow_0 (v := 0) (by decide)) ?_
  refine And.imp_left (rs_istore_n i_X8_keepsRow_1 (Nat.le_of_ble_eq_true rfl) (lv' := [some (.ref 96), some (.int 0)]) rfl) ?_
  exact q_X8_keepsRow_2 hd hh _ _ _ _ SH hf
noncomputable def g_X8_keepsRow (n : Nat)  (h : Hp) : Option Hp := g_X8_keepsRow_0 n h
theorem k_X8_keepsRow {X : Nat → Int32} {d : Nat} (hd : 0 ≤ d) {L hi : Nat} (hh : 125 ≤ hi) {n : Nat}  {h : Hp} {o : Hp}  (SH : SHP L hi h) (hf : g_X8_keepsRow n h = some o) : Calls X d 159 [.ref 96] h (none, o) ∧ SHP L hi o := by
  obtain ⟨r, S2⟩ := q_X8_keepsRow_0 hd hh SH hf
  exact ⟨⟨_, rfl, r⟩, S2⟩
noncomputable def g_X8_bounces_47 (n : Nat) (K6 : Int32 → Hp → Option Hp) (v1 : Int32) (v2 : Int32) (s0 : Nat) (s1 : Int32) (h : Hp) : Option Hp :=
  if inb s1 12 = true then
  if inb v1 12 = true then
  K6 (v1 + 1) (hsi h 116 (ix v1) ((((2 * (gI h 121 (ix v1))) + v2) + (gI h s0 (ix s1))) / 4))
  else none
  else none
set_option maxRecDepth 100000 in
set_option maxHeartbeats 4000000 in
theorem q_X8_bounces_47 {X : Nat → Int32} {d : Nat} (hd : 1 ≤ (d + 1)) {L hi : Nat} (hh : 125 ≤ hi) {n : Nat} {K6 : Int32 → Hp → Option Hp} (HK6 : ∀ (v1 : Int32) (w2 : Option Value) (w3 : Option Value) (h : Hp) (o : Hp), SHP L hi h → K6 v1 h = some o → Run X (d + 1) 160 6 [some (.ref 96), some (.int v1), w2, w3] [] h (none, o) ∧ SHP L hi o) {v1 : Int32} {v2 : Int32} {s0 : Nat} {s1 : Int32} {w3 : Option Value} {h : Hp} {o : Hp} (hs0 : ARY 125 s0 9 12) (SH : SHP L hi h) (hf : g_X8_bounces_47 n K6 v1 v2 s0 s1 h = some o) : Run X (d + 1) 160 47 [some (.ref 96), some (.int v1), some (.int v2), w3] [.int s1, .ref s0] h (none, o) ∧ SHP L hi o := by
  unfold g_X8_bounces_47 at hf
  obtain ⟨c1, hf⟩ := ite_some hf
  refine And.imp_left (rs_iald i_X8_bounces_47 (mkI (sA SH hh (k := 9) (n := 12) hs0) c1)) ?_
  refine And.imp_left (rs_istore_n i_X8_bounces_48 (Nat.le_of_ble_eq_true rfl) (lv' := [some (.ref 96), some (.int v1), some (.int v2), some (.int (gI h s0 (ix s1)))]) rfl) ?_
  refine And.imp_left (rs_aload_n i_X8_bounces_49 rfl) ?_
  refine And.imp_left (rs_getR i_X8_bounces_50 (by decide) (by decide) (sO8 SH hh) (sR8_38 SH hh)) ?_
  refine And.imp_left (rs_iload_n i_X8_bounces_53 rfl) ?_
  refine And.imp_left (rs_iconst i_X8_bounces_54 (v := 2) (by decide)) ?_
  refine And.imp_left (rs_aload_n i_X8_bounces_55 rfl) ?_
  refine And.imp_left (rs_getR i_X8_bounces_56 (by decide) (by decide) (sO8 SH hh) (sR8_50 SH hh)) ?_
  refine And.imp_left (rs_iload_n i_X8_bounces_59 rfl) ?_
  obtain ⟨c2, hf⟩ := ite_some hf
  refine And.imp_left (rs_iald i_X8_bounces_60 (mkI (sA SH hh (k := 9) (n := 12) (by decide)) c2)) ?_
  refine And.imp_left (rs_imul i_X8_bounces_61) ?_
  refine And.imp_left (rs_iload_n i_X8_bounces_62 rfl) ?_
  refine And.imp_left (rs_iadd i_X8_bounces_63) ?_
  refine And.imp_left (rs_iload_n i_X8_bounces_64 rfl) ?_
  refine And.imp_left (rs_iadd i_X8_bounces_65) ?_
  refine And.imp_left (rs_iconst i_X8_bounces_66 (v := 4) (by decide)) ?_
  refine And.imp_left (rs_idiv i_X8_bounces_67 (by decide)) ?_
  refine And.imp_left (rs_iast i_X8_bounces_68 (mkI (sA SH hh (k := 9) (n := 12) (by decide)) c2)) ?_
  have SH := shi SH 116 (ix v1) ((((2 * (gI h 121 (ix v1))) + v2) + (gI h s0 (ix s1))) / 4)
  refine And.imp_left (rs_iinc i_X8_bounces_69 rfl (v := v1 + 1) rfl (Nat.le_of_ble_eq_true rfl) (lv' := [some (.ref 96), some (.int (v1 + 1)), some (.int v2), some (.int (gI h s0 (ix s1)))]) rfl) ?_
  refine And.imp_left (rs_goto i_X8_bounces_72 (tg := 6) (by decide)) ?_
  exact HK6 _ _ _ _ _ SH hf
noncomputable def g_X8_bounces_27 (n : Nat) (K6 : Int32 → Hp → Option Hp) (v1 : Int32) (s0 : Nat) (s1 : Int32) (h : Hp) : Option Hp :=
  if inb s1 12 = true then
  if v1 ≠ 11 then
    g_X8_bounces_47 n K6 v1 (gI h s0 (ix s1)) 121 (v1 + 1) h
  else
    g_X8_bounces_47 n K6 v1 (gI h s0 (ix s1)) 121 11 h
  else none
set_option maxRecDepth 100000 in
set_option maxHeartbeats 4000000 in
theorem q_X8_bounces_27 {X : Nat → Int32} {d : Nat} (hd : 1 ≤ (d + 1)) {L hi : Nat} (hh : 125 ≤ hi) {n : Nat} {K6 : Int32 → Hp → Option Hp} (HK6 : ∀ (v1 : Int32) (w2 : Option Value) (w3 : Option Value) (h : Hp) (o : Hp), SHP L hi h → K6 v1 h = some o → Run X (d + 1) 160 6 [some (.ref 96), some (.int v1), w2, w3] [] h (none, o) ∧ SHP L hi o) {v1 : Int32} {s0 : Nat} {s1 : Int32} {w2 : Option Value} {w3 : Option Value} {h : Hp} {o : Hp} (hs0 : ARY 125 s0 9 12) (SH : SHP L hi h) (hf : g_X8_bounces_27 n K6 v1 s0 s1 h = some o) : Run X (d + 1) 160 27 [some (.ref 96), some (.int v1), w2, w3] [.int s1, .ref s0] h (none, o) ∧ SHP L hi o := by
  unfold g_X8_bounces_27 at hf
  obtain ⟨c1, hf⟩ := ite_some hf
  refine And.imp_left (rs_iald i_X8_bounces_27 (mkI (sA SH hh (k := 9) (n := 12) hs0) c1)) ?_
  refine And.imp_left (rs_istore_n i_X8_bounces_28 (Nat.le_of_ble_eq_true rfl) (lv' := [some (.ref 96), some (.int v1), some (.int (gI h s0 (ix s1))), w3]) rfl) ?_
  refine And.imp_left (rs_aload_n i_X8_bounces_29 rfl) ?_
  refine And.imp_left (rs_getR i_X8_bounces_30 (by decide) (by decide) (sO8 SH hh) (sR8_50 SH hh)) ?_
  refine And.imp_left (rs_iload_n i_X8_bounces_33 rfl) ?_
  refine And.imp_left (rs_bipush i_X8_bounces_34 (v := 11) (by decide)) ?_
  by_cases c2 : v1 ≠ 11
  · replace hf := (if_pos c2).symm.trans hf
    refine And.imp_left (rs_icT i_X8_bounces_36 (ct_ne c2) (tg := 44) (by decide)) ?_
    refine And.imp_left (rs_iload_n i_X8_bounces_44 rfl) ?_
    refine And.imp_left (rs_iconst i_X8_bounces_45 (v := 1) (by decide)) ?_
    refine And.imp_left (rs_iadd i_X8_bounces_46) ?_
    exact q_X8_bounces_47 hd hh HK6 (by decide) SH hf
  · replace hf := (if_neg c2).symm.trans hf
    refine And.imp_left (rs_icF i_X8_bounces_36 (cf_ne c2)) ?_
    refine And.imp_left (rs_bipush i_X8_bounces_39 (v := 11) (by decide)) ?_
    refine And.imp_left (rs_goto i_X8_bounces_41 (tg := 47) (by decide)) ?_
    exact q_X8_bounces_47 hd hh HK6 (by decide) SH hf
noncomputable def g_X8_bounces_6 (n : Nat) : Nat → Int32 → Hp → Option Hp
  | 0, _, _ => none
  | m + 1, v1, h =>
    if 12 ≤ v1 then
      some h
    else
      if v1 ≠ 0 then
        g_X8_bounces_27 n (g_X8_bounces_6 n m) v1 121 (v1 - 1) h
      else
        g_X8_bounces_27 n (g_X8_bounces_6 n m) v1 121 0 h
set_option maxRecDepth 100000 in
set_option maxHeartbeats 4000000 in
theorem q_X8_bounces_6 {X : Nat → Int32} {d : Nat} (hd : 1 ≤ (d + 1)) {L hi : Nat} (hh : 125 ≤ hi) {n : Nat} : ∀ (m : Nat) (v1 : Int32) (w2 : Option Value) (w3 : Option Value) (h : Hp) (o : Hp), SHP L hi h → g_X8_bounces_6 n m v1 h = some o → Run X (d + 1) 160 6 [some (.ref 96), some (.int v1), w2, w3] [] h (none, o) ∧ SHP L hi o := by
  intro m
  induction m with
  | zero => intro v1 w2 w3 h o SH hf; cases hf
  | succ m ih =>
    intro v1 w2 w3 h o SH hf
    rw [g_X8_bounces_6] at hf
    refine And.imp_left (rs_iload_n i_X8_bounces_6 rfl) ?_
    refine And.imp_left (rs_bipush i_X8_bounces_7 (v := 12) (by decide)) ?_
    by_cases c1 : 12 ≤ v1
    · replace hf := (if_pos c1).symm.trans hf
      refine And.imp_left (rs_icT i_X8_bounces_9 (ct_ge c1) (tg := 75) (by decide)) ?_
      have hf := Option.some.inj hf
      subst hf
      exact ⟨rs_vret i_X8_bounces_75 m_X8_bounces rfl, SH⟩
    · replace hf := (if_neg c1).symm.trans hf
      refine And.imp_left (rs_icF i_X8_bounces_9 (cf_ge c1)) ?_
      refine And.imp_left (rs_aload_n i_X8_bounces_12 rfl) ?_
      refine And.imp_left (rs_getR i_X8_bounces_13 (by decide) (by decide) (sO8 SH hh) (sR8_50 SH hh)) ?_
      refine And.imp_left (rs_iload_n i_X8_bounces_16 rfl) ?_
      by_cases c2 : v1 ≠ 0
      · replace hf := (if_pos c2).symm.trans hf
        refine And.imp_left (rs_ifT i_X8_bounces_17 (ct_ne c2) (tg := 24) (by decide)) ?_
        refine And.imp_left (rs_iload_n i_X8_bounces_24 rfl) ?_
        refine And.imp_left (rs_iconst i_X8_bounces_25 (v := 1) (by decide)) ?_
        refine And.imp_left (rs_isub i_X8_bounces_26) ?_
        exact q_X8_bounces_27 hd hh ih (by decide) SH hf
      · replace hf := (if_neg c2).symm.trans hf
        refine And.imp_left (rs_ifF i_X8_bounces_17 (cf_ne c2)) ?_
        refine And.imp_left (rs_iconst i_X8_bounces_20 (v := 0) (by decide)) ?_
        refine And.imp_left (rs_goto i_X8_bounces_21 (tg := 27) (by decide)) ?_
        exact q_X8_bounces_27 hd hh ih (by decide) SH hf
noncomputable def g_X8_bounces_0 (n : Nat)  (h : Hp) : Option Hp :=
  (g_X8_keepsRow n h).bind fun o1 =>
  g_X8_bounces_6 n n 0 o1
set_option maxRecDepth 100000 in
set_option maxHeartbeats 4000000 in
theorem q_X8_bounces_0 {X : Nat → Int32} {d : Nat} (hd : 1 ≤ (d + 1)) {L hi : Nat} (hh : 125 ≤ hi) {n : Nat}  {h : Hp} {o : Hp}  (SH : SHP L hi h) (hf : g_X8_bounces_0 n h = some o) : Run X (d + 1) 160 0 [some (.ref 96), none, none, none] [] h (none, o) ∧ SHP L hi o := by
  unfold g_X8_bounces_0 at hf
  refine And.imp_left (rs_aload_n i_X8_bounces_0 rfl) ?_
  obtain ⟨o1, e1, hf⟩ := bind_some hf
  obtain ⟨u1, SH2⟩ := k_X8_keepsRow (X := X) (d := d) (by omega) (by omega) SH e1
  refine And.imp_left (rs_inV i_X8_bounces_1 m_X8_keepsRow rfl (As := []) (rest := []) rfl rfl (Nat.le_of_ble_eq_true rfl) (sO8 SH hh) u1 (st' := []) rfl) ?_
  clear SH; have SH := SH2; clear SH2
  refine And.imp_left (rs_iconst i_X8_bounces_4 (v := 0) (by decide)) ?_
  refine And.imp_left (rs_istore_n i_X8_bounces_5 (Nat.le_of_ble_eq_true rfl) (lv' := [some (.ref 96), some (.int 0), none, none]) rfl) ?_
  exact q_X8_bounces_6 hd hh _ _ _ _ _ _ SH hf
noncomputable def g_X8_bounces (n : Nat)  (h : Hp) : Option Hp := g_X8_bounces_0 n h
theorem k_X8_bounces {X : Nat → Int32} {d : Nat} (hd : 1 ≤ d) {L hi : Nat} (hh : 125 ≤ hi) {n : Nat}  {h : Hp} {o : Hp}  (SH : SHP L hi h) (hf : g_X8_bounces n h = some o) : Calls X d 160 [.ref 96] h (none, o) ∧ SHP L hi o := by
  obtain ⟨d, rfl⟩ : ∃ z, d = z + 1 := ⟨d - 1, by omega⟩
  obtain ⟨r, S2⟩ := q_X8_bounces_0 hd hh SH hf
  exact ⟨⟨_, rfl, r⟩, S2⟩
noncomputable def g_X8_doubles_114 (n : Nat)  (h : Hp) : Option Hp :=
  (g_X8_asks n 2 0 0 h).bind fun o1 =>
  (g_X8_within o1.1 0 100 o1.2).bind fun o2 =>
  some (hsl o2.2 96 44 (((gL' h 96 44) * (Int32.toInt64 (100 - o2.1))) / 100))
set_option maxRecDepth 100000 in
set_option maxHeartbeats 4000000 in
theorem q_X8_doubles_114 {X : Nat → Int32} {d : Nat} (hd : 3 ≤ (d + 1)) {L hi : Nat} (hh : 125 ≤ hi) {n : Nat} {d1 : Int32} {w2 : Option Value} {w3 : Option Value} {w4 : Option Value} {h : Hp} {o : Hp}  (SH : SHP L hi h) (hf : g_X8_doubles_114 n h = some o) : Run X (d + 1) 161 114 [some (.ref 96), some (.int d1), w2, w3, w4] [] h (none, o) ∧ SHP L hi o := by
  unfold g_X8_doubles_114 at hf
  refine And.imp_left (rs_aload_n i_X8_doubles_114 rfl) ?_
  refine And.imp_left (rs_aload_n i_X8_doubles_115 rfl) ?_
  refine And.imp_left (rs_getL i_X8_doubles_116 (by decide) (by decide) (sO8 SH hh)) ?_
  refine And.imp_left (rs_bipush i_X8_doubles_119 (v := 100) (by decide)) ?_
  refine And.imp_left (rs_aload_n i_X8_doubles_121 rfl) ?_
  refine And.imp_left (rs_iconst i_X8_doubles_122 (v := 2) (by decide)) ?_
  refine And.imp_left (rs_iconst i_X8_doubles_123 (v := 0) (by decide)) ?_
  refine And.imp_left (rs_iconst i_X8_doubles_124 (v := 0) (by decide)) ?_
  obtain ⟨o1, e1, hf⟩ := bind_some hf
  obtain ⟨u1, SH2⟩ := k_X8_asks (X := X) (d := d) (by omega) (by omega) SH e1
  refine And.imp_left (rs_inV i_X8_doubles_125 m_X8_asks rfl (As := [.int 2, .int 0, .int 0]) (rest := [.int 100, .long (gL' h 96 44), .ref 96]) rfl rfl (Nat.le_of_ble_eq_true rfl) (sO8 SH hh) u1 (st' := [.int o1.1, .int 100, .long (gL' h 96 44), .ref 96]) rfl) ?_
  clear SH; have SH := SH2; clear SH2
  refine And.imp_left (rs_iconst i_X8_doubles_128 (v := 0) (by decide)) ?_
  refine And.imp_left (rs_bipush i_X8_doubles_129 (v := 100) (by decide)) ?_
  obtain ⟨o2, e2, hf⟩ := bind_some hf
  obtain ⟨u2, SH2⟩ := k_X8_within (X := X) (d := d) (by omega) (by omega) SH e2
  refine And.imp_left (rs_inS i_X8_doubles_131 (by decide) m_X8_within rfl (As := [.int o1.1, .int 0, .int 100]) (rest := [.int 100, .long (gL' h 96 44), .ref 96]) rfl rfl (Nat.le_of_ble_eq_true rfl) u2 (st' := [.int o2.1, .int 100, .long (gL' h 96 44), .ref 96]) rfl) ?_
  clear SH; have SH := SH2; clear SH2
  refine And.imp_left (rs_isub i_X8_doubles_134) ?_
  refine And.imp_left (rs_i2l i_X8_doubles_135) ?_
  refine And.imp_left (rs_lmul i_X8_doubles_136) ?_
  refine And.imp_left (rs_ldc2 i_X8_doubles_137 (v := 100) (by decide)) ?_
  refine And.imp_left (rs_ldiv i_X8_doubles_140 (by decide)) ?_
  refine And.imp_left (rs_putL i_X8_doubles_141 (by decide) (sO8 SH hh)) ?_
  have SH := shl SH 96 44 (((gL' h 96 44) * (Int32.toInt64 (100 - o2.1))) / 100)
  have hf := Option.some.inj hf
  subst hf
  exact ⟨rs_vret i_X8_doubles_144 m_X8_doubles rfl, SH⟩
noncomputable def g_X8_doubles_77 (n : Nat) (K6 : Int32 → Hp → Option Hp) (v1 : Int32) (v2 : Int32) (v3 : Int32) (h : Hp) : Option Hp :=
  if inb v2 12 = true then
  if inb v3 12 = true then
  if inb v1 12 = true then
  K6 (v1 + 1) (hsi h 117 (ix v1) (((gI h 122 (ix v2)) + (gI h 122 (ix v3))) / 2))
  else none
  else none
  else none
set_option maxRecDepth 100000 in
set_option maxHeartbeats 4000000 in
theorem q_X8_doubles_77 {X : Nat → Int32} {d : Nat} (hd : 3 ≤ (d + 1)) {L hi : Nat} (hh : 125 ≤ hi) {n : Nat} {K6 : Int32 → Hp → Option Hp} (HK6 : ∀ (v1 : Int32) (w2 : Option Value) (w3 : Option Value) (w4 : Option Value) (h : Hp) (o : Hp), SHP L hi h → K6 v1 h = some o → Run X (d + 1) 161 6 [some (.ref 96), some (.int v1), w2, w3, w4] [] h (none, o) ∧ SHP L hi o) {v1 : Int32} {v2 : Int32} {v3 : Int32} {d4 : Int32} {h : Hp} {o : Hp}  (SH : SHP L hi h) (hf : g_X8_doubles_77 n K6 v1 v2 v3 h = some o) : Run X (d + 1) 161 77 [some (.ref 96), some (.int v1), some (.int v2), some (.int v3), some (.int d4)] [] h (none, o) ∧ SHP L hi o := by
  unfold g_X8_doubles_77 at hf
  refine And.imp_left (rs_aload_n i_X8_doubles_77 rfl) ?_
  refine And.imp_left (rs_getR i_X8_doubles_78 (by decide) (by decide) (sO8 SH hh) (sR8_39 SH hh)) ?_
  refine And.imp_left (rs_iload_n i_X8_doubles_81 rfl) ?_
  refine And.imp_left (rs_aload_n i_X8_doubles_82 rfl) ?_
  refine And.imp_left (rs_getR i_X8_doubles_83 (by decide) (by decide) (sO8 SH hh) (sR8_51 SH hh)) ?_
  refine And.imp_left (rs_iload_n i_X8_doubles_86 rfl) ?_
  obtain ⟨c1, hf⟩ := ite_some hf
  refine And.imp_left (rs_iald i_X8_doubles_87 (mkI (sA SH hh (k := 9) (n := 12) (by decide)) c1)) ?_
  refine And.imp_left (rs_aload_n i_X8_doubles_88 rfl) ?_
  refine And.imp_left (rs_getR i_X8_doubles_89 (by decide) (by decide) (sO8 SH hh) (sR8_51 SH hh)) ?_
  refine And.imp_left (rs_iload_n i_X8_doubles_92 rfl) ?_
  obtain ⟨c2, hf⟩ := ite_some hf
  refine And.imp_left (rs_iald i_X8_doubles_93 (mkI (sA SH hh (k := 9) (n := 12) (by decide)) c2)) ?_
  refine And.imp_left (rs_iadd i_X8_doubles_94) ?_
  refine And.imp_left (rs_iconst i_X8_doubles_95 (v := 2) (by decide)) ?_
  refine And.imp_left (rs_idiv i_X8_doubles_96 (by decide)) ?_
  obtain ⟨c3, hf⟩ := ite_some hf
  refine And.imp_left (rs_iast i_X8_doubles_97 (mkI (sA SH hh (k := 9) (n := 12) (by decide)) c3)) ?_
  have SH := shi SH 117 (ix v1) (((gI h 122 (ix v2)) + (gI h 122 (ix v3))) / 2)
  refine And.imp_left (rs_iinc i_X8_doubles_98 rfl (v := v1 + 1) rfl (Nat.le_of_ble_eq_true rfl) (lv' := [some (.ref 96), some (.int (v1 + 1)), some (.int v2), some (.int v3), some (.int d4)]) rfl) ?_
  refine And.imp_left (rs_goto i_X8_doubles_101 (tg := 6) (by decide)) ?_
  exact HK6 _ _ _ _ _ _ SH hf
noncomputable def g_X8_doubles_76 (n : Nat) (K6 : Int32 → Hp → Option Hp) (v1 : Int32) (v2 : Int32) (v3 : Int32) (s0 : Nat) (s1 : Int32) (s2 : Int32) (h : Hp) : Option Hp :=
  if inb s1 12 = true then
  g_X8_doubles_77 n K6 v1 v2 v3 (hsi h s0 (ix s1) s2)
  else none
set_option maxRecDepth 100000 in
set_option maxHeartbeats 4000000 in
theorem q_X8_doubles_76 {X : Nat → Int32} {d : Nat} (hd : 3 ≤ (d + 1)) {L hi : Nat} (hh : 125 ≤ hi) {n : Nat} {K6 : Int32 → Hp → Option Hp} (HK6 : ∀ (v1 : Int32) (w2 : Option Value) (w3 : Option Value) (w4 : Option Value) (h : Hp) (o : Hp), SHP L hi h → K6 v1 h = some o → Run X (d + 1) 161 6 [some (.ref 96), some (.int v1), w2, w3, w4] [] h (none, o) ∧ SHP L hi o) {v1 : Int32} {v2 : Int32} {v3 : Int32} {s0 : Nat} {s1 : Int32} {s2 : Int32} {d4 : Int32} {h : Hp} {o : Hp} (hs0 : ARY 125 s0 9 12) (SH : SHP L hi h) (hf : g_X8_doubles_76 n K6 v1 v2 v3 s0 s1 s2 h = some o) : Run X (d + 1) 161 76 [some (.ref 96), some (.int v1), some (.int v2), some (.int v3), some (.int d4)] [.int s2, .int s1, .ref s0] h (none, o) ∧ SHP L hi o := by
  unfold g_X8_doubles_76 at hf
  obtain ⟨c1, hf⟩ := ite_some hf
  refine And.imp_left (rs_iast i_X8_doubles_76 (mkI (sA SH hh (k := 9) (n := 12) hs0) c1)) ?_
  have SH := shi SH s0 (ix s1) s2
  exact q_X8_doubles_77 hd hh HK6 SH hf
noncomputable def g_X8_doubles_59 (n : Nat) (K6 : Int32 → Hp → Option Hp) (v1 : Int32) (v2 : Int32) (v3 : Int32) (v4 : Int32) (h : Hp) : Option Hp :=
  if 1 ≤ v4 then
    g_X8_doubles_76 n K6 v1 v2 v3 116 v1 v4 h
  else
    g_X8_doubles_76 n K6 v1 v2 v3 116 v1 1 h
set_option maxRecDepth 100000 in
set_option maxHeartbeats 4000000 in
theorem q_X8_doubles_59 {X : Nat → Int32} {d : Nat} (hd : 3 ≤ (d + 1)) {L hi : Nat} (hh : 125 ≤ hi) {n : Nat} {K6 : Int32 → Hp → Option Hp} (HK6 : ∀ (v1 : Int32) (w2 : Option Value) (w3 : Option Value) (w4 : Option Value) (h : Hp) (o : Hp), SHP L hi h → K6 v1 h = some o → Run X (d + 1) 161 6 [some (.ref 96), some (.int v1), w2, w3, w4] [] h (none, o) ∧ SHP L hi o) {v1 : Int32} {v2 : Int32} {v3 : Int32} {v4 : Int32} {h : Hp} {o : Hp}  (SH : SHP L hi h) (hf : g_X8_doubles_59 n K6 v1 v2 v3 v4 h = some o) : Run X (d + 1) 161 59 [some (.ref 96), some (.int v1), some (.int v2), some (.int v3), some (.int v4)] [] h (none, o) ∧ SHP L hi o := by
  unfold g_X8_doubles_59 at hf
  refine And.imp_left (rs_aload_n i_X8_doubles_59 rfl) ?_
  refine And.imp_left (rs_getR i_X8_doubles_60 (by decide) (by decide) (sO8 SH hh) (sR8_38 SH hh)) ?_
  refine And.imp_left (rs_iload_n i_X8_doubles_63 rfl) ?_
  refine And.imp_left (rs_iload i_X8_doubles_64 rfl) ?_
  refine And.imp_left (rs_iconst i_X8_doubles_66 (v := 1) (by decide)) ?_
  by_cases c1 : 1 ≤ v4
  · replace hf := (if_pos c1).symm.trans hf
    refine And.imp_left (rs_icT i_X8_doubles_67 (ct_ge c1) (tg := 74) (by decide)) ?_
    refine And.imp_left (rs_iload i_X8_doubles_74 rfl) ?_
    exact q_X8_doubles_76 hd hh HK6 (by decide) SH hf
  · replace hf := (if_neg c1).symm.trans hf
    refine And.imp_left (rs_icF i_X8_doubles_67 (cf_ge c1)) ?_
    refine And.imp_left (rs_iconst i_X8_doubles_70 (v := 1) (by decide)) ?_
    refine And.imp_left (rs_goto i_X8_doubles_71 (tg := 76) (by decide)) ?_
    exact q_X8_doubles_76 hd hh HK6 (by decide) SH hf
noncomputable def g_X8_doubles_42 (n : Nat) (K6 : Int32 → Hp → Option Hp) (v1 : Int32) (v2 : Int32) (v3 : Int32) (h : Hp) : Option Hp :=
  if inb v2 12 = true then
  if inb v3 12 = true then
  g_X8_doubles_59 n K6 v1 v2 v3 (((gI h 121 (ix v2)) + (gI h 121 (ix v3))) / 4) h
  else none
  else none
set_option maxRecDepth 100000 in
set_option maxHeartbeats 4000000 in
theorem q_X8_doubles_42 {X : Nat → Int32} {d : Nat} (hd : 3 ≤ (d + 1)) {L hi : Nat} (hh : 125 ≤ hi) {n : Nat} {K6 : Int32 → Hp → Option Hp} (HK6 : ∀ (v1 : Int32) (w2 : Option Value) (w3 : Option Value) (w4 : Option Value) (h : Hp) (o : Hp), SHP L hi h → K6 v1 h = some o → Run X (d + 1) 161 6 [some (.ref 96), some (.int v1), w2, w3, w4] [] h (none, o) ∧ SHP L hi o) {v1 : Int32} {v2 : Int32} {v3 : Int32} {w4 : Option Value} {h : Hp} {o : Hp}  (SH : SHP L hi h) (hf : g_X8_doubles_42 n K6 v1 v2 v3 h = some o) : Run X (d + 1) 161 42 [some (.ref 96), some (.int v1), some (.int v2), some (.int v3), w4] [] h (none, o) ∧ SHP L hi o := by
  unfold g_X8_doubles_42 at hf
  refine And.imp_left (rs_aload_n i_X8_doubles_42 rfl) ?_
  refine And.imp_left (rs_getR i_X8_doubles_43 (by decide) (by decide) (sO8 SH hh) (sR8_50 SH hh)) ?_
  refine And.imp_left (rs_iload_n i_X8_doubles_46 rfl) ?_
  obtain ⟨c1, hf⟩ := ite_some hf
  refine And.imp_left (rs_iald i_X8_doubles_47 (mkI (sA SH hh (k := 9) (n := 12) (by decide)) c1)) ?_
  refine And.imp_left (rs_aload_n i_X8_doubles_48 rfl) ?_
  refine And.imp_left (rs_getR i_X8_doubles_49 (by decide) (by decide) (sO8 SH hh) (sR8_50 SH hh)) ?_
  refine And.imp_left (rs_iload_n i_X8_doubles_52 rfl) ?_
  obtain ⟨c2, hf⟩ := ite_some hf
  refine And.imp_left (rs_iald i_X8_doubles_53 (mkI (sA SH hh (k := 9) (n := 12) (by decide)) c2)) ?_
  refine And.imp_left (rs_iadd i_X8_doubles_54) ?_
  refine And.imp_left (rs_iconst i_X8_doubles_55 (v := 4) (by decide)) ?_
  refine And.imp_left (rs_idiv i_X8_doubles_56 (by decide)) ?_
  refine And.imp_left (rs_istore i_X8_doubles_57 (Nat.le_of_ble_eq_true rfl) (lv' := [some (.ref 96), some (.int v1), some (.int v2), some (.int v3), some (.int (((gI h 121 (ix v2)) + (gI h 121 (ix v3))) / 4))]) rfl) ?_
  exact q_X8_doubles_59 hd hh HK6 SH hf
noncomputable def g_X8_doubles_6 (n : Nat) : Nat → Int32 → Hp → Option Hp
  | 0, _, _ => none
  | m + 1, v1, h =>
    if 12 ≤ v1 then
      g_X8_doubles_114 n (hsi h 96 40 ((gI h 96 40) + 1))
    else
      if inb (v1 / 2) 12 = true then
      if inb (11 - (v1 / 2)) 12 = true then
      if inb v1 12 = true then
      g_X8_doubles_42 n (g_X8_doubles_6 n m) v1 (v1 / 2) (11 - (v1 / 2)) (hsi h 115 (ix v1) (((gI h 120 (ix (v1 / 2))) + (gI h 120 (ix (11 - (v1 / 2))))) / 4))
      else none
      else none
      else none
set_option maxRecDepth 100000 in
set_option maxHeartbeats 4000000 in
theorem q_X8_doubles_6 {X : Nat → Int32} {d : Nat} (hd : 3 ≤ (d + 1)) {L hi : Nat} (hh : 125 ≤ hi) {n : Nat} : ∀ (m : Nat) (v1 : Int32) (w2 : Option Value) (w3 : Option Value) (w4 : Option Value) (h : Hp) (o : Hp), SHP L hi h → g_X8_doubles_6 n m v1 h = some o → Run X (d + 1) 161 6 [some (.ref 96), some (.int v1), w2, w3, w4] [] h (none, o) ∧ SHP L hi o := by
  intro m
  induction m with
  | zero => intro v1 w2 w3 w4 h o SH hf; cases hf
  | succ m ih =>
    intro v1 w2 w3 w4 h o SH hf
    rw [g_X8_doubles_6] at hf
    refine And.imp_left (rs_iload_n i_X8_doubles_6 rfl) ?_
    refine And.imp_left (rs_bipush i_X8_doubles_7 (v := 12) (by decide)) ?_
    by_cases c1 : 12 ≤ v1
    · replace hf := (if_pos c1).symm.trans hf
      refine And.imp_left (rs_icT i_X8_doubles_9 (ct_ge c1) (tg := 104) (by decide)) ?_
      refine And.imp_left (rs_aload_n i_X8_doubles_104 rfl) ?_
      refine And.imp_left (rs_dup i_X8_doubles_105 rfl) ?_
      refine And.imp_left (rs_getI i_X8_doubles_106 (by decide) (by decide) (sO8 SH hh)) ?_
      refine And.imp_left (rs_iconst i_X8_doubles_109 (v := 1) (by decide)) ?_
      refine And.imp_left (rs_iadd i_X8_doubles_110) ?_
      refine And.imp_left (rs_putI i_X8_doubles_111 (by decide) (sO8 SH hh)) ?_
      have SH := shi SH 96 40 ((gI h 96 40) + 1)
      exact q_X8_doubles_114 hd hh SH hf
    · replace hf := (if_neg c1).symm.trans hf
      refine And.imp_left (rs_icF i_X8_doubles_9 (cf_ge c1)) ?_
      refine And.imp_left (rs_iload_n i_X8_doubles_12 rfl) ?_
      refine And.imp_left (rs_iconst i_X8_doubles_13 (v := 2) (by decide)) ?_
      refine And.imp_left (rs_idiv i_X8_doubles_14 (by decide)) ?_
      refine And.imp_left (rs_istore_n i_X8_doubles_15 (Nat.le_of_ble_eq_true rfl) (lv' := [some (.ref 96), some (.int v1), some (.int (v1 / 2)), w3, w4]) rfl) ?_
      refine And.imp_left (rs_bipush i_X8_doubles_16 (v := 11) (by decide)) ?_
      refine And.imp_left (rs_iload_n i_X8_doubles_18 rfl) ?_
      refine And.imp_left (rs_isub i_X8_doubles_19) ?_
      refine And.imp_left (rs_istore_n i_X8_doubles_20 (Nat.le_of_ble_eq_true rfl) (lv' := [some (.ref 96), some (.int v1), some (.int (v1 / 2)), some (.int (11 - (v1 / 2))), w4]) rfl) ?_
      refine And.imp_left (rs_aload_n i_X8_doubles_21 rfl) ?_
      refine And.imp_left (rs_getR i_X8_doubles_22 (by decide) (by decide) (sO8 SH hh) (sR8_37 SH hh)) ?_
      refine And.imp_left (rs_iload_n i_X8_doubles_25 rfl) ?_
      refine And.imp_left (rs_aload_n i_X8_doubles_26 rfl) ?_
      refine And.imp_left (rs_getR i_X8_doubles_27 (by decide) (by decide) (sO8 SH hh) (sR8_49 SH hh)) ?_
      refine And.imp_left (rs_iload_n i_X8_doubles_30 rfl) ?_
      obtain ⟨c2, hf⟩ := ite_some hf
      refine And.imp_left (rs_iald i_X8_doubles_31 (mkI (sA SH hh (k := 9) (n := 12) (by decide)) c2)) ?_
      refine And.imp_left (rs_aload_n i_X8_doubles_32 rfl) ?_
      refine And.imp_left (rs_getR i_X8_doubles_33 (by decide) (by decide) (sO8 SH hh) (sR8_49 SH hh)) ?_
      refine And.imp_left (rs_iload_n i_X8_doubles_36 rfl) ?_
      obtain ⟨c3, hf⟩ := ite_some hf
      refine And.imp_left (rs_iald i_X8_doubles_37 (mkI (sA SH hh (k := 9) (n := 12) (by decide)) c3)) ?_
      refine And.imp_left (rs_iadd i_X8_doubles_38) ?_
      refine And.imp_left (rs_iconst i_X8_doubles_39 (v := 4) (by decide)) ?_
      refine And.imp_left (rs_idiv i_X8_doubles_40 (by decide)) ?_
      obtain ⟨c4, hf⟩ := ite_some hf
      refine And.imp_left (rs_iast i_X8_doubles_41 (mkI (sA SH hh (k := 9) (n := 12) (by decide)) c4)) ?_
      have SH := shi SH 115 (ix v1) (((gI h 120 (ix (v1 / 2))) + (gI h 120 (ix (11 - (v1 / 2))))) / 4)
      exact q_X8_doubles_42 hd hh ih SH hf
noncomputable def g_X8_doubles_0 (n : Nat)  (h : Hp) : Option Hp :=
  (g_X8_keepsRow n h).bind fun o1 =>
  g_X8_doubles_6 n n 0 o1
set_option maxRecDepth 100000 in
set_option maxHeartbeats 4000000 in
theorem q_X8_doubles_0 {X : Nat → Int32} {d : Nat} (hd : 3 ≤ (d + 1)) {L hi : Nat} (hh : 125 ≤ hi) {n : Nat}  {h : Hp} {o : Hp}  (SH : SHP L hi h) (hf : g_X8_doubles_0 n h = some o) : Run X (d + 1) 161 0 [some (.ref 96), none, none, none, none] [] h (none, o) ∧ SHP L hi o := by
  unfold g_X8_doubles_0 at hf
  refine And.imp_left (rs_aload_n i_X8_doubles_0 rfl) ?_
  obtain ⟨o1, e1, hf⟩ := bind_some hf
  obtain ⟨u1, SH2⟩ := k_X8_keepsRow (X := X) (d := d) (by omega) (by omega) SH e1
  refine And.imp_left (rs_inV i_X8_doubles_1 m_X8_keepsRow rfl (As := []) (rest := []) rfl rfl (Nat.le_of_ble_eq_true rfl) (sO8 SH hh) u1 (st' := []) rfl) ?_
  clear SH; have SH := SH2; clear SH2
  refine And.imp_left (rs_iconst i_X8_doubles_4 (v := 0) (by decide)) ?_
  refine And.imp_left (rs_istore_n i_X8_doubles_5 (Nat.le_of_ble_eq_true rfl) (lv' := [some (.ref 96), some (.int 0), none, none, none]) rfl) ?_
  exact q_X8_doubles_6 hd hh _ _ _ _ _ _ _ SH hf
noncomputable def g_X8_doubles (n : Nat)  (h : Hp) : Option Hp := g_X8_doubles_0 n h
theorem k_X8_doubles {X : Nat → Int32} {d : Nat} (hd : 3 ≤ d) {L hi : Nat} (hh : 125 ≤ hi) {n : Nat}  {h : Hp} {o : Hp}  (SH : SHP L hi h) (hf : g_X8_doubles n h = some o) : Calls X d 161 [.ref 96] h (none, o) ∧ SHP L hi o := by
  obtain ⟨d, rfl⟩ : ∃ z, d = z + 1 := ⟨d - 1, by omega⟩
  obtain ⟨r, S2⟩ := q_X8_doubles_0 hd hh SH hf
  exact ⟨⟨_, rfl, r⟩, S2⟩
noncomputable def g_X8_cuts_89 (s0 : Nat) (s1 : Int32) (s2 : Int32) (h : Hp) : Option Hp :=
  if inb s1 12 = true then
  some (hsi h s0 (ix s1) s2)
  else none
set_option maxRecDepth 100000 in
set_option maxHeartbeats 4000000 in
theorem q_X8_cuts_89 {X : Nat → Int32} {d : Nat} (hd : 0 ≤ d) {L hi : Nat} (hh : 125 ≤ hi) {s0 : Nat} {s1 : Int32} {s2 : Int32} {d1 : Int32} {d2 : Int32} {d3 : Int32} {d4 : Int32} {h : Hp} {o : Hp} (hs0 : ARY 125 s0 9 12) (SH : SHP L hi h) (hf : g_X8_cuts_89 s0 s1 s2 h = some o) : Run X d 162 89 [some (.ref 96), some (.int d1), some (.int d2), some (.int d3), some (.int d4)] [.int s2, .int s1, .ref s0] h (none, o) ∧ SHP L hi o := by
  unfold g_X8_cuts_89 at hf
  obtain ⟨c1, hf⟩ := ite_some hf
  refine And.imp_left (rs_iast i_X8_cuts_89 (mkI (sA SH hh (k := 9) (n := 12) hs0) c1)) ?_
  have SH := shi SH s0 (ix s1) s2
  have hf := Option.some.inj hf
  subst hf
  exact ⟨rs_vret i_X8_cuts_90 m_X8_cuts rfl, SH⟩
noncomputable def g_X8_cuts_72 (v1 : Int32) (v4 : Int32) (h : Hp) : Option Hp :=
  if 1 ≤ v4 then
    g_X8_cuts_89 116 v1 v4 h
  else
    g_X8_cuts_89 116 v1 1 h
set_option maxRecDepth 100000 in
set_option maxHeartbeats 4000000 in
theorem q_X8_cuts_72 {X : Nat → Int32} {d : Nat} (hd : 0 ≤ d) {L hi : Nat} (hh : 125 ≤ hi) {v1 : Int32} {v4 : Int32} {d2 : Int32} {d3 : Int32} {h : Hp} {o : Hp}  (SH : SHP L hi h) (hf : g_X8_cuts_72 v1 v4 h = some o) : Run X d 162 72 [some (.ref 96), some (.int v1), some (.int d2), some (.int d3), some (.int v4)] [] h (none, o) ∧ SHP L hi o := by
  unfold g_X8_cuts_72 at hf
  refine And.imp_left (rs_aload_n i_X8_cuts_72 rfl) ?_
  refine And.imp_left (rs_getR i_X8_cuts_73 (by decide) (by decide) (sO8 SH hh) (sR8_38 SH hh)) ?_
  refine And.imp_left (rs_iload_n i_X8_cuts_76 rfl) ?_
  refine And.imp_left (rs_iload i_X8_cuts_77 rfl) ?_
  refine And.imp_left (rs_iconst i_X8_cuts_79 (v := 1) (by decide)) ?_
  by_cases c1 : 1 ≤ v4
  · replace hf := (if_pos c1).symm.trans hf
    refine And.imp_left (rs_icT i_X8_cuts_80 (ct_ge c1) (tg := 87) (by decide)) ?_
    refine And.imp_left (rs_iload i_X8_cuts_87 rfl) ?_
    exact q_X8_cuts_89 hd hh (by decide) SH hf
  · replace hf := (if_neg c1).symm.trans hf
    refine And.imp_left (rs_icF i_X8_cuts_80 (cf_ge c1)) ?_
    refine And.imp_left (rs_iconst i_X8_cuts_83 (v := 1) (by decide)) ?_
    refine And.imp_left (rs_goto i_X8_cuts_84 (tg := 89) (by decide)) ?_
    exact q_X8_cuts_89 hd hh (by decide) SH hf
noncomputable def g_X8_cuts_52 (v1 : Int32) (v2 : Int32) (h : Hp) : Option Hp :=
  if inb v1 12 = true then
  g_X8_cuts_72 v1 ((gI h 116 (ix v1)) - (((gI h 116 (ix v1)) * v2) / 10)) h
  else none
set_option maxRecDepth 100000 in
set_option maxHeartbeats 4000000 in
theorem q_X8_cuts_52 {X : Nat → Int32} {d : Nat} (hd : 0 ≤ d) {L hi : Nat} (hh : 125 ≤ hi) {v1 : Int32} {v2 : Int32} {d3 : Int32} {h : Hp} {o : Hp}  (SH : SHP L hi h) (hf : g_X8_cuts_52 v1 v2 h = some o) : Run X d 162 52 [some (.ref 96), some (.int v1), some (.int v2), some (.int d3), none] [] h (none, o) ∧ SHP L hi o := by
  unfold g_X8_cuts_52 at hf
  refine And.imp_left (rs_aload_n i_X8_cuts_52 rfl) ?_
  refine And.imp_left (rs_getR i_X8_cuts_53 (by decide) (by decide) (sO8 SH hh) (sR8_38 SH hh)) ?_
  refine And.imp_left (rs_iload_n i_X8_cuts_56 rfl) ?_
  obtain ⟨c1, hf⟩ := ite_some hf
  refine And.imp_left (rs_iald i_X8_cuts_57 (mkI (sA SH hh (k := 9) (n := 12) (by decide)) c1)) ?_
  refine And.imp_left (rs_aload_n i_X8_cuts_58 rfl) ?_
  refine And.imp_left (rs_getR i_X8_cuts_59 (by decide) (by decide) (sO8 SH hh) (sR8_38 SH hh)) ?_
  refine And.imp_left (rs_iload_n i_X8_cuts_62 rfl) ?_
  refine And.imp_left (rs_iald i_X8_cuts_63 (mkI (sA SH hh (k := 9) (n := 12) (by decide)) c1)) ?_
  refine And.imp_left (rs_iload_n i_X8_cuts_64 rfl) ?_
  refine And.imp_left (rs_imul i_X8_cuts_65) ?_
  refine And.imp_left (rs_bipush i_X8_cuts_66 (v := 10) (by decide)) ?_
  refine And.imp_left (rs_idiv i_X8_cuts_68 (by decide)) ?_
  refine And.imp_left (rs_isub i_X8_cuts_69) ?_
  refine And.imp_left (rs_istore i_X8_cuts_70 (Nat.le_of_ble_eq_true rfl) (lv' := [some (.ref 96), some (.int v1), some (.int v2), some (.int d3), some (.int ((gI h 116 (ix v1)) - (((gI h 116 (ix v1)) * v2) / 10)))]) rfl) ?_
  exact q_X8_cuts_72 hd hh SH hf
noncomputable def g_X8_cuts_51 (v1 : Int32) (v2 : Int32) (s0 : Nat) (s1 : Int32) (s2 : Int32) (h : Hp) : Option Hp :=
  if inb s1 12 = true then
  g_X8_cuts_52 v1 v2 (hsi h s0 (ix s1) s2)
  else none
set_option maxRecDepth 100000 in
set_option maxHeartbeats 4000000 in
theorem q_X8_cuts_51 {X : Nat → Int32} {d : Nat} (hd : 0 ≤ d) {L hi : Nat} (hh : 125 ≤ hi) {v1 : Int32} {v2 : Int32} {s0 : Nat} {s1 : Int32} {s2 : Int32} {d3 : Int32} {h : Hp} {o : Hp} (hs0 : ARY 125 s0 9 12) (SH : SHP L hi h) (hf : g_X8_cuts_51 v1 v2 s0 s1 s2 h = some o) : Run X d 162 51 [some (.ref 96), some (.int v1), some (.int v2), some (.int d3), none] [.int s2, .int s1, .ref s0] h (none, o) ∧ SHP L hi o := by
  unfold g_X8_cuts_51 at hf
  obtain ⟨c1, hf⟩ := ite_some hf
  refine And.imp_left (rs_iast i_X8_cuts_51 (mkI (sA SH hh (k := 9) (n := 12) hs0) c1)) ?_
  have SH := shi SH s0 (ix s1) s2
  exact q_X8_cuts_52 hd hh SH hf
noncomputable def g_X8_cuts_22 (v1 : Int32) (v2 : Int32) (v3 : Int32) (h : Hp) : Option Hp :=
  if inb v1 12 = true then
  if 1 ≤ ((gI h 115 (ix v1)) - v3) then
    g_X8_cuts_51 v1 v2 115 v1 ((gI h 115 (ix v1)) - v3) h
  else
    g_X8_cuts_51 v1 v2 115 v1 1 h
  else none
set_option maxRecDepth 100000 in
set_option maxHeartbeats 4000000 in
theorem q_X8_cuts_22 {X : Nat → Int32} {d : Nat} (hd : 0 ≤ d) {L hi : Nat} (hh : 125 ≤ hi) {v1 : Int32} {v2 : Int32} {v3 : Int32} {h : Hp} {o : Hp}  (SH : SHP L hi h) (hf : g_X8_cuts_22 v1 v2 v3 h = some o) : Run X d 162 22 [some (.ref 96), some (.int v1), some (.int v2), some (.int v3), none] [] h (none, o) ∧ SHP L hi o := by
  unfold g_X8_cuts_22 at hf
  refine And.imp_left (rs_aload_n i_X8_cuts_22 rfl) ?_
  refine And.imp_left (rs_getR i_X8_cuts_23 (by decide) (by decide) (sO8 SH hh) (sR8_37 SH hh)) ?_
  refine And.imp_left (rs_iload_n i_X8_cuts_26 rfl) ?_
  refine And.imp_left (rs_aload_n i_X8_cuts_27 rfl) ?_
  refine And.imp_left (rs_getR i_X8_cuts_28 (by decide) (by decide) (sO8 SH hh) (sR8_37 SH hh)) ?_
  refine And.imp_left (rs_iload_n i_X8_cuts_31 rfl) ?_
  obtain ⟨c1, hf⟩ := ite_some hf
  refine And.imp_left (rs_iald i_X8_cuts_32 (mkI (sA SH hh (k := 9) (n := 12) (by decide)) c1)) ?_
  refine And.imp_left (rs_iload_n i_X8_cuts_33 rfl) ?_
  refine And.imp_left (rs_isub i_X8_cuts_34) ?_
  refine And.imp_left (rs_iconst i_X8_cuts_35 (v := 1) (by decide)) ?_
  by_cases c2 : 1 ≤ ((gI h 115 (ix v1)) - v3)
  · replace hf := (if_pos c2).symm.trans hf
    refine And.imp_left (rs_icT i_X8_cuts_36 (ct_ge c2) (tg := 43) (by decide)) ?_
    refine And.imp_left (rs_aload_n i_X8_cuts_43 rfl) ?_
    refine And.imp_left (rs_getR i_X8_cuts_44 (by decide) (by decide) (sO8 SH hh) (sR8_37 SH hh)) ?_
    refine And.imp_left (rs_iload_n i_X8_cuts_47 rfl) ?_
    refine And.imp_left (rs_iald i_X8_cuts_48 (mkI (sA SH hh (k := 9) (n := 12) (by decide)) c1)) ?_
    refine And.imp_left (rs_iload_n i_X8_cuts_49 rfl) ?_
    refine And.imp_left (rs_isub i_X8_cuts_50) ?_
    exact q_X8_cuts_51 hd hh (by decide) SH hf
  · replace hf := (if_neg c2).symm.trans hf
    refine And.imp_left (rs_icF i_X8_cuts_36 (cf_ge c2)) ?_
    refine And.imp_left (rs_iconst i_X8_cuts_39 (v := 1) (by decide)) ?_
    refine And.imp_left (rs_goto i_X8_cuts_40 (tg := 51) (by decide)) ?_
    exact q_X8_cuts_51 hd hh (by decide) SH hf
noncomputable def g_X8_cuts_0 (v1 : Int32) (v2 : Int32) (h : Hp) : Option Hp :=
  if inb v1 12 = true then
  g_X8_cuts_22 v1 v2 (((gI h 115 (ix v1)) * v2) / 10) (hsi h 96 42 ((gI h 96 42) + (((gI h 115 (ix v1)) * v2) / 10)))
  else none
set_option maxRecDepth 100000 in
set_option maxHeartbeats 4000000 in
theorem q_X8_cuts_0 {X : Nat → Int32} {d : Nat} (hd : 0 ≤ d) {L hi : Nat} (hh : 125 ≤ hi) {v1 : Int32} {v2 : Int32} {h : Hp} {o : Hp}  (SH : SHP L hi h) (hf : g_X8_cuts_0 v1 v2 h = some o) : Run X d 162 0 [some (.ref 96), some (.int v1), some (.int v2), none, none] [] h (none, o) ∧ SHP L hi o := by
  unfold g_X8_cuts_0 at hf
  refine And.imp_left (rs_aload_n i_X8_cuts_0 rfl) ?_
  refine And.imp_left (rs_getR i_X8_cuts_1 (by decide) (by decide) (sO8 SH hh) (sR8_37 SH hh)) ?_
  refine And.imp_left (rs_iload_n i_X8_cuts_4 rfl) ?_
  obtain ⟨c1, hf⟩ := ite_some hf
  refine And.imp_left (rs_iald i_X8_cuts_5 (mkI (sA SH hh (k := 9) (n := 12) (by decide)) c1)) ?_
  refine And.imp_left (rs_iload_n i_X8_cuts_6 rfl) ?_
  refine And.imp_left (rs_imul i_X8_cuts_7) ?_
  refine And.imp_left (rs_bipush i_X8_cuts_8 (v := 10) (by decide)) ?_
  refine And.imp_left (rs_idiv i_X8_cuts_10 (by decide)) ?_
  refine And.imp_left (rs_istore_n i_X8_cuts_11 (Nat.le_of_ble_eq_true rfl) (lv' := [some (.ref 96), some (.int v1), some (.int v2), some (.int (((gI h 115 (ix v1)) * v2) / 10)), none]) rfl) ?_
  refine And.imp_left (rs_aload_n i_X8_cuts_12 rfl) ?_
  refine And.imp_left (rs_dup i_X8_cuts_13 rfl) ?_
  refine And.imp_left (rs_getI i_X8_cuts_14 (by decide) (by decide) (sO8 SH hh)) ?_
  refine And.imp_left (rs_iload_n i_X8_cuts_17 rfl) ?_
  refine And.imp_left (rs_iadd i_X8_cuts_18) ?_
  refine And.imp_left (rs_putI i_X8_cuts_19 (by decide) (sO8 SH hh)) ?_
  have SH := shi SH 96 42 ((gI h 96 42) + (((gI h 115 (ix v1)) * v2) / 10))
  exact q_X8_cuts_22 hd hh SH hf
noncomputable def g_X8_cuts (v1 : Int32) (v2 : Int32) (h : Hp) : Option Hp := g_X8_cuts_0 v1 v2 h
theorem k_X8_cuts {X : Nat → Int32} {d : Nat} (hd : 0 ≤ d) {L hi : Nat} (hh : 125 ≤ hi) {v1 : Int32} {v2 : Int32} {h : Hp} {o : Hp}  (SH : SHP L hi h) (hf : g_X8_cuts v1 v2 h = some o) : Calls X d 162 [.ref 96, .int v1, .int v2] h (none, o) ∧ SHP L hi o := by
  obtain ⟨r, S2⟩ := q_X8_cuts_0 hd hh SH hf
  exact ⟨⟨_, rfl, r⟩, S2⟩
noncomputable def g_X8_rests_38 (n : Nat) (K2 : Int32 → Int32 → Hp → Option Hp) (v1 : Int32) (v2 : Int32) (s0 : Nat) (s1 : Int32) (s2 : Int32) (h : Hp) : Option Hp :=
  if inb s1 12 = true then
  K2 v1 (v2 + 1) (hsi h s0 (ix s1) s2)
  else none
set_option maxRecDepth 100000 in
set_option maxHeartbeats 4000000 in
theorem q_X8_rests_38 {X : Nat → Int32} {d : Nat} (hd : 0 ≤ d) {L hi : Nat} (hh : 125 ≤ hi) {n : Nat} {K2 : Int32 → Int32 → Hp → Option Hp} (HK2 : ∀ (v1 : Int32) (v2 : Int32) (w3 : Option Value) (h : Hp) (o : Hp), SHP L hi h → K2 v1 v2 h = some o → Run X d 163 2 [some (.ref 96), some (.int v1), some (.int v2), w3] [] h (none, o) ∧ SHP L hi o) {v1 : Int32} {v2 : Int32} {s0 : Nat} {s1 : Int32} {s2 : Int32} {d3 : Int32} {h : Hp} {o : Hp} (hs0 : ARY 125 s0 9 12) (SH : SHP L hi h) (hf : g_X8_rests_38 n K2 v1 v2 s0 s1 s2 h = some o) : Run X d 163 38 [some (.ref 96), some (.int v1), some (.int v2), some (.int d3)] [.int s2, .int s1, .ref s0] h (none, o) ∧ SHP L hi o := by
  unfold g_X8_rests_38 at hf
  obtain ⟨c1, hf⟩ := ite_some hf
  refine And.imp_left (rs_iast i_X8_rests_38 (mkI (sA SH hh (k := 9) (n := 12) hs0) c1)) ?_
  have SH := shi SH s0 (ix s1) s2
  refine And.imp_left (rs_iinc i_X8_rests_39 rfl (v := v2 + 1) rfl (Nat.le_of_ble_eq_true rfl) (lv' := [some (.ref 96), some (.int v1), some (.int (v2 + 1)), some (.int d3)]) rfl) ?_
  refine And.imp_left (rs_goto i_X8_rests_42 (tg := 2) (by decide)) ?_
  exact HK2 _ _ _ _ _ SH hf
noncomputable def g_X8_rests_24 (n : Nat) (K2 : Int32 → Int32 → Hp → Option Hp) (v1 : Int32) (v2 : Int32) (v3 : Int32) (h : Hp) : Option Hp :=
  if 0 ≤ v3 then
    g_X8_rests_38 n K2 v1 v2 117 v2 v3 h
  else
    g_X8_rests_38 n K2 v1 v2 117 v2 0 h
set_option maxRecDepth 100000 in
set_option maxHeartbeats 4000000 in
theorem q_X8_rests_24 {X : Nat → Int32} {d : Nat} (hd : 0 ≤ d) {L hi : Nat} (hh : 125 ≤ hi) {n : Nat} {K2 : Int32 → Int32 → Hp → Option Hp} (HK2 : ∀ (v1 : Int32) (v2 : Int32) (w3 : Option Value) (h : Hp) (o : Hp), SHP L hi h → K2 v1 v2 h = some o → Run X d 163 2 [some (.ref 96), some (.int v1), some (.int v2), w3] [] h (none, o) ∧ SHP L hi o) {v1 : Int32} {v2 : Int32} {v3 : Int32} {h : Hp} {o : Hp}  (SH : SHP L hi h) (hf : g_X8_rests_24 n K2 v1 v2 v3 h = some o) : Run X d 163 24 [some (.ref 96), some (.int v1), some (.int v2), some (.int v3)] [] h (none, o) ∧ SHP L hi o := by
  unfold g_X8_rests_24 at hf
  refine And.imp_left (rs_aload_n i_X8_rests_24 rfl) ?_
  refine And.imp_left (rs_getR i_X8_rests_25 (by decide) (by decide) (sO8 SH hh) (sR8_39 SH hh)) ?_
  refine And.imp_left (rs_iload_n i_X8_rests_28 rfl) ?_
  refine And.imp_left (rs_iload_n i_X8_rests_29 rfl) ?_
  by_cases c1 : 0 ≤ v3
  · replace hf := (if_pos c1).symm.trans hf
    refine And.imp_left (rs_ifT i_X8_rests_30 (ct_ge c1) (tg := 37) (by decide)) ?_
    refine And.imp_left (rs_iload_n i_X8_rests_37 rfl) ?_
    exact q_X8_rests_38 hd hh HK2 (by decide) SH hf
  · replace hf := (if_neg c1).symm.trans hf
    refine And.imp_left (rs_ifF i_X8_rests_30 (cf_ge c1)) ?_
    refine And.imp_left (rs_iconst i_X8_rests_33 (v := 0) (by decide)) ?_
    refine And.imp_left (rs_goto i_X8_rests_34 (tg := 38) (by decide)) ?_
    exact q_X8_rests_38 hd hh HK2 (by decide) SH hf
noncomputable def g_X8_rests_2 (n : Nat) : Nat → Int32 → Int32 → Hp → Option Hp
  | 0, _, _, _ => none
  | m + 1, v1, v2, h =>
    if 12 ≤ v2 then
      some h
    else
      if inb v2 12 = true then
      g_X8_rests_24 n (g_X8_rests_2 n m) v1 v2 ((gI h 117 (ix v2)) - (v1 * ((gI h 96 4) + 1))) h
      else none
set_option maxRecDepth 100000 in
set_option maxHeartbeats 4000000 in
theorem q_X8_rests_2 {X : Nat → Int32} {d : Nat} (hd : 0 ≤ d) {L hi : Nat} (hh : 125 ≤ hi) {n : Nat} : ∀ (m : Nat) (v1 : Int32) (v2 : Int32) (w3 : Option Value) (h : Hp) (o : Hp), SHP L hi h → g_X8_rests_2 n m v1 v2 h = some o → Run X d 163 2 [some (.ref 96), some (.int v1), some (.int v2), w3] [] h (none, o) ∧ SHP L hi o := by
  intro m
  induction m with
  | zero => intro v1 v2 w3 h o SH hf; cases hf
  | succ m ih =>
    intro v1 v2 w3 h o SH hf
    rw [g_X8_rests_2] at hf
    refine And.imp_left (rs_iload_n i_X8_rests_2 rfl) ?_
    refine And.imp_left (rs_bipush i_X8_rests_3 (v := 12) (by decide)) ?_
    by_cases c1 : 12 ≤ v2
    · replace hf := (if_pos c1).symm.trans hf
      refine And.imp_left (rs_icT i_X8_rests_5 (ct_ge c1) (tg := 45) (by decide)) ?_
      have hf := Option.some.inj hf
      subst hf
      exact ⟨rs_vret i_X8_rests_45 m_X8_rests rfl, SH⟩
    · replace hf := (if_neg c1).symm.trans hf
      refine And.imp_left (rs_icF i_X8_rests_5 (cf_ge c1)) ?_
      refine And.imp_left (rs_aload_n i_X8_rests_8 rfl) ?_
      refine And.imp_left (rs_getR i_X8_rests_9 (by decide) (by decide) (sO8 SH hh) (sR8_39 SH hh)) ?_
      refine And.imp_left (rs_iload_n i_X8_rests_12 rfl) ?_
      obtain ⟨c2, hf⟩ := ite_some hf
      refine And.imp_left (rs_iald i_X8_rests_13 (mkI (sA SH hh (k := 9) (n := 12) (by decide)) c2)) ?_
      refine And.imp_left (rs_iload_n i_X8_rests_14 rfl) ?_
      refine And.imp_left (rs_aload_n i_X8_rests_15 rfl) ?_
      refine And.imp_left (rs_getI i_X8_rests_16 (by decide) (by decide) (sO8 SH hh)) ?_
      refine And.imp_left (rs_iconst i_X8_rests_19 (v := 1) (by decide)) ?_
      refine And.imp_left (rs_iadd i_X8_rests_20) ?_
      refine And.imp_left (rs_imul i_X8_rests_21) ?_
      refine And.imp_left (rs_isub i_X8_rests_22) ?_
      refine And.imp_left (rs_istore_n i_X8_rests_23 (Nat.le_of_ble_eq_true rfl) (lv' := [some (.ref 96), some (.int v1), some (.int v2), some (.int ((gI h 117 (ix v2)) - (v1 * ((gI h 96 4) + 1))))]) rfl) ?_
      exact q_X8_rests_24 hd hh ih SH hf
noncomputable def g_X8_rests_0 (n : Nat) (v1 : Int32) (h : Hp) : Option Hp :=
  g_X8_rests_2 n n v1 0 h
set_option maxRecDepth 100000 in
set_option maxHeartbeats 4000000 in
theorem q_X8_rests_0 {X : Nat → Int32} {d : Nat} (hd : 0 ≤ d) {L hi : Nat} (hh : 125 ≤ hi) {n : Nat} {v1 : Int32} {h : Hp} {o : Hp}  (SH : SHP L hi h) (hf : g_X8_rests_0 n v1 h = some o) : Run X d 163 0 [some (.ref 96), some (.int v1), none, none] [] h (none, o) ∧ SHP L hi o := by
  unfold g_X8_rests_0 at hf
  refine And.imp_left (rs_iconst i_X8_rests_0 (v := 0) (by decide)) ?_
  refine And.imp_left (rs_istore_n i_X8_rests_1 (Nat.le_of_ble_eq_true rfl) (lv' := [some (.ref 96), some (.int v1), some (.int 0), none]) rfl) ?_
  exact q_X8_rests_2 hd hh _ _ _ _ _ _ SH hf
noncomputable def g_X8_rests (n : Nat) (v1 : Int32) (h : Hp) : Option Hp := g_X8_rests_0 n v1 h
theorem k_X8_rests {X : Nat → Int32} {d : Nat} (hd : 0 ≤ d) {L hi : Nat} (hh : 125 ≤ hi) {n : Nat} {v1 : Int32} {h : Hp} {o : Hp}  (SH : SHP L hi h) (hf : g_X8_rests n v1 h = some o) : Calls X d 163 [.ref 96, .int v1] h (none, o) ∧ SHP L hi o := by
  obtain ⟨r, S2⟩ := q_X8_rests_0 hd hh SH hf
  exact ⟨⟨_, rfl, r⟩, S2⟩
noncomputable def g_X8_dusts_23 (s1 : Int32) (h : Hp) : Option Hp :=
  some (hsi h 96 41 s1)
set_option maxRecDepth 100000 in
set_option maxHeartbeats 4000000 in
theorem q_X8_dusts_23 {X : Nat → Int32} {d : Nat} (hd : 0 ≤ d) {L hi : Nat} (hh : 125 ≤ hi) {s1 : Int32} {d1 : Int32} {h : Hp} {o : Hp}  (SH : SHP L hi h) (hf : g_X8_dusts_23 s1 h = some o) : Run X d 164 23 [some (.ref 96), some (.int d1)] [.int s1, .ref 96] h (none, o) ∧ SHP L hi o := by
  unfold g_X8_dusts_23 at hf
  refine And.imp_left (rs_putI i_X8_dusts_23 (by decide) (sO8 SH hh)) ?_
  have SH := shi SH 96 41 s1
  have hf := Option.some.inj hf
  subst hf
  exact ⟨rs_vret i_X8_dusts_26 m_X8_dusts rfl, SH⟩
noncomputable def g_X8_dusts_0 (v1 : Int32) (h : Hp) : Option Hp :=
  if ((gI h 96 41) + v1) ≤ 99 then
    g_X8_dusts_23 ((gI h 96 41) + v1) h
  else
    g_X8_dusts_23 99 h
set_option maxRecDepth 100000 in
set_option maxHeartbeats 4000000 in
theorem q_X8_dusts_0 {X : Nat → Int32} {d : Nat} (hd : 0 ≤ d) {L hi : Nat} (hh : 125 ≤ hi) {v1 : Int32} {h : Hp} {o : Hp}  (SH : SHP L hi h) (hf : g_X8_dusts_0 v1 h = some o) : Run X d 164 0 [some (.ref 96), some (.int v1)] [] h (none, o) ∧ SHP L hi o := by
  unfold g_X8_dusts_0 at hf
  refine And.imp_left (rs_aload_n i_X8_dusts_0 rfl) ?_
  refine And.imp_left (rs_aload_n i_X8_dusts_1 rfl) ?_
  refine And.imp_left (rs_getI i_X8_dusts_2 (by decide) (by decide) (sO8 SH hh)) ?_
  refine And.imp_left (rs_iload_n i_X8_dusts_5 rfl) ?_
  refine And.imp_left (rs_iadd i_X8_dusts_6) ?_
  refine And.imp_left (rs_bipush i_X8_dusts_7 (v := 99) (by decide)) ?_
  by_cases c1 : ((gI h 96 41) + v1) ≤ 99
  · replace hf := (if_pos c1).symm.trans hf
    refine And.imp_left (rs_icT i_X8_dusts_9 (ct_le c1) (tg := 17) (by decide)) ?_
    refine And.imp_left (rs_aload_n i_X8_dusts_17 rfl) ?_
    refine And.imp_left (rs_getI i_X8_dusts_18 (by decide) (by decide) (sO8 SH hh)) ?_
    refine And.imp_left (rs_iload_n i_X8_dusts_21 rfl) ?_
    refine And.imp_left (rs_iadd i_X8_dusts_22) ?_
    exact q_X8_dusts_23 hd hh SH hf
  · replace hf := (if_neg c1).symm.trans hf
    refine And.imp_left (rs_icF i_X8_dusts_9 (cf_le c1)) ?_
    refine And.imp_left (rs_bipush i_X8_dusts_12 (v := 99) (by decide)) ?_
    refine And.imp_left (rs_goto i_X8_dusts_14 (tg := 23) (by decide)) ?_
    exact q_X8_dusts_23 hd hh SH hf
noncomputable def g_X8_dusts (v1 : Int32) (h : Hp) : Option Hp := g_X8_dusts_0 v1 h
theorem k_X8_dusts {X : Nat → Int32} {d : Nat} (hd : 0 ≤ d) {L hi : Nat} (hh : 125 ≤ hi) {v1 : Int32} {h : Hp} {o : Hp}  (SH : SHP L hi h) (hf : g_X8_dusts v1 h = some o) : Calls X d 164 [.ref 96, .int v1] h (none, o) ∧ SHP L hi o := by
  obtain ⟨r, S2⟩ := q_X8_dusts_0 hd hh SH hf
  exact ⟨⟨_, rfl, r⟩, S2⟩
noncomputable def g_X8_makes_0 (n : Nat) (v1 : Int32) (h : Hp) : Option Hp :=
  if inb v1 12 = true then
  if (gI h 99 (ix v1)) = 1 then
    (g_X8_allLength n h).bind fun o16 =>
    (g_X8_draws n ((o16.1 * (gI o16.2 100 (ix v1))) / 10) (gI o16.2 101 (ix v1)) o16.2).bind fun o17 =>
    some o17
  else
    if (gI h 99 (ix v1)) = 2 then
      (g_X8_allLength n h).bind fun o13 =>
      (g_X8_draws n ((o13.1 * (gI o13.2 100 (ix v1))) / 10) (gI o13.2 101 (ix v1)) o13.2).bind fun o14 =>
      (g_X8_bounces n o14).bind fun o15 =>
      some o15
    else
      if (gI h 99 (ix v1)) = 3 then
        (g_X8_doubles n h).bind fun o12 =>
        some o12
      else
        if (gI h 99 (ix v1)) = 4 then
          (g_X8_dusts (gI h 100 (ix v1)) h).bind fun o11 =>
          some o11
        else
          if (gI h 99 (ix v1)) = 5 then
            (g_X8_doubles n h).bind fun o8 =>
            (g_X8_cuts 0 (gI o8 100 (ix v1)) o8).bind fun o9 =>
            (g_X8_cuts 11 (gI o9 100 (ix v1)) o9).bind fun o10 =>
            some o10
          else
            (g_X8_rests n (gI h 100 (ix v1)) h).bind fun o7 =>
            some o7
  else none
set_option maxRecDepth 100000 in
set_option maxHeartbeats 4000000 in
theorem q_X8_makes_0 {X : Nat → Int32} {d : Nat} (hd : 4 ≤ (d + 1)) {L hi : Nat} (hh : 125 ≤ hi) {n : Nat} {v1 : Int32} {h : Hp} {o : Hp}  (SH : SHP L hi h) (hf : g_X8_makes_0 n v1 h = some o) : Run X (d + 1) 165 0 [some (.ref 96), some (.int v1)] [] h (none, o) ∧ SHP L hi o := by
  unfold g_X8_makes_0 at hf
  refine And.imp_left (rs_aload_n i_X8_makes_0 rfl) ?_
  refine And.imp_left (rs_getR i_X8_makes_1 (by decide) (by decide) (sO8 SH hh) (sR8_6 SH hh)) ?_
  refine And.imp_left (rs_iload_n i_X8_makes_4 rfl) ?_
  obtain ⟨c1, hf⟩ := ite_some hf
  refine And.imp_left (rs_iald i_X8_makes_5 (mkI (sA SH hh (k := 9) (n := 12) (by decide)) c1)) ?_
  by_cases c2 : (gI h 99 (ix v1)) = 1
  · replace hf := (if_pos c2).symm.trans hf
    refine And.imp_left (rs_tsw i_X8_makes_6 (off := 34) (by rw [c2]; decide) (tg := 40) (by decide)) ?_
    refine And.imp_left (rs_aload_n i_X8_makes_40 rfl) ?_
    refine And.imp_left (rs_aload_n i_X8_makes_41 rfl) ?_
    obtain ⟨o16, e16, hf⟩ := bind_some hf
    obtain ⟨u16, SH2⟩ := k_X8_allLength (X := X) (d := d) (by omega) (by omega) SH e16
    refine And.imp_left (rs_inV i_X8_makes_42 m_X8_allLength rfl (As := []) (rest := [.ref 96]) rfl rfl (Nat.le_of_ble_eq_true rfl) (sO8 SH hh) u16 (st' := [.int o16.1, .ref 96]) rfl) ?_
    clear SH; have SH := SH2; clear SH2
    refine And.imp_left (rs_aload_n i_X8_makes_45 rfl) ?_
    refine And.imp_left (rs_getR i_X8_makes_46 (by decide) (by decide) (sO8 SH hh) (sR8_7 SH hh)) ?_
    refine And.imp_left (rs_iload_n i_X8_makes_49 rfl) ?_
    refine And.imp_left (rs_iald i_X8_makes_50 (mkI (sA SH hh (k := 9) (n := 12) (by decide)) c1)) ?_
    refine And.imp_left (rs_imul i_X8_makes_51) ?_
    refine And.imp_left (rs_bipush i_X8_makes_52 (v := 10) (by decide)) ?_
    refine And.imp_left (rs_idiv i_X8_makes_54 (by decide)) ?_
    refine And.imp_left (rs_aload_n i_X8_makes_55 rfl) ?_
    refine And.imp_left (rs_getR i_X8_makes_56 (by decide) (by decide) (sO8 SH hh) (sR8_8 SH hh)) ?_
    refine And.imp_left (rs_iload_n i_X8_makes_59 rfl) ?_
    refine And.imp_left (rs_iald i_X8_makes_60 (mkI (sA SH hh (k := 9) (n := 12) (by decide)) c1)) ?_
    obtain ⟨o17, e17, hf⟩ := bind_some hf
    obtain ⟨u17, SH2⟩ := k_X8_draws (X := X) (d := d) (by omega) (by omega) SH e17
    refine And.imp_left (rs_inV i_X8_makes_61 m_X8_draws rfl (As := [.int ((o16.1 * (gI o16.2 100 (ix v1))) / 10), .int (gI o16.2 101 (ix v1))]) (rest := []) rfl rfl (Nat.le_of_ble_eq_true rfl) (sO8 SH hh) u17 (st' := []) rfl) ?_
    clear SH; have SH := SH2; clear SH2
    refine And.imp_left (rs_goto i_X8_makes_64 (tg := 158) (by decide)) ?_
    have hf := Option.some.inj hf
    subst hf
    exact ⟨rs_vret i_X8_makes_158 m_X8_makes rfl, SH⟩
  · replace hf := (if_neg c2).symm.trans hf
    by_cases c3 : (gI h 99 (ix v1)) = 2
    · replace hf := (if_pos c3).symm.trans hf
      refine And.imp_left (rs_tsw i_X8_makes_6 (off := 61) (by rw [c3]; decide) (tg := 67) (by decide)) ?_
      refine And.imp_left (rs_aload_n i_X8_makes_67 rfl) ?_
      refine And.imp_left (rs_aload_n i_X8_makes_68 rfl) ?_
      obtain ⟨o13, e13, hf⟩ := bind_some hf
      obtain ⟨u13, SH2⟩ := k_X8_allLength (X := X) (d := d) (by omega) (by omega) SH e13
      refine And.imp_left (rs_inV i_X8_makes_69 m_X8_allLength rfl (As := []) (rest := [.ref 96]) rfl rfl (Nat.le_of_ble_eq_true rfl) (sO8 SH hh) u13 (st' := [.int o13.1, .ref 96]) rfl) ?_
      clear SH; have SH := SH2; clear SH2
      refine And.imp_left (rs_aload_n i_X8_makes_72 rfl) ?_
      refine And.imp_left (rs_getR i_X8_makes_73 (by decide) (by decide) (sO8 SH hh) (sR8_7 SH hh)) ?_
      refine And.imp_left (rs_iload_n i_X8_makes_76 rfl) ?_
      refine And.imp_left (rs_iald i_X8_makes_77 (mkI (sA SH hh (k := 9) (n := 12) (by decide)) c1)) ?_
      refine And.imp_left (rs_imul i_X8_makes_78) ?_
      refine And.imp_left (rs_bipush i_X8_makes_79 (v := 10) (by decide)) ?_
      refine And.imp_left (rs_idiv i_X8_makes_81 (by decide)) ?_
      refine And.imp_left (rs_aload_n i_X8_makes_82 rfl) ?_
      refine And.imp_left (rs_getR i_X8_makes_83 (by decide) (by decide) (sO8 SH hh) (sR8_8 SH hh)) ?_
      refine And.imp_left (rs_iload_n i_X8_makes_86 rfl) ?_
      refine And.imp_left (rs_iald i_X8_makes_87 (mkI (sA SH hh (k := 9) (n := 12) (by decide)) c1)) ?_
      obtain ⟨o14, e14, hf⟩ := bind_some hf
      obtain ⟨u14, SH2⟩ := k_X8_draws (X := X) (d := d) (by omega) (by omega) SH e14
      refine And.imp_left (rs_inV i_X8_makes_88 m_X8_draws rfl (As := [.int ((o13.1 * (gI o13.2 100 (ix v1))) / 10), .int (gI o13.2 101 (ix v1))]) (rest := []) rfl rfl (Nat.le_of_ble_eq_true rfl) (sO8 SH hh) u14 (st' := []) rfl) ?_
      clear SH; have SH := SH2; clear SH2
      refine And.imp_left (rs_aload_n i_X8_makes_91 rfl) ?_
      obtain ⟨o15, e15, hf⟩ := bind_some hf
      obtain ⟨u15, SH2⟩ := k_X8_bounces (X := X) (d := d) (by omega) (by omega) SH e15
      refine And.imp_left (rs_inV i_X8_makes_92 m_X8_bounces rfl (As := []) (rest := []) rfl rfl (Nat.le_of_ble_eq_true rfl) (sO8 SH hh) u15 (st' := []) rfl) ?_
      clear SH; have SH := SH2; clear SH2
      refine And.imp_left (rs_goto i_X8_makes_95 (tg := 158) (by decide)) ?_
      have hf := Option.some.inj hf
      subst hf
      exact ⟨rs_vret i_X8_makes_158 m_X8_makes rfl, SH⟩
    · replace hf := (if_neg c3).symm.trans hf
      by_cases c4 : (gI h 99 (ix v1)) = 3
      · replace hf := (if_pos c4).symm.trans hf
        refine And.imp_left (rs_tsw i_X8_makes_6 (off := 92) (by rw [c4]; decide) (tg := 98) (by decide)) ?_
        refine And.imp_left (rs_aload_n i_X8_makes_98 rfl) ?_
        obtain ⟨o12, e12, hf⟩ := bind_some hf
        obtain ⟨u12, SH2⟩ := k_X8_doubles (X := X) (d := d) (by omega) (by omega) SH e12
        refine And.imp_left (rs_inV i_X8_makes_99 m_X8_doubles rfl (As := []) (rest := []) rfl rfl (Nat.le_of_ble_eq_true rfl) (sO8 SH hh) u12 (st' := []) rfl) ?_
        clear SH; have SH := SH2; clear SH2
        refine And.imp_left (rs_goto i_X8_makes_102 (tg := 158) (by decide)) ?_
        have hf := Option.some.inj hf
        subst hf
        exact ⟨rs_vret i_X8_makes_158 m_X8_makes rfl, SH⟩
      · replace hf := (if_neg c4).symm.trans hf
        by_cases c5 : (gI h 99 (ix v1)) = 4
        · replace hf := (if_pos c5).symm.trans hf
          refine And.imp_left (rs_tsw i_X8_makes_6 (off := 99) (by rw [c5]; decide) (tg := 105) (by decide)) ?_
          refine And.imp_left (rs_aload_n i_X8_makes_105 rfl) ?_
          refine And.imp_left (rs_aload_n i_X8_makes_106 rfl) ?_
          refine And.imp_left (rs_getR i_X8_makes_107 (by decide) (by decide) (sO8 SH hh) (sR8_7 SH hh)) ?_
          refine And.imp_left (rs_iload_n i_X8_makes_110 rfl) ?_
          refine And.imp_left (rs_iald i_X8_makes_111 (mkI (sA SH hh (k := 9) (n := 12) (by decide)) c1)) ?_
          obtain ⟨o11, e11, hf⟩ := bind_some hf
          obtain ⟨u11, SH2⟩ := k_X8_dusts (X := X) (d := d) (by omega) (by omega) SH e11
          refine And.imp_left (rs_inV i_X8_makes_112 m_X8_dusts rfl (As := [.int (gI h 100 (ix v1))]) (rest := []) rfl rfl (Nat.le_of_ble_eq_true rfl) (sO8 SH hh) u11 (st' := []) rfl) ?_
          clear SH; have SH := SH2; clear SH2
          refine And.imp_left (rs_goto i_X8_makes_115 (tg := 158) (by decide)) ?_
          have hf := Option.some.inj hf
          subst hf
          exact ⟨rs_vret i_X8_makes_158 m_X8_makes rfl, SH⟩
        · replace hf := (if_neg c5).symm.trans hf
          by_cases c6 : (gI h 99 (ix v1)) = 5
          · replace hf := (if_pos c6).symm.trans hf
            refine And.imp_left (rs_tsw i_X8_makes_6 (off := 112) (by rw [c6]; decide) (tg := 118) (by decide)) ?_
            refine And.imp_left (rs_aload_n i_X8_makes_118 rfl) ?_
            obtain ⟨o8, e8, hf⟩ := bind_some hf
            obtain ⟨u8, SH2⟩ := k_X8_doubles (X := X) (d := d) (by omega) (by omega) SH e8
            refine And.imp_left (rs_inV i_X8_makes_119 m_X8_doubles rfl (As := []) (rest := []) rfl rfl (Nat.le_of_ble_eq_true rfl) (sO8 SH hh) u8 (st' := []) rfl) ?_
            clear SH; have SH := SH2; clear SH2
            refine And.imp_left (rs_aload_n i_X8_makes_122 rfl) ?_
            refine And.imp_left (rs_iconst i_X8_makes_123 (v := 0) (by decide)) ?_
            refine And.imp_left (rs_aload_n i_X8_makes_124 rfl) ?_
            refine And.imp_left (rs_getR i_X8_makes_125 (by decide) (by decide) (sO8 SH hh) (sR8_7 SH hh)) ?_
            refine And.imp_left (rs_iload_n i_X8_makes_128 rfl) ?_
            refine And.imp_left (rs_iald i_X8_makes_129 (mkI (sA SH hh (k := 9) (n := 12) (by decide)) c1)) ?_
            obtain ⟨o9, e9, hf⟩ := bind_some hf
            obtain ⟨u9, SH2⟩ := k_X8_cuts (X := X) (d := d) (by omega) (by omega) SH e9
            refine And.imp_left (rs_inV i_X8_makes_130 m_X8_cuts rfl (As := [.int 0, .int (gI o8 100 (ix v1))]) (rest := []) rfl rfl (Nat.le_of_ble_eq_true rfl) (sO8 SH hh) u9 (st' := []) rfl) ?_
            clear SH; have SH := SH2; clear SH2
            refine And.imp_left (rs_aload_n i_X8_makes_133 rfl) ?_
            refine And.imp_left (rs_bipush i_X8_makes_134 (v := 11) (by decide)) ?_
            refine And.imp_left (rs_aload_n i_X8_makes_136 rfl) ?_
            refine And.imp_left (rs_getR i_X8_makes_137 (by decide) (by decide) (sO8 SH hh) (sR8_7 SH hh)) ?_
            refine And.imp_left (rs_iload_n i_X8_makes_140 rfl) ?_
            refine And.imp_left (rs_iald i_X8_makes_141 (mkI (sA SH hh (k := 9) (n := 12) (by decide)) c1)) ?_
            obtain ⟨o10, e10, hf⟩ := bind_some hf
            obtain ⟨u10, SH2⟩ := k_X8_cuts (X := X) (d := d) (by omega) (by omega) SH e10
            refine And.imp_left (rs_inV i_X8_makes_142 m_X8_cuts rfl (As := [.int 11, .int (gI o9 100 (ix v1))]) (rest := []) rfl rfl (Nat.le_of_ble_eq_true rfl) (sO8 SH hh) u10 (st' := []) rfl) ?_
            clear SH; have SH := SH2; clear SH2
            refine And.imp_left (rs_goto i_X8_makes_145 (tg := 158) (by decide)) ?_
            have hf := Option.some.inj hf
            subst hf
            exact ⟨rs_vret i_X8_makes_158 m_X8_makes rfl, SH⟩
          · replace hf := (if_neg c6).symm.trans hf
            refine And.imp_left (rs_tsw i_X8_makes_6 (off := 142) (swt_df (by have z0 := ne_ti c2; rw [show (1 : Int32).toInt = 1 from by decide] at z0; have z1 := ne_ti c3; rw [show (2 : Int32).toInt = 2 from by decide] at z1; have z2 := ne_ti c4; rw [show (3 : Int32).toInt = 3 from by decide] at z2; have z3 := ne_ti c5; rw [show (4 : Int32).toInt = 4 from by decide] at z3; have z4 := ne_ti c6; rw [show (5 : Int32).toInt = 5 from by decide] at z4; omega)) (tg := 148) (by decide)) ?_
            refine And.imp_left (rs_aload_n i_X8_makes_148 rfl) ?_
            refine And.imp_left (rs_aload_n i_X8_makes_149 rfl) ?_
            refine And.imp_left (rs_getR i_X8_makes_150 (by decide) (by decide) (sO8 SH hh) (sR8_7 SH hh)) ?_
            refine And.imp_left (rs_iload_n i_X8_makes_153 rfl) ?_
            refine And.imp_left (rs_iald i_X8_makes_154 (mkI (sA SH hh (k := 9) (n := 12) (by decide)) c1)) ?_
            obtain ⟨o7, e7, hf⟩ := bind_some hf
            obtain ⟨u7, SH2⟩ := k_X8_rests (X := X) (d := d) (by omega) (by omega) SH e7
            refine And.imp_left (rs_inV i_X8_makes_155 m_X8_rests rfl (As := [.int (gI h 100 (ix v1))]) (rest := []) rfl rfl (Nat.le_of_ble_eq_true rfl) (sO8 SH hh) u7 (st' := []) rfl) ?_
            clear SH; have SH := SH2; clear SH2
            have hf := Option.some.inj hf
            subst hf
            exact ⟨rs_vret i_X8_makes_158 m_X8_makes rfl, SH⟩
noncomputable def g_X8_makes (n : Nat) (v1 : Int32) (h : Hp) : Option Hp := g_X8_makes_0 n v1 h
theorem k_X8_makes {X : Nat → Int32} {d : Nat} (hd : 4 ≤ d) {L hi : Nat} (hh : 125 ≤ hi) {n : Nat} {v1 : Int32} {h : Hp} {o : Hp}  (SH : SHP L hi h) (hf : g_X8_makes n v1 h = some o) : Calls X d 165 [.ref 96, .int v1] h (none, o) ∧ SHP L hi o := by
  obtain ⟨d, rfl⟩ : ∃ z, d = z + 1 := ⟨d - 1, by omega⟩
  obtain ⟨r, S2⟩ := q_X8_makes_0 hd hh SH hf
  exact ⟨⟨_, rfl, r⟩, S2⟩
noncomputable def g_X8_begins_67 (n : Nat)  (h : Hp) : Option Hp :=
  some (hsl h 96 44 1000000000)
set_option maxRecDepth 100000 in
set_option maxHeartbeats 4000000 in
theorem q_X8_begins_67 {X : Nat → Int32} {d : Nat} (hd : 0 ≤ d) {L hi : Nat} (hh : 125 ≤ hi) {n : Nat} {d1 : Int32} {h : Hp} {o : Hp}  (SH : SHP L hi h) (hf : g_X8_begins_67 n h = some o) : Run X d 166 67 [some (.ref 96), some (.int d1)] [] h (none, o) ∧ SHP L hi o := by
  unfold g_X8_begins_67 at hf
  refine And.imp_left (rs_aload_n i_X8_begins_67 rfl) ?_
  refine And.imp_left (rs_ldc2 i_X8_begins_68 (v := 1000000000) (by decide)) ?_
  refine And.imp_left (rs_putL i_X8_begins_71 (by decide) (sO8 SH hh)) ?_
  have SH := shl SH 96 44 1000000000
  have hf := Option.some.inj hf
  subst hf
  exact ⟨rs_vret i_X8_begins_74 m_X8_begins rfl, SH⟩
noncomputable def g_X8_begins_60 (n : Nat)  (h : Hp) : Option Hp :=
  g_X8_begins_67 n (hsl h 96 43 1000000000)
set_option maxRecDepth 100000 in
set_option maxHeartbeats 4000000 in
theorem q_X8_begins_60 {X : Nat → Int32} {d : Nat} (hd : 0 ≤ d) {L hi : Nat} (hh : 125 ≤ hi) {n : Nat} {d1 : Int32} {h : Hp} {o : Hp}  (SH : SHP L hi h) (hf : g_X8_begins_60 n h = some o) : Run X d 166 60 [some (.ref 96), some (.int d1)] [] h (none, o) ∧ SHP L hi o := by
  unfold g_X8_begins_60 at hf
  refine And.imp_left (rs_aload_n i_X8_begins_60 rfl) ?_
  refine And.imp_left (rs_ldc2 i_X8_begins_61 (v := 1000000000) (by decide)) ?_
  refine And.imp_left (rs_putL i_X8_begins_64 (by decide) (sO8 SH hh)) ?_
  have SH := shl SH 96 43 1000000000
  exact q_X8_begins_67 hd hh SH hf
noncomputable def g_X8_begins_55 (n : Nat)  (h : Hp) : Option Hp :=
  g_X8_begins_60 n (hsi h 96 42 0)
set_option maxRecDepth 100000 in
set_option maxHeartbeats 4000000 in
theorem q_X8_begins_55 {X : Nat → Int32} {d : Nat} (hd : 0 ≤ d) {L hi : Nat} (hh : 125 ≤ hi) {n : Nat} {d1 : Int32} {h : Hp} {o : Hp}  (SH : SHP L hi h) (hf : g_X8_begins_55 n h = some o) : Run X d 166 55 [some (.ref 96), some (.int d1)] [] h (none, o) ∧ SHP L hi o := by
  unfold g_X8_begins_55 at hf
  refine And.imp_left (rs_aload_n i_X8_begins_55 rfl) ?_
  refine And.imp_left (rs_iconst i_X8_begins_56 (v := 0) (by decide)) ?_
  refine And.imp_left (rs_putI i_X8_begins_57 (by decide) (sO8 SH hh)) ?_
  have SH := shi SH 96 42 0
  exact q_X8_begins_60 hd hh SH hf
noncomputable def g_X8_begins_50 (n : Nat)  (h : Hp) : Option Hp :=
  g_X8_begins_55 n (hsi h 96 41 0)
set_option maxRecDepth 100000 in
set_option maxHeartbeats 4000000 in
theorem q_X8_begins_50 {X : Nat → Int32} {d : Nat} (hd : 0 ≤ d) {L hi : Nat} (hh : 125 ≤ hi) {n : Nat} {d1 : Int32} {h : Hp} {o : Hp}  (SH : SHP L hi h) (hf : g_X8_begins_50 n h = some o) : Run X d 166 50 [some (.ref 96), some (.int d1)] [] h (none, o) ∧ SHP L hi o := by
  unfold g_X8_begins_50 at hf
  refine And.imp_left (rs_aload_n i_X8_begins_50 rfl) ?_
  refine And.imp_left (rs_iconst i_X8_begins_51 (v := 0) (by decide)) ?_
  refine And.imp_left (rs_putI i_X8_begins_52 (by decide) (sO8 SH hh)) ?_
  have SH := shi SH 96 41 0
  exact q_X8_begins_55 hd hh SH hf
noncomputable def g_X8_begins_32 (n : Nat) (K2 : Int32 → Hp → Option Hp) (v1 : Int32) (h : Hp) : Option Hp :=
  if inb v1 12 = true then
  K2 (v1 + 1) (hsi h 117 (ix v1) 0)
  else none
set_option maxRecDepth 100000 in
set_option maxHeartbeats 4000000 in
theorem q_X8_begins_32 {X : Nat → Int32} {d : Nat} (hd : 0 ≤ d) {L hi : Nat} (hh : 125 ≤ hi) {n : Nat} {K2 : Int32 → Hp → Option Hp} (HK2 : ∀ (v1 : Int32) (h : Hp) (o : Hp), SHP L hi h → K2 v1 h = some o → Run X d 166 2 [some (.ref 96), some (.int v1)] [] h (none, o) ∧ SHP L hi o) {v1 : Int32} {h : Hp} {o : Hp}  (SH : SHP L hi h) (hf : g_X8_begins_32 n K2 v1 h = some o) : Run X d 166 32 [some (.ref 96), some (.int v1)] [] h (none, o) ∧ SHP L hi o := by
  unfold g_X8_begins_32 at hf
  refine And.imp_left (rs_aload_n i_X8_begins_32 rfl) ?_
  refine And.imp_left (rs_getR i_X8_begins_33 (by decide) (by decide) (sO8 SH hh) (sR8_39 SH hh)) ?_
  refine And.imp_left (rs_iload_n i_X8_begins_36 rfl) ?_
  refine And.imp_left (rs_iconst i_X8_begins_37 (v := 0) (by decide)) ?_
  obtain ⟨c1, hf⟩ := ite_some hf
  refine And.imp_left (rs_iast i_X8_begins_38 (mkI (sA SH hh (k := 9) (n := 12) (by decide)) c1)) ?_
  have SH := shi SH 117 (ix v1) 0
  refine And.imp_left (rs_iinc i_X8_begins_39 rfl (v := v1 + 1) rfl (Nat.le_of_ble_eq_true rfl) (lv' := [some (.ref 96), some (.int (v1 + 1))]) rfl) ?_
  refine And.imp_left (rs_goto i_X8_begins_42 (tg := 2) (by decide)) ?_
  exact HK2 _ _ _ SH hf
noncomputable def g_X8_begins_20 (n : Nat) (K2 : Int32 → Hp → Option Hp) (v1 : Int32) (h : Hp) : Option Hp :=
  if inb v1 12 = true then
  g_X8_begins_32 n K2 v1 (hsi h 116 (ix v1) (gI h 98 (ix v1)))
  else none
set_option maxRecDepth 100000 in
set_option maxHeartbeats 4000000 in
theorem q_X8_begins_20 {X : Nat → Int32} {d : Nat} (hd : 0 ≤ d) {L hi : Nat} (hh : 125 ≤ hi) {n : Nat} {K2 : Int32 → Hp → Option Hp} (HK2 : ∀ (v1 : Int32) (h : Hp) (o : Hp), SHP L hi h → K2 v1 h = some o → Run X d 166 2 [some (.ref 96), some (.int v1)] [] h (none, o) ∧ SHP L hi o) {v1 : Int32} {h : Hp} {o : Hp}  (SH : SHP L hi h) (hf : g_X8_begins_20 n K2 v1 h = some o) : Run X d 166 20 [some (.ref 96), some (.int v1)] [] h (none, o) ∧ SHP L hi o := by
  unfold g_X8_begins_20 at hf
  refine And.imp_left (rs_aload_n i_X8_begins_20 rfl) ?_
  refine And.imp_left (rs_getR i_X8_begins_21 (by decide) (by decide) (sO8 SH hh) (sR8_38 SH hh)) ?_
  refine And.imp_left (rs_iload_n i_X8_begins_24 rfl) ?_
  refine And.imp_left (rs_aload_n i_X8_begins_25 rfl) ?_
  refine And.imp_left (rs_getR i_X8_begins_26 (by decide) (by decide) (sO8 SH hh) (sR8_1 SH hh)) ?_
  refine And.imp_left (rs_iload_n i_X8_begins_29 rfl) ?_
  obtain ⟨c1, hf⟩ := ite_some hf
  refine And.imp_left (rs_iald i_X8_begins_30 (mkI (sA SH hh (k := 9) (n := 12) (by decide)) c1)) ?_
  refine And.imp_left (rs_iast i_X8_begins_31 (mkI (sA SH hh (k := 9) (n := 12) (by decide)) c1)) ?_
  have SH := shi SH 116 (ix v1) (gI h 98 (ix v1))
  exact q_X8_begins_32 hd hh HK2 SH hf
noncomputable def g_X8_begins_2 (n : Nat) : Nat → Int32 → Hp → Option Hp
  | 0, _, _ => none
  | m + 1, v1, h =>
    if 12 ≤ v1 then
      g_X8_begins_50 n (hsi h 96 40 0)
    else
      if inb v1 12 = true then
      g_X8_begins_20 n (g_X8_begins_2 n m) v1 (hsi h 115 (ix v1) (gI h 97 (ix v1)))
      else none
set_option maxRecDepth 100000 in
set_option maxHeartbeats 4000000 in
theorem q_X8_begins_2 {X : Nat → Int32} {d : Nat} (hd : 0 ≤ d) {L hi : Nat} (hh : 125 ≤ hi) {n : Nat} : ∀ (m : Nat) (v1 : Int32) (h : Hp) (o : Hp), SHP L hi h → g_X8_begins_2 n m v1 h = some o → Run X d 166 2 [some (.ref 96), some (.int v1)] [] h (none, o) ∧ SHP L hi o := by
  intro m
  induction m with
  | zero => intro v1 h o SH hf; cases hf
  | succ m ih =>
    intro v1 h o SH hf
    rw [g_X8_begins_2] at hf
    refine And.imp_left (rs_iload_n i_X8_begins_2 rfl) ?_
    refine And.imp_left (rs_bipush i_X8_begins_3 (v := 12) (by decide)) ?_
    by_cases c1 : 12 ≤ v1
    · replace hf := (if_pos c1).symm.trans hf
      refine And.imp_left (rs_icT i_X8_begins_5 (ct_ge c1) (tg := 45) (by decide)) ?_
      refine And.imp_left (rs_aload_n i_X8_begins_45 rfl) ?_
      refine And.imp_left (rs_iconst i_X8_begins_46 (v := 0) (by decide)) ?_
      refine And.imp_left (rs_putI i_X8_begins_47 (by decide) (sO8 SH hh)) ?_
      have SH := shi SH 96 40 0
      exact q_X8_begins_50 hd hh SH hf
    · replace hf := (if_neg c1).symm.trans hf
      refine And.imp_left (rs_icF i_X8_begins_5 (cf_ge c1)) ?_
      refine And.imp_left (rs_aload_n i_X8_begins_8 rfl) ?_
      refine And.imp_left (rs_getR i_X8_begins_9 (by decide) (by decide) (sO8 SH hh) (sR8_37 SH hh)) ?_
      refine And.imp_left (rs_iload_n i_X8_begins_12 rfl) ?_
      refine And.imp_left (rs_aload_n i_X8_begins_13 rfl) ?_
      refine And.imp_left (rs_getR i_X8_begins_14 (by decide) (by decide) (sO8 SH hh) (sR8_0 SH hh)) ?_
      refine And.imp_left (rs_iload_n i_X8_begins_17 rfl) ?_
      obtain ⟨c2, hf⟩ := ite_some hf
      refine And.imp_left (rs_iald i_X8_begins_18 (mkI (sA SH hh (k := 9) (n := 12) (by decide)) c2)) ?_
      refine And.imp_left (rs_iast i_X8_begins_19 (mkI (sA SH hh (k := 9) (n := 12) (by decide)) c2)) ?_
      have SH := shi SH 115 (ix v1) (gI h 97 (ix v1))
      exact q_X8_begins_20 hd hh ih SH hf
noncomputable def g_X8_begins_0 (n : Nat)  (h : Hp) : Option Hp :=
  g_X8_begins_2 n n 0 h
set_option maxRecDepth 100000 in
set_option maxHeartbeats 4000000 in
theorem q_X8_begins_0 {X : Nat → Int32} {d : Nat} (hd : 0 ≤ d) {L hi : Nat} (hh : 125 ≤ hi) {n : Nat}  {h : Hp} {o : Hp}  (SH : SHP L hi h) (hf : g_X8_begins_0 n h = some o) : Run X d 166 0 [some (.ref 96), none] [] h (none, o) ∧ SHP L hi o := by
  unfold g_X8_begins_0 at hf
  refine And.imp_left (rs_iconst i_X8_begins_0 (v := 0) (by decide)) ?_
  refine And.imp_left (rs_istore_n i_X8_begins_1 (Nat.le_of_ble_eq_true rfl) (lv' := [some (.ref 96), some (.int 0)]) rfl) ?_
  exact q_X8_begins_2 hd hh _ _ _ _ SH hf
noncomputable def g_X8_begins (n : Nat)  (h : Hp) : Option Hp := g_X8_begins_0 n h
theorem k_X8_begins {X : Nat → Int32} {d : Nat} (hd : 0 ≤ d) {L hi : Nat} (hh : 125 ≤ hi) {n : Nat}  {h : Hp} {o : Hp}  (SH : SHP L hi h) (hf : g_X8_begins n h = some o) : Calls X d 166 [.ref 96] h (none, o) ∧ SHP L hi o := by
  obtain ⟨r, S2⟩ := q_X8_begins_0 hd hh SH hf
  exact ⟨⟨_, rfl, r⟩, S2⟩
noncomputable def g_X8_goesBut_21 (n : Nat) (K6 : Int32 → Int32 → Int32 → Hp → Option Hp) (v1 : Int32) (v2 : Int32) (v3 : Int32) (h : Hp) : Option Hp :=
  K6 v1 v2 (v3 + 1) h
set_option maxRecDepth 100000 in
set_option maxHeartbeats 4000000 in
theorem q_X8_goesBut_21 {X : Nat → Int32} {d : Nat} (hd : 5 ≤ (d + 1)) {L hi : Nat} (hh : 125 ≤ hi) {n : Nat} {K6 : Int32 → Int32 → Int32 → Hp → Option Hp} (HK6 : ∀ (v1 : Int32) (v2 : Int32) (v3 : Int32) (h : Hp) (o : Hp), SHP L hi h → K6 v1 v2 v3 h = some o → Run X (d + 1) 167 6 [some (.ref 96), some (.int v1), some (.int v2), some (.int v3)] [] h (none, o) ∧ SHP L hi o) {v1 : Int32} {v2 : Int32} {v3 : Int32} {h : Hp} {o : Hp}  (SH : SHP L hi h) (hf : g_X8_goesBut_21 n K6 v1 v2 v3 h = some o) : Run X (d + 1) 167 21 [some (.ref 96), some (.int v1), some (.int v2), some (.int v3)] [] h (none, o) ∧ SHP L hi o := by
  unfold g_X8_goesBut_21 at hf
  refine And.imp_left (rs_iinc i_X8_goesBut_21 rfl (v := v3 + 1) rfl (Nat.le_of_ble_eq_true rfl) (lv' := [some (.ref 96), some (.int v1), some (.int v2), some (.int (v3 + 1))]) rfl) ?_
  refine And.imp_left (rs_goto i_X8_goesBut_24 (tg := 6) (by decide)) ?_
  exact HK6 _ _ _ _ _ SH hf
noncomputable def g_X8_goesBut_6 (n : Nat) : Nat → Int32 → Int32 → Int32 → Hp → Option Hp
  | 0, _, _, _, _ => none
  | m + 1, v1, v2, v3, h =>
    if v1 ≤ v3 then
      some h
    else
      if v3 = v2 then
        g_X8_goesBut_21 n (g_X8_goesBut_6 n m) v1 v2 v3 h
      else
        (g_X8_makes n v3 h).bind fun o3 =>
        g_X8_goesBut_21 n (g_X8_goesBut_6 n m) v1 v2 v3 o3
set_option maxRecDepth 100000 in
set_option maxHeartbeats 4000000 in
theorem q_X8_goesBut_6 {X : Nat → Int32} {d : Nat} (hd : 5 ≤ (d + 1)) {L hi : Nat} (hh : 125 ≤ hi) {n : Nat} : ∀ (m : Nat) (v1 : Int32) (v2 : Int32) (v3 : Int32) (h : Hp) (o : Hp), SHP L hi h → g_X8_goesBut_6 n m v1 v2 v3 h = some o → Run X (d + 1) 167 6 [some (.ref 96), some (.int v1), some (.int v2), some (.int v3)] [] h (none, o) ∧ SHP L hi o := by
  intro m
  induction m with
  | zero => intro v1 v2 v3 h o SH hf; cases hf
  | succ m ih =>
    intro v1 v2 v3 h o SH hf
    rw [g_X8_goesBut_6] at hf
    refine And.imp_left (rs_iload_n i_X8_goesBut_6 rfl) ?_
    refine And.imp_left (rs_iload_n i_X8_goesBut_7 rfl) ?_
    by_cases c1 : v1 ≤ v3
    · replace hf := (if_pos c1).symm.trans hf
      refine And.imp_left (rs_icT i_X8_goesBut_8 (ct_ge c1) (tg := 27) (by decide)) ?_
      have hf := Option.some.inj hf
      subst hf
      exact ⟨rs_vret i_X8_goesBut_27 m_X8_goesBut rfl, SH⟩
    · replace hf := (if_neg c1).symm.trans hf
      refine And.imp_left (rs_icF i_X8_goesBut_8 (cf_ge c1)) ?_
      refine And.imp_left (rs_iload_n i_X8_goesBut_11 rfl) ?_
      refine And.imp_left (rs_iload_n i_X8_goesBut_12 rfl) ?_
      by_cases c2 : v3 = v2
      · replace hf := (if_pos c2).symm.trans hf
        refine And.imp_left (rs_icT i_X8_goesBut_13 (ct_eq c2) (tg := 21) (by decide)) ?_
        exact q_X8_goesBut_21 hd hh ih SH hf
      · replace hf := (if_neg c2).symm.trans hf
        refine And.imp_left (rs_icF i_X8_goesBut_13 (cf_eq c2)) ?_
        refine And.imp_left (rs_aload_n i_X8_goesBut_16 rfl) ?_
        refine And.imp_left (rs_iload_n i_X8_goesBut_17 rfl) ?_
        obtain ⟨o3, e3, hf⟩ := bind_some hf
        obtain ⟨u3, SH2⟩ := k_X8_makes (X := X) (d := d) (by omega) (by omega) SH e3
        refine And.imp_left (rs_inV i_X8_goesBut_18 m_X8_makes rfl (As := [.int v3]) (rest := []) rfl rfl (Nat.le_of_ble_eq_true rfl) (sO8 SH hh) u3 (st' := []) rfl) ?_
        clear SH; have SH := SH2; clear SH2
        exact q_X8_goesBut_21 hd hh ih SH hf
noncomputable def g_X8_goesBut_0 (n : Nat) (v1 : Int32) (v2 : Int32) (h : Hp) : Option Hp :=
  (g_X8_begins n h).bind fun o1 =>
  g_X8_goesBut_6 n n v1 v2 0 o1
set_option maxRecDepth 100000 in
set_option maxHeartbeats 4000000 in
theorem q_X8_goesBut_0 {X : Nat → Int32} {d : Nat} (hd : 5 ≤ (d + 1)) {L hi : Nat} (hh : 125 ≤ hi) {n : Nat} {v1 : Int32} {v2 : Int32} {h : Hp} {o : Hp}  (SH : SHP L hi h) (hf : g_X8_goesBut_0 n v1 v2 h = some o) : Run X (d + 1) 167 0 [some (.ref 96), some (.int v1), some (.int v2), none] [] h (none, o) ∧ SHP L hi o := by
  unfold g_X8_goesBut_0 at hf
  refine And.imp_left (rs_aload_n i_X8_goesBut_0 rfl) ?_
  obtain ⟨o1, e1, hf⟩ := bind_some hf
  obtain ⟨u1, SH2⟩ := k_X8_begins (X := X) (d := d) (by omega) (by omega) SH e1
  refine And.imp_left (rs_inV i_X8_goesBut_1 m_X8_begins rfl (As := []) (rest := []) rfl rfl (Nat.le_of_ble_eq_true rfl) (sO8 SH hh) u1 (st' := []) rfl) ?_
  clear SH; have SH := SH2; clear SH2
  refine And.imp_left (rs_iconst i_X8_goesBut_4 (v := 0) (by decide)) ?_
  refine And.imp_left (rs_istore_n i_X8_goesBut_5 (Nat.le_of_ble_eq_true rfl) (lv' := [some (.ref 96), some (.int v1), some (.int v2), some (.int 0)]) rfl) ?_
  exact q_X8_goesBut_6 hd hh _ _ _ _ _ _ SH hf
noncomputable def g_X8_goesBut (n : Nat) (v1 : Int32) (v2 : Int32) (h : Hp) : Option Hp := g_X8_goesBut_0 n v1 v2 h
theorem k_X8_goesBut {X : Nat → Int32} {d : Nat} (hd : 5 ≤ d) {L hi : Nat} (hh : 125 ≤ hi) {n : Nat} {v1 : Int32} {v2 : Int32} {h : Hp} {o : Hp}  (SH : SHP L hi h) (hf : g_X8_goesBut n v1 v2 h = some o) : Calls X d 167 [.ref 96, .int v1, .int v2] h (none, o) ∧ SHP L hi o := by
  obtain ⟨d, rfl⟩ : ∃ z, d = z + 1 := ⟨d - 1, by omega⟩
  obtain ⟨r, S2⟩ := q_X8_goesBut_0 hd hh SH hf
  exact ⟨⟨_, rfl, r⟩, S2⟩
noncomputable def g_X8_goes_0 (n : Nat) (v1 : Int32) (h : Hp) : Option Hp :=
  (g_X8_goesBut n v1 (-1) h).bind fun o1 =>
  some o1
set_option maxRecDepth 100000 in
set_option maxHeartbeats 4000000 in
theorem q_X8_goes_0 {X : Nat → Int32} {d : Nat} (hd : 6 ≤ (d + 1)) {L hi : Nat} (hh : 125 ≤ hi) {n : Nat} {v1 : Int32} {h : Hp} {o : Hp}  (SH : SHP L hi h) (hf : g_X8_goes_0 n v1 h = some o) : Run X (d + 1) 168 0 [some (.ref 96), some (.int v1)] [] h (none, o) ∧ SHP L hi o := by
  unfold g_X8_goes_0 at hf
  refine And.imp_left (rs_aload_n i_X8_goes_0 rfl) ?_
  refine And.imp_left (rs_iload_n i_X8_goes_1 rfl) ?_
  refine And.imp_left (rs_iconst i_X8_goes_2 (v := (-1)) (by decide)) ?_
  obtain ⟨o1, e1, hf⟩ := bind_some hf
  obtain ⟨u1, SH2⟩ := k_X8_goesBut (X := X) (d := d) (by omega) (by omega) SH e1
  refine And.imp_left (rs_inV i_X8_goes_3 m_X8_goesBut rfl (As := [.int v1, .int (-1)]) (rest := []) rfl rfl (Nat.le_of_ble_eq_true rfl) (sO8 SH hh) u1 (st' := []) rfl) ?_
  clear SH; have SH := SH2; clear SH2
  have hf := Option.some.inj hf
  subst hf
  exact ⟨rs_vret i_X8_goes_6 m_X8_goes rfl, SH⟩
noncomputable def g_X8_goes (n : Nat) (v1 : Int32) (h : Hp) : Option Hp := g_X8_goes_0 n v1 h
theorem k_X8_goes {X : Nat → Int32} {d : Nat} (hd : 6 ≤ d) {L hi : Nat} (hh : 125 ≤ hi) {n : Nat} {v1 : Int32} {h : Hp} {o : Hp}  (SH : SHP L hi h) (hf : g_X8_goes n v1 h = some o) : Calls X d 168 [.ref 96, .int v1] h (none, o) ∧ SHP L hi o := by
  obtain ⟨d, rfl⟩ : ∃ z, d = z + 1 := ⟨d - 1, by omega⟩
  obtain ⟨r, S2⟩ := q_X8_goes_0 hd hh SH hf
  exact ⟨⟨_, rfl, r⟩, S2⟩
noncomputable def g_X8_rope_0 (n : Nat) (v1 : Int32) (v2 : Int32) (v3 : Int32) (h : Hp) : Option (Int32 × Hp) :=
  (g_X8_areSteps v1 h).bind fun o1 =>
  if o1.1 ≠ 0 then
    (g_X8_isCell v2 o1.2).bind fun o3 =>
    if o3.1 = 0 then
      some ((-7), o3.2)
    else
      (g_X8_in v3 0 2 o3.2).bind fun o5 =>
      if o5.1 ≠ 0 then
        (g_X8_goes n v1 o5.2).bind fun o7 =>
        if v3 ≠ 0 then
          if v3 ≠ 1 then
            if inb v2 12 = true then
            some ((gI o7 117 (ix v2)), o7)
            else none
          else
            if inb v2 12 = true then
            some ((gI o7 116 (ix v2)), o7)
            else none
        else
          (g_X8_thickOf v2 o7).bind fun o12 =>
          some (o12.1, o12.2)
      else
        some ((-7), o5.2)
  else
    some ((-5), o1.2)
set_option maxRecDepth 100000 in
set_option maxHeartbeats 4000000 in
theorem q_X8_rope_0 {X : Nat → Int32} {d : Nat} (hd : 7 ≤ (d + 1)) {L hi : Nat} (hh : 125 ≤ hi) {n : Nat} {v1 : Int32} {v2 : Int32} {v3 : Int32} {h : Hp} {o : (Int32 × Hp)}  (SH : SHP L hi h) (hf : g_X8_rope_0 n v1 v2 v3 h = some o) : Run X (d + 1) 169 0 [some (.ref 96), some (.int v1), some (.int v2), some (.int v3)] [] h (some (.int o.1), o.2) ∧ SHP L hi o.2 := by
  unfold g_X8_rope_0 at hf
  refine And.imp_left (rs_aload_n i_X8_rope_0 rfl) ?_
  refine And.imp_left (rs_iload_n i_X8_rope_1 rfl) ?_
  obtain ⟨o1, e1, hf⟩ := bind_some hf
  obtain ⟨u1, SH2⟩ := k_X8_areSteps (X := X) (d := d) (by omega) (by omega) SH e1
  refine And.imp_left (rs_inV i_X8_rope_2 m_X8_areSteps rfl (As := [.int v1]) (rest := []) rfl rfl (Nat.le_of_ble_eq_true rfl) (sO8 SH hh) u1 (st' := [.int o1.1]) rfl) ?_
  clear SH; have SH := SH2; clear SH2
  by_cases c2 : o1.1 ≠ 0
  · replace hf := (if_pos c2).symm.trans hf
    refine And.imp_left (rs_ifT i_X8_rope_5 (ct_ne c2) (tg := 11) (by decide)) ?_
    refine And.imp_left (rs_iload_n i_X8_rope_11 rfl) ?_
    obtain ⟨o3, e3, hf⟩ := bind_some hf
    obtain ⟨u3, SH2⟩ := k_X8_isCell (X := X) (d := d) (by omega) (by omega) SH e3
    refine And.imp_left (rs_inS i_X8_rope_12 (by decide) m_X8_isCell rfl (As := [.int v2]) (rest := []) rfl rfl (Nat.le_of_ble_eq_true rfl) u3 (st' := [.int o3.1]) rfl) ?_
    clear SH; have SH := SH2; clear SH2
    by_cases c4 : o3.1 = 0
    · replace hf := (if_pos c4).symm.trans hf
      refine And.imp_left (rs_ifT i_X8_rope_15 (ct_eq c4) (tg := 27) (by decide)) ?_
      refine And.imp_left (rs_bipush i_X8_rope_27 (v := (-7)) (by decide)) ?_
      have hf := Option.some.inj hf
      subst hf
      exact ⟨rs_iret i_X8_rope_29 m_X8_rope rfl, SH⟩
    · replace hf := (if_neg c4).symm.trans hf
      refine And.imp_left (rs_ifF i_X8_rope_15 (cf_eq c4)) ?_
      refine And.imp_left (rs_iload_n i_X8_rope_18 rfl) ?_
      refine And.imp_left (rs_iconst i_X8_rope_19 (v := 0) (by decide)) ?_
      refine And.imp_left (rs_iconst i_X8_rope_20 (v := 2) (by decide)) ?_
      obtain ⟨o5, e5, hf⟩ := bind_some hf
      obtain ⟨u5, SH2⟩ := k_X8_in (X := X) (d := d) (by omega) (by omega) SH e5
      refine And.imp_left (rs_inS i_X8_rope_21 (by decide) m_X8_in rfl (As := [.int v3, .int 0, .int 2]) (rest := []) rfl rfl (Nat.le_of_ble_eq_true rfl) u5 (st' := [.int o5.1]) rfl) ?_
      clear SH; have SH := SH2; clear SH2
      by_cases c6 : o5.1 ≠ 0
      · replace hf := (if_pos c6).symm.trans hf
        refine And.imp_left (rs_ifT i_X8_rope_24 (ct_ne c6) (tg := 30) (by decide)) ?_
        refine And.imp_left (rs_aload_n i_X8_rope_30 rfl) ?_
        refine And.imp_left (rs_iload_n i_X8_rope_31 rfl) ?_
        obtain ⟨o7, e7, hf⟩ := bind_some hf
        obtain ⟨u7, SH2⟩ := k_X8_goes (X := X) (d := d) (by omega) (by omega) SH e7
        refine And.imp_left (rs_inV i_X8_rope_32 m_X8_goes rfl (As := [.int v1]) (rest := []) rfl rfl (Nat.le_of_ble_eq_true rfl) (sO8 SH hh) u7 (st' := []) rfl) ?_
        clear SH; have SH := SH2; clear SH2
        refine And.imp_left (rs_iload_n i_X8_rope_35 rfl) ?_
        by_cases c8 : v3 ≠ 0
        · replace hf := (if_pos c8).symm.trans hf
          refine And.imp_left (rs_ifT i_X8_rope_36 (ct_ne c8) (tg := 47) (by decide)) ?_
          refine And.imp_left (rs_iload_n i_X8_rope_47 rfl) ?_
          refine And.imp_left (rs_iconst i_X8_rope_48 (v := 1) (by decide)) ?_
          by_cases c9 : v3 ≠ 1
          · replace hf := (if_pos c9).symm.trans hf
            refine And.imp_left (rs_icT i_X8_rope_49 (ct_ne c9) (tg := 61) (by decide)) ?_
            refine And.imp_left (rs_aload_n i_X8_rope_61 rfl) ?_
            refine And.imp_left (rs_getR i_X8_rope_62 (by decide) (by decide) (sO8 SH hh) (sR8_39 SH hh)) ?_
            refine And.imp_left (rs_iload_n i_X8_rope_65 rfl) ?_
            obtain ⟨c10, hf⟩ := ite_some hf
            refine And.imp_left (rs_iald i_X8_rope_66 (mkI (sA SH hh (k := 9) (n := 12) (by decide)) c10)) ?_
            have hf := Option.some.inj hf
            subst hf
            exact ⟨rs_iret i_X8_rope_67 m_X8_rope rfl, SH⟩
          · replace hf := (if_neg c9).symm.trans hf
            refine And.imp_left (rs_icF i_X8_rope_49 (cf_ne c9)) ?_
            refine And.imp_left (rs_aload_n i_X8_rope_52 rfl) ?_
            refine And.imp_left (rs_getR i_X8_rope_53 (by decide) (by decide) (sO8 SH hh) (sR8_38 SH hh)) ?_
            refine And.imp_left (rs_iload_n i_X8_rope_56 rfl) ?_
            obtain ⟨c11, hf⟩ := ite_some hf
            refine And.imp_left (rs_iald i_X8_rope_57 (mkI (sA SH hh (k := 9) (n := 12) (by decide)) c11)) ?_
            refine And.imp_left (rs_goto i_X8_rope_58 (tg := 67) (by decide)) ?_
            have hf := Option.some.inj hf
            subst hf
            exact ⟨rs_iret i_X8_rope_67 m_X8_rope rfl, SH⟩
        · replace hf := (if_neg c8).symm.trans hf
          refine And.imp_left (rs_ifF i_X8_rope_36 (cf_ne c8)) ?_
          refine And.imp_left (rs_aload_n i_X8_rope_39 rfl) ?_
          refine And.imp_left (rs_iload_n i_X8_rope_40 rfl) ?_
          obtain ⟨o12, e12, hf⟩ := bind_some hf
          obtain ⟨u12, SH2⟩ := k_X8_thickOf (X := X) (d := d) (by omega) (by omega) SH e12
          refine And.imp_left (rs_inV i_X8_rope_41 m_X8_thickOf rfl (As := [.int v2]) (rest := []) rfl rfl (Nat.le_of_ble_eq_true rfl) (sO8 SH hh) u12 (st' := [.int o12.1]) rfl) ?_
          clear SH; have SH := SH2; clear SH2
          refine And.imp_left (rs_goto i_X8_rope_44 (tg := 67) (by decide)) ?_
          have hf := Option.some.inj hf
          subst hf
          exact ⟨rs_iret i_X8_rope_67 m_X8_rope rfl, SH⟩
      · replace hf := (if_neg c6).symm.trans hf
        refine And.imp_left (rs_ifF i_X8_rope_24 (cf_ne c6)) ?_
        refine And.imp_left (rs_bipush i_X8_rope_27 (v := (-7)) (by decide)) ?_
        have hf := Option.some.inj hf
        subst hf
        exact ⟨rs_iret i_X8_rope_29 m_X8_rope rfl, SH⟩
  · replace hf := (if_neg c2).symm.trans hf
    refine And.imp_left (rs_ifF i_X8_rope_5 (cf_ne c2)) ?_
    refine And.imp_left (rs_bipush i_X8_rope_8 (v := (-5)) (by decide)) ?_
    have hf := Option.some.inj hf
    subst hf
    exact ⟨rs_iret i_X8_rope_10 m_X8_rope rfl, SH⟩
noncomputable def g_X8_rope (n : Nat) (v1 : Int32) (v2 : Int32) (v3 : Int32) (h : Hp) : Option (Int32 × Hp) := g_X8_rope_0 n v1 v2 v3 h
theorem k_X8_rope {X : Nat → Int32} {d : Nat} (hd : 7 ≤ d) {L hi : Nat} (hh : 125 ≤ hi) {n : Nat} {v1 : Int32} {v2 : Int32} {v3 : Int32} {h : Hp} {o : (Int32 × Hp)}  (SH : SHP L hi h) (hf : g_X8_rope n v1 v2 v3 h = some o) : Calls X d 169 [.ref 96, .int v1, .int v2, .int v3] h (some (.int o.1), o.2) ∧ SHP L hi o.2 := by
  obtain ⟨d, rfl⟩ : ∃ z, d = z + 1 := ⟨d - 1, by omega⟩
  obtain ⟨r, S2⟩ := q_X8_rope_0 hd hh SH hf
  exact ⟨⟨_, rfl, r⟩, S2⟩
noncomputable def g_X8_least_28 (n : Nat) (K4 : Int32 → Int32 → Hp → Option (Int32 × Hp)) (v2 : Int32) (s0 : Int32) (h : Hp) : Option (Int32 × Hp) :=
  K4 s0 (v2 + 1) h
set_option maxRecDepth 100000 in
set_option maxHeartbeats 4000000 in
theorem q_X8_least_28 {X : Nat → Int32} {d : Nat} (hd : 1 ≤ (d + 1)) {L hi : Nat} (hh : 125 ≤ hi) {n : Nat} {K4 : Int32 → Int32 → Hp → Option (Int32 × Hp)} (HK4 : ∀ (v1 : Int32) (v2 : Int32) (h : Hp) (o : (Int32 × Hp)), SHP L hi h → K4 v1 v2 h = some o → Run X (d + 1) 170 4 [some (.ref 96), some (.int v1), some (.int v2)] [] h (some (.int o.1), o.2) ∧ SHP L hi o.2) {v2 : Int32} {s0 : Int32} {d1 : Int32} {h : Hp} {o : (Int32 × Hp)}  (SH : SHP L hi h) (hf : g_X8_least_28 n K4 v2 s0 h = some o) : Run X (d + 1) 170 28 [some (.ref 96), some (.int d1), some (.int v2)] [.int s0] h (some (.int o.1), o.2) ∧ SHP L hi o.2 := by
  unfold g_X8_least_28 at hf
  refine And.imp_left (rs_istore_n i_X8_least_28 (Nat.le_of_ble_eq_true rfl) (lv' := [some (.ref 96), some (.int s0), some (.int v2)]) rfl) ?_
  refine And.imp_left (rs_iinc i_X8_least_29 rfl (v := v2 + 1) rfl (Nat.le_of_ble_eq_true rfl) (lv' := [some (.ref 96), some (.int s0), some (.int (v2 + 1))]) rfl) ?_
  refine And.imp_left (rs_goto i_X8_least_32 (tg := 4) (by decide)) ?_
  exact HK4 _ _ _ _ SH hf
noncomputable def g_X8_least_4 (n : Nat) : Nat → Int32 → Int32 → Hp → Option (Int32 × Hp)
  | 0, _, _, _ => none
  | m + 1, v1, v2, h =>
    if 12 ≤ v2 then
      some (v1, h)
    else
      (g_X8_thickOf v2 h).bind fun o2 =>
      (g_X8_thickOf v1 o2.2).bind fun o3 =>
      if o3.1 ≤ o2.1 then
        g_X8_least_28 n (g_X8_least_4 n m) v2 v1 o3.2
      else
        g_X8_least_28 n (g_X8_least_4 n m) v2 v2 o3.2
set_option maxRecDepth 100000 in
set_option maxHeartbeats 4000000 in
theorem q_X8_least_4 {X : Nat → Int32} {d : Nat} (hd : 1 ≤ (d + 1)) {L hi : Nat} (hh : 125 ≤ hi) {n : Nat} : ∀ (m : Nat) (v1 : Int32) (v2 : Int32) (h : Hp) (o : (Int32 × Hp)), SHP L hi h → g_X8_least_4 n m v1 v2 h = some o → Run X (d + 1) 170 4 [some (.ref 96), some (.int v1), some (.int v2)] [] h (some (.int o.1), o.2) ∧ SHP L hi o.2 := by
  intro m
  induction m with
  | zero => intro v1 v2 h o SH hf; cases hf
  | succ m ih =>
    intro v1 v2 h o SH hf
    rw [g_X8_least_4] at hf
    refine And.imp_left (rs_iload_n i_X8_least_4 rfl) ?_
    refine And.imp_left (rs_bipush i_X8_least_5 (v := 12) (by decide)) ?_
    by_cases c1 : 12 ≤ v2
    · replace hf := (if_pos c1).symm.trans hf
      refine And.imp_left (rs_icT i_X8_least_7 (ct_ge c1) (tg := 35) (by decide)) ?_
      refine And.imp_left (rs_iload_n i_X8_least_35 rfl) ?_
      have hf := Option.some.inj hf
      subst hf
      exact ⟨rs_iret i_X8_least_36 m_X8_least rfl, SH⟩
    · replace hf := (if_neg c1).symm.trans hf
      refine And.imp_left (rs_icF i_X8_least_7 (cf_ge c1)) ?_
      refine And.imp_left (rs_aload_n i_X8_least_10 rfl) ?_
      refine And.imp_left (rs_iload_n i_X8_least_11 rfl) ?_
      obtain ⟨o2, e2, hf⟩ := bind_some hf
      obtain ⟨u2, SH2⟩ := k_X8_thickOf (X := X) (d := d) (by omega) (by omega) SH e2
      refine And.imp_left (rs_inV i_X8_least_12 m_X8_thickOf rfl (As := [.int v2]) (rest := []) rfl rfl (Nat.le_of_ble_eq_true rfl) (sO8 SH hh) u2 (st' := [.int o2.1]) rfl) ?_
      clear SH; have SH := SH2; clear SH2
      refine And.imp_left (rs_aload_n i_X8_least_15 rfl) ?_
      refine And.imp_left (rs_iload_n i_X8_least_16 rfl) ?_
      obtain ⟨o3, e3, hf⟩ := bind_some hf
      obtain ⟨u3, SH2⟩ := k_X8_thickOf (X := X) (d := d) (by omega) (by omega) SH e3
      refine And.imp_left (rs_inV i_X8_least_17 m_X8_thickOf rfl (As := [.int v1]) (rest := [.int o2.1]) rfl rfl (Nat.le_of_ble_eq_true rfl) (sO8 SH hh) u3 (st' := [.int o3.1, .int o2.1]) rfl) ?_
      clear SH; have SH := SH2; clear SH2
      by_cases c4 : o3.1 ≤ o2.1
      · replace hf := (if_pos c4).symm.trans hf
        refine And.imp_left (rs_icT i_X8_least_20 (ct_ge c4) (tg := 27) (by decide)) ?_
        refine And.imp_left (rs_iload_n i_X8_least_27 rfl) ?_
        exact q_X8_least_28 hd hh ih SH hf
      · replace hf := (if_neg c4).symm.trans hf
        refine And.imp_left (rs_icF i_X8_least_20 (cf_ge c4)) ?_
        refine And.imp_left (rs_iload_n i_X8_least_23 rfl) ?_
        refine And.imp_left (rs_goto i_X8_least_24 (tg := 28) (by decide)) ?_
        exact q_X8_least_28 hd hh ih SH hf
noncomputable def g_X8_least_0 (n : Nat)  (h : Hp) : Option (Int32 × Hp) :=
  g_X8_least_4 n n 0 1 h
set_option maxRecDepth 100000 in
set_option maxHeartbeats 4000000 in
theorem q_X8_least_0 {X : Nat → Int32} {d : Nat} (hd : 1 ≤ (d + 1)) {L hi : Nat} (hh : 125 ≤ hi) {n : Nat}  {h : Hp} {o : (Int32 × Hp)}  (SH : SHP L hi h) (hf : g_X8_least_0 n h = some o) : Run X (d + 1) 170 0 [some (.ref 96), none, none] [] h (some (.int o.1), o.2) ∧ SHP L hi o.2 := by
  unfold g_X8_least_0 at hf
  refine And.imp_left (rs_iconst i_X8_least_0 (v := 0) (by decide)) ?_
  refine And.imp_left (rs_istore_n i_X8_least_1 (Nat.le_of_ble_eq_true rfl) (lv' := [some (.ref 96), some (.int 0), none]) rfl) ?_
  refine And.imp_left (rs_iconst i_X8_least_2 (v := 1) (by decide)) ?_
  refine And.imp_left (rs_istore_n i_X8_least_3 (Nat.le_of_ble_eq_true rfl) (lv' := [some (.ref 96), some (.int 0), some (.int 1)]) rfl) ?_
  exact q_X8_least_4 hd hh _ _ _ _ _ SH hf
noncomputable def g_X8_least (n : Nat)  (h : Hp) : Option (Int32 × Hp) := g_X8_least_0 n h
theorem k_X8_least {X : Nat → Int32} {d : Nat} (hd : 1 ≤ d) {L hi : Nat} (hh : 125 ≤ hi) {n : Nat}  {h : Hp} {o : (Int32 × Hp)}  (SH : SHP L hi h) (hf : g_X8_least n h = some o) : Calls X d 170 [.ref 96] h (some (.int o.1), o.2) ∧ SHP L hi o.2 := by
  obtain ⟨d, rfl⟩ : ∃ z, d = z + 1 := ⟨d - 1, by omega⟩
  obtain ⟨r, S2⟩ := q_X8_least_0 hd hh SH hf
  exact ⟨⟨_, rfl, r⟩, S2⟩
noncomputable def g_X8_greatest_28 (n : Nat) (K4 : Int32 → Int32 → Hp → Option (Int32 × Hp)) (v2 : Int32) (s0 : Int32) (h : Hp) : Option (Int32 × Hp) :=
  K4 s0 (v2 + 1) h
set_option maxRecDepth 100000 in
set_option maxHeartbeats 4000000 in
theorem q_X8_greatest_28 {X : Nat → Int32} {d : Nat} (hd : 1 ≤ (d + 1)) {L hi : Nat} (hh : 125 ≤ hi) {n : Nat} {K4 : Int32 → Int32 → Hp → Option (Int32 × Hp)} (HK4 : ∀ (v1 : Int32) (v2 : Int32) (h : Hp) (o : (Int32 × Hp)), SHP L hi h → K4 v1 v2 h = some o → Run X (d + 1) 171 4 [some (.ref 96), some (.int v1), some (.int v2)] [] h (some (.int o.1), o.2) ∧ SHP L hi o.2) {v2 : Int32} {s0 : Int32} {d1 : Int32} {h : Hp} {o : (Int32 × Hp)}  (SH : SHP L hi h) (hf : g_X8_greatest_28 n K4 v2 s0 h = some o) : Run X (d + 1) 171 28 [some (.ref 96), some (.int d1), some (.int v2)] [.int s0] h (some (.int o.1), o.2) ∧ SHP L hi o.2 := by
  unfold g_X8_greatest_28 at hf
  refine And.imp_left (rs_istore_n i_X8_greatest_28 (Nat.le_of_ble_eq_true rfl) (lv' := [some (.ref 96), some (.int s0), some (.int v2)]) rfl) ?_
  refine And.imp_left (rs_iinc i_X8_greatest_29 rfl (v := v2 + 1) rfl (Nat.le_of_ble_eq_true rfl) (lv' := [some (.ref 96), some (.int s0), some (.int (v2 + 1))]) rfl) ?_
  refine And.imp_left (rs_goto i_X8_greatest_32 (tg := 4) (by decide)) ?_
  exact HK4 _ _ _ _ SH hf
noncomputable def g_X8_greatest_4 (n : Nat) : Nat → Int32 → Int32 → Hp → Option (Int32 × Hp)
  | 0, _, _, _ => none
  | m + 1, v1, v2, h =>
    if 12 ≤ v2 then
      some (v1, h)
    else
      (g_X8_thickOf v2 h).bind fun o2 =>
      (g_X8_thickOf v1 o2.2).bind fun o3 =>
      if o2.1 ≤ o3.1 then
        g_X8_greatest_28 n (g_X8_greatest_4 n m) v2 v1 o3.2
      else
        g_X8_greatest_28 n (g_X8_greatest_4 n m) v2 v2 o3.2
set_option maxRecDepth 100000 in
set_option maxHeartbeats 4000000 in
theorem q_X8_greatest_4 {X : Nat → Int32} {d : Nat} (hd : 1 ≤ (d + 1)) {L hi : Nat} (hh : 125 ≤ hi) {n : Nat} : ∀ (m : Nat) (v1 : Int32) (v2 : Int32) (h : Hp) (o : (Int32 × Hp)), SHP L hi h → g_X8_greatest_4 n m v1 v2 h = some o → Run X (d + 1) 171 4 [some (.ref 96), some (.int v1), some (.int v2)] [] h (some (.int o.1), o.2) ∧ SHP L hi o.2 := by
  intro m
  induction m with
  | zero => intro v1 v2 h o SH hf; cases hf
  | succ m ih =>
    intro v1 v2 h o SH hf
    rw [g_X8_greatest_4] at hf
    refine And.imp_left (rs_iload_n i_X8_greatest_4 rfl) ?_
    refine And.imp_left (rs_bipush i_X8_greatest_5 (v := 12) (by decide)) ?_
    by_cases c1 : 12 ≤ v2
    · replace hf := (if_pos c1).symm.trans hf
      refine And.imp_left (rs_icT i_X8_greatest_7 (ct_ge c1) (tg := 35) (by decide)) ?_
      refine And.imp_left (rs_iload_n i_X8_greatest_35 rfl) ?_
      have hf := Option.some.inj hf
      subst hf
      exact ⟨rs_iret i_X8_greatest_36 m_X8_greatest rfl, SH⟩
    · replace hf := (if_neg c1).symm.trans hf
      refine And.imp_left (rs_icF i_X8_greatest_7 (cf_ge c1)) ?_
      refine And.imp_left (rs_aload_n i_X8_greatest_10 rfl) ?_
      refine And.imp_left (rs_iload_n i_X8_greatest_11 rfl) ?_
      obtain ⟨o2, e2, hf⟩ := bind_some hf
      obtain ⟨u2, SH2⟩ := k_X8_thickOf (X := X) (d := d) (by omega) (by omega) SH e2
      refine And.imp_left (rs_inV i_X8_greatest_12 m_X8_thickOf rfl (As := [.int v2]) (rest := []) rfl rfl (Nat.le_of_ble_eq_true rfl) (sO8 SH hh) u2 (st' := [.int o2.1]) rfl) ?_
      clear SH; have SH := SH2; clear SH2
      refine And.imp_left (rs_aload_n i_X8_greatest_15 rfl) ?_
      refine And.imp_left (rs_iload_n i_X8_greatest_16 rfl) ?_
      obtain ⟨o3, e3, hf⟩ := bind_some hf
      obtain ⟨u3, SH2⟩ := k_X8_thickOf (X := X) (d := d) (by omega) (by omega) SH e3
      refine And.imp_left (rs_inV i_X8_greatest_17 m_X8_thickOf rfl (As := [.int v1]) (rest := [.int o2.1]) rfl rfl (Nat.le_of_ble_eq_true rfl) (sO8 SH hh) u3 (st' := [.int o3.1, .int o2.1]) rfl) ?_
      clear SH; have SH := SH2; clear SH2
      by_cases c4 : o2.1 ≤ o3.1
      · replace hf := (if_pos c4).symm.trans hf
        refine And.imp_left (rs_icT i_X8_greatest_20 (ct_le c4) (tg := 27) (by decide)) ?_
        refine And.imp_left (rs_iload_n i_X8_greatest_27 rfl) ?_
        exact q_X8_greatest_28 hd hh ih SH hf
      · replace hf := (if_neg c4).symm.trans hf
        refine And.imp_left (rs_icF i_X8_greatest_20 (cf_le c4)) ?_
        refine And.imp_left (rs_iload_n i_X8_greatest_23 rfl) ?_
        refine And.imp_left (rs_goto i_X8_greatest_24 (tg := 28) (by decide)) ?_
        exact q_X8_greatest_28 hd hh ih SH hf
noncomputable def g_X8_greatest_0 (n : Nat)  (h : Hp) : Option (Int32 × Hp) :=
  g_X8_greatest_4 n n 0 1 h
set_option maxRecDepth 100000 in
set_option maxHeartbeats 4000000 in
theorem q_X8_greatest_0 {X : Nat → Int32} {d : Nat} (hd : 1 ≤ (d + 1)) {L hi : Nat} (hh : 125 ≤ hi) {n : Nat}  {h : Hp} {o : (Int32 × Hp)}  (SH : SHP L hi h) (hf : g_X8_greatest_0 n h = some o) : Run X (d + 1) 171 0 [some (.ref 96), none, none] [] h (some (.int o.1), o.2) ∧ SHP L hi o.2 := by
  unfold g_X8_greatest_0 at hf
  refine And.imp_left (rs_iconst i_X8_greatest_0 (v := 0) (by decide)) ?_
  refine And.imp_left (rs_istore_n i_X8_greatest_1 (Nat.le_of_ble_eq_true rfl) (lv' := [some (.ref 96), some (.int 0), none]) rfl) ?_
  refine And.imp_left (rs_iconst i_X8_greatest_2 (v := 1) (by decide)) ?_
  refine And.imp_left (rs_istore_n i_X8_greatest_3 (Nat.le_of_ble_eq_true rfl) (lv' := [some (.ref 96), some (.int 0), some (.int 1)]) rfl) ?_
  exact q_X8_greatest_4 hd hh _ _ _ _ _ SH hf
noncomputable def g_X8_greatest (n : Nat)  (h : Hp) : Option (Int32 × Hp) := g_X8_greatest_0 n h
theorem k_X8_greatest {X : Nat → Int32} {d : Nat} (hd : 1 ≤ d) {L hi : Nat} (hh : 125 ≤ hi) {n : Nat}  {h : Hp} {o : (Int32 × Hp)}  (SH : SHP L hi h) (hf : g_X8_greatest n h = some o) : Calls X d 171 [.ref 96] h (some (.int o.1), o.2) ∧ SHP L hi o.2 := by
  obtain ⟨d, rfl⟩ : ∃ z, d = z + 1 := ⟨d - 1, by omega⟩
  obtain ⟨r, S2⟩ := q_X8_greatest_0 hd hh SH hf
  exact ⟨⟨_, rfl, r⟩, S2⟩
