noncomputable def g_X7_whole_0 (n : Nat) (v1 : Int32) (v2 : Int32) (h : Hp) : Option (Int64 × Hp) :=
  (g_X7_areSteps v1 h).bind fun o1 =>
  if o1.1 = 0 then
    some ((-4611686018427387904), o1.2)
  else
    (g_X7_within v2 0 2 o1.2).bind fun o3 =>
    if o3.1 ≠ 0 then
      (g_X7_make n 17 v1 (-1) (-1) o3.2).bind fun o5 =>
      if v2 = 0 then
        some ((gL' o5 82 10), o5)
      else
        if v2 = 1 then
          some ((gL' o5 82 11), o5)
        else
          (g_X3_goodParts 82 o5).bind fun o8 =>
          some (o8.1, o8.2)
    else
      some ((-4611686018427387904), o3.2)
set_option maxRecDepth 100000 in
set_option maxHeartbeats 4000000 in
theorem q_X7_whole_0 {X : Nat → Int32} {d : Nat} (hd : 7 ≤ (d + 1)) {L hi : Nat} (hh : 96 ≤ hi) {n : Nat} {v1 : Int32} {v2 : Int32} {h : Hp} {o : (Int64 × Hp)}  (SH : SHP L hi h) (hf : g_X7_whole_0 n v1 v2 h = some o) : Run X (d + 1) 78 0 [some (.ref 16), some (.int v1), some (.int v2)] [] h (some (.long o.1), o.2) ∧ SHP L hi o.2 := by
  unfold g_X7_whole_0 at hf
  refine And.imp_left (rs_aload_n i_X7_whole_0 rfl) ?_
  refine And.imp_left (rs_iload_n i_X7_whole_1 rfl) ?_
  obtain ⟨o1, e1, hf⟩ := bind_some hf
  obtain ⟨u1, SH2⟩ := k_X7_areSteps (X := X) (d := d) (by omega) (by omega) SH e1
  refine And.imp_left (rs_inV i_X7_whole_2 m_X7_areSteps rfl (As := [.int v1]) (rest := []) rfl rfl (Nat.le_of_ble_eq_true rfl) (sO7 SH hh) u1 (st' := [.int o1.1]) rfl) ?_
  clear SH; have SH := SH2; clear SH2
  by_cases c2 : o1.1 = 0
  · replace hf := (if_pos c2).symm.trans hf
    refine And.imp_left (rs_ifT i_X7_whole_5 (ct_eq c2) (tg := 17) (by decide)) ?_
    refine And.imp_left (rs_ldc2 i_X7_whole_17 (v := (-4611686018427387904)) (by decide)) ?_
    have hf := Option.some.inj hf
    subst hf
    exact ⟨rs_lret i_X7_whole_20 m_X7_whole rfl, SH⟩
  · replace hf := (if_neg c2).symm.trans hf
    refine And.imp_left (rs_ifF i_X7_whole_5 (cf_eq c2)) ?_
    refine And.imp_left (rs_iload_n i_X7_whole_8 rfl) ?_
    refine And.imp_left (rs_iconst i_X7_whole_9 (v := 0) (by decide)) ?_
    refine And.imp_left (rs_iconst i_X7_whole_10 (v := 2) (by decide)) ?_
    obtain ⟨o3, e3, hf⟩ := bind_some hf
    obtain ⟨u3, SH2⟩ := k_X7_within (X := X) (d := d) (by omega) (by omega) SH e3
    refine And.imp_left (rs_inS i_X7_whole_11 (by decide) m_X7_within rfl (As := [.int v2, .int 0, .int 2]) (rest := []) rfl rfl (Nat.le_of_ble_eq_true rfl) u3 (st' := [.int o3.1]) rfl) ?_
    clear SH; have SH := SH2; clear SH2
    by_cases c4 : o3.1 ≠ 0
    · replace hf := (if_pos c4).symm.trans hf
      refine And.imp_left (rs_ifT i_X7_whole_14 (ct_ne c4) (tg := 21) (by decide)) ?_
      refine And.imp_left (rs_aload_n i_X7_whole_21 rfl) ?_
      refine And.imp_left (rs_aload_n i_X7_whole_22 rfl) ?_
      refine And.imp_left (rs_getR i_X7_whole_23 (by decide) (by decide) (sO7 SH hh) (sR7_0 SH hh)) ?_
      refine And.imp_left (rs_iload_n i_X7_whole_26 rfl) ?_
      refine And.imp_left (rs_iconst i_X7_whole_27 (v := (-1)) (by decide)) ?_
      refine And.imp_left (rs_iconst i_X7_whole_28 (v := (-1)) (by decide)) ?_
      obtain ⟨o5, e5, hf⟩ := bind_some hf
      obtain ⟨u5, SH2⟩ := k_X7_make (X := X) (d := d) (by omega) (by omega) (by decide) SH e5
      refine And.imp_left (rs_inV i_X7_whole_29 m_X7_make rfl (As := [.ref 17, .int v1, .int (-1), .int (-1)]) (rest := []) rfl rfl (Nat.le_of_ble_eq_true rfl) (sO7 SH hh) u5 (st' := []) rfl) ?_
      clear SH; have SH := SH2; clear SH2
      refine And.imp_left (rs_iload_n i_X7_whole_32 rfl) ?_
      by_cases c6 : v2 = 0
      · replace hf := (if_pos c6).symm.trans hf
        refine And.imp_left (rs_lsw i_X7_whole_33 (off := 27) (by rw [c6]; decide) (tg := 60) (by decide)) ?_
        refine And.imp_left (rs_aload_n i_X7_whole_60 rfl) ?_
        refine And.imp_left (rs_getR i_X7_whole_61 (by decide) (by decide) (sO7 SH hh) (sR7_7 SH hh)) ?_
        refine And.imp_left (rs_getL i_X7_whole_64 (by decide) (by decide) (sO3 SH hh (by decide))) ?_
        have hf := Option.some.inj hf
        subst hf
        exact ⟨rs_lret i_X7_whole_67 m_X7_whole rfl, SH⟩
      · replace hf := (if_neg c6).symm.trans hf
        by_cases c7 : v2 = 1
        · replace hf := (if_pos c7).symm.trans hf
          refine And.imp_left (rs_lsw i_X7_whole_33 (off := 35) (by rw [c7]; decide) (tg := 68) (by decide)) ?_
          refine And.imp_left (rs_aload_n i_X7_whole_68 rfl) ?_
          refine And.imp_left (rs_getR i_X7_whole_69 (by decide) (by decide) (sO7 SH hh) (sR7_7 SH hh)) ?_
          refine And.imp_left (rs_getL i_X7_whole_72 (by decide) (by decide) (sO3 SH hh (by decide))) ?_
          have hf := Option.some.inj hf
          subst hf
          exact ⟨rs_lret i_X7_whole_75 m_X7_whole rfl, SH⟩
        · replace hf := (if_neg c7).symm.trans hf
          refine And.imp_left (rs_lsw i_X7_whole_33 (off := 43) (by have z0 := ne_ti c6; rw [show (0 : Int32).toInt = 0 from by decide] at z0; have z1 := ne_ti c7; rw [show (1 : Int32).toInt = 1 from by decide] at z1; simp [Op.lookupswitch.offset, Ne.symm z0, z0, Ne.symm z1, z1]) (tg := 76) (by decide)) ?_
          refine And.imp_left (rs_aload_n i_X7_whole_76 rfl) ?_
          refine And.imp_left (rs_getR i_X7_whole_77 (by decide) (by decide) (sO7 SH hh) (sR7_7 SH hh)) ?_
          obtain ⟨o8, e8, hf⟩ := bind_some hf
          obtain ⟨u8, SH2⟩ := k_X3_goodParts (X := X) (d := d) (by omega) (by omega) (by decide) SH e8
          refine And.imp_left (rs_inV i_X7_whole_80 m_X3_goodParts rfl (As := []) (rest := []) rfl rfl (Nat.le_of_ble_eq_true rfl) (sO3 SH hh (by decide)) u8 (st' := [.long o8.1]) rfl) ?_
          clear SH; have SH := SH2; clear SH2
          have hf := Option.some.inj hf
          subst hf
          exact ⟨rs_lret i_X7_whole_83 m_X7_whole rfl, SH⟩
    · replace hf := (if_neg c4).symm.trans hf
      refine And.imp_left (rs_ifF i_X7_whole_14 (cf_ne c4)) ?_
      refine And.imp_left (rs_ldc2 i_X7_whole_17 (v := (-4611686018427387904)) (by decide)) ?_
      have hf := Option.some.inj hf
      subst hf
      exact ⟨rs_lret i_X7_whole_20 m_X7_whole rfl, SH⟩
noncomputable def g_X7_whole (n : Nat) (v1 : Int32) (v2 : Int32) (h : Hp) : Option (Int64 × Hp) := g_X7_whole_0 n v1 v2 h
theorem k_X7_whole {X : Nat → Int32} {d : Nat} (hd : 7 ≤ d) {L hi : Nat} (hh : 96 ≤ hi) {n : Nat} {v1 : Int32} {v2 : Int32} {h : Hp} {o : (Int64 × Hp)}  (SH : SHP L hi h) (hf : g_X7_whole n v1 v2 h = some o) : Calls X d 78 [.ref 16, .int v1, .int v2] h (some (.long o.1), o.2) ∧ SHP L hi o.2 := by
  obtain ⟨d, rfl⟩ : ∃ z, d = z + 1 := ⟨d - 1, by omega⟩
  obtain ⟨r, S2⟩ := q_X7_whole_0 hd hh SH hf
  exact ⟨⟨_, rfl, r⟩, S2⟩
noncomputable def g_X7_stop_80 (n : Nat) (K28 : Int32 → Int32 → Int32 → Hp → Option (Int32 × Hp)) (v1 : Int32) (v2 : Int32) (v3 : Int32) (h : Hp) : Option (Int32 × Hp) :=
  K28 v1 v2 (v3 + 1) h
set_option maxRecDepth 100000 in
set_option maxHeartbeats 4000000 in
theorem q_X7_stop_80 {X : Nat → Int32} {d : Nat} (hd : 7 ≤ (d + 1)) {L hi : Nat} (hh : 96 ≤ hi) {n : Nat} {K28 : Int32 → Int32 → Int32 → Hp → Option (Int32 × Hp)} (HK28 : ∀ (v1 : Int32) (v2 : Int32) (v3 : Int32) (h : Hp) (o : (Int32 × Hp)), SHP L hi h → K28 v1 v2 v3 h = some o → Run X (d + 1) 79 28 [some (.ref 16), some (.int v1), some (.int v2), some (.int v3)] [] h (some (.int o.1), o.2) ∧ SHP L hi o.2) {v1 : Int32} {v2 : Int32} {v3 : Int32} {h : Hp} {o : (Int32 × Hp)}  (SH : SHP L hi h) (hf : g_X7_stop_80 n K28 v1 v2 v3 h = some o) : Run X (d + 1) 79 80 [some (.ref 16), some (.int v1), some (.int v2), some (.int v3)] [] h (some (.int o.1), o.2) ∧ SHP L hi o.2 := by
  unfold g_X7_stop_80 at hf
  refine And.imp_left (rs_iinc i_X7_stop_80 rfl (v := v3 + 1) rfl (Nat.le_of_ble_eq_true rfl) (lv' := [some (.ref 16), some (.int v1), some (.int v2), some (.int (v3 + 1))]) rfl) ?_
  refine And.imp_left (rs_goto i_X7_stop_83 (tg := 28) (by decide)) ?_
  exact HK28 _ _ _ _ _ SH hf
noncomputable def g_X7_stop_28 (n : Nat) : Nat → Int32 → Int32 → Int32 → Hp → Option (Int32 × Hp)
  | 0, _, _, _, _ => none
  | m + 1, v1, v2, v3, h =>
    if (gI h 16 12) ≤ v3 then
      some (v2, h)
    else
      if 12 ≤ v3 then
        some (v2, h)
      else
        if inb v3 12 = true then
        (g_X3_make n 82 (36 + ix v3) h).bind fun o4 =>
        (g_X3_goodParts 82 o4).bind fun o5 =>
        if (o5.1 * 100) < ((Int32.toInt64 v1) * 1000000000) then
          g_X7_stop_80 n (g_X7_stop_28 n m) v1 v2 v3 o5.2
        else
          g_X7_stop_80 n (g_X7_stop_28 n m) v1 (v3 + 1) v3 o5.2
        else none
set_option maxRecDepth 100000 in
set_option maxHeartbeats 4000000 in
theorem q_X7_stop_28 {X : Nat → Int32} {d : Nat} (hd : 7 ≤ (d + 1)) {L hi : Nat} (hh : 96 ≤ hi) {n : Nat} : ∀ (m : Nat) (v1 : Int32) (v2 : Int32) (v3 : Int32) (h : Hp) (o : (Int32 × Hp)), SHP L hi h → g_X7_stop_28 n m v1 v2 v3 h = some o → Run X (d + 1) 79 28 [some (.ref 16), some (.int v1), some (.int v2), some (.int v3)] [] h (some (.int o.1), o.2) ∧ SHP L hi o.2 := by
  intro m
  induction m with
  | zero => intro v1 v2 v3 h o SH hf; cases hf
  | succ m ih =>
    intro v1 v2 v3 h o SH hf
    rw [g_X7_stop_28] at hf
    refine And.imp_left (rs_iload_n i_X7_stop_28 rfl) ?_
    refine And.imp_left (rs_aload_n i_X7_stop_29 rfl) ?_
    refine And.imp_left (rs_getI i_X7_stop_30 (by decide) (by decide) (sO7 SH hh)) ?_
    by_cases c1 : (gI h 16 12) ≤ v3
    · replace hf := (if_pos c1).symm.trans hf
      refine And.imp_left (rs_icT i_X7_stop_33 (ct_ge c1) (tg := 86) (by decide)) ?_
      refine And.imp_left (rs_iload_n i_X7_stop_86 rfl) ?_
      have hf := Option.some.inj hf
      subst hf
      exact ⟨rs_iret i_X7_stop_87 m_X7_stop rfl, SH⟩
    · replace hf := (if_neg c1).symm.trans hf
      refine And.imp_left (rs_icF i_X7_stop_33 (cf_ge c1)) ?_
      refine And.imp_left (rs_iload_n i_X7_stop_36 rfl) ?_
      refine And.imp_left (rs_bipush i_X7_stop_37 (v := 12) (by decide)) ?_
      by_cases c2 : 12 ≤ v3
      · replace hf := (if_pos c2).symm.trans hf
        refine And.imp_left (rs_icT i_X7_stop_39 (ct_ge c2) (tg := 86) (by decide)) ?_
        refine And.imp_left (rs_iload_n i_X7_stop_86 rfl) ?_
        have hf := Option.some.inj hf
        subst hf
        exact ⟨rs_iret i_X7_stop_87 m_X7_stop rfl, SH⟩
      · replace hf := (if_neg c2).symm.trans hf
        refine And.imp_left (rs_icF i_X7_stop_39 (cf_ge c2)) ?_
        refine And.imp_left (rs_aload_n i_X7_stop_42 rfl) ?_
        refine And.imp_left (rs_getR i_X7_stop_43 (by decide) (by decide) (sO7 SH hh) (sR7_7 SH hh)) ?_
        refine And.imp_left (rs_aload_n i_X7_stop_46 rfl) ?_
        refine And.imp_left (rs_getR i_X7_stop_47 (by decide) (by decide) (sO7 SH hh) (sR7_3 SH hh)) ?_
        refine And.imp_left (rs_iload_n i_X7_stop_50 rfl) ?_
        obtain ⟨c3, hf⟩ := ite_some hf
        refine And.imp_left (rs_aald i_X7_stop_51 (mkR (sA SH hh (k := 12) (n := 12) (by decide)) (by decide) c3) (sE29 SH hh c3)) ?_
        obtain ⟨o4, e4, hf⟩ := bind_some hf
        obtain ⟨u4, SH2⟩ := k_X3_make (X := X) (d := d) (by omega) (by omega) (by decide) (oE29 c3) SH e4
        refine And.imp_left (rs_inV i_X7_stop_52 m_X3_make rfl (As := [.ref (36 + ix v3)]) (rest := []) rfl rfl (Nat.le_of_ble_eq_true rfl) (sO3 SH hh (by decide)) u4 (st' := []) rfl) ?_
        clear SH; have SH := SH2; clear SH2
        refine And.imp_left (rs_aload_n i_X7_stop_55 rfl) ?_
        refine And.imp_left (rs_getR i_X7_stop_56 (by decide) (by decide) (sO7 SH hh) (sR7_7 SH hh)) ?_
        obtain ⟨o5, e5, hf⟩ := bind_some hf
        obtain ⟨u5, SH2⟩ := k_X3_goodParts (X := X) (d := d) (by omega) (by omega) (by decide) SH e5
        refine And.imp_left (rs_inV i_X7_stop_59 m_X3_goodParts rfl (As := []) (rest := []) rfl rfl (Nat.le_of_ble_eq_true rfl) (sO3 SH hh (by decide)) u5 (st' := [.long o5.1]) rfl) ?_
        clear SH; have SH := SH2; clear SH2
        refine And.imp_left (rs_ldc2 i_X7_stop_62 (v := 100) (by decide)) ?_
        refine And.imp_left (rs_lmul i_X7_stop_65) ?_
        refine And.imp_left (rs_iload_n i_X7_stop_66 rfl) ?_
        refine And.imp_left (rs_i2l i_X7_stop_67) ?_
        refine And.imp_left (rs_ldc2 i_X7_stop_68 (v := 1000000000) (by decide)) ?_
        refine And.imp_left (rs_lmul i_X7_stop_71) ?_
        refine And.imp_left (rs_lcmp i_X7_stop_72) ?_
        by_cases c6 : (o5.1 * 100) < ((Int32.toInt64 v1) * 1000000000)
        · replace hf := (if_pos c6).symm.trans hf
          refine And.imp_left (rs_ifT i_X7_stop_73 (by rw [lc_lt]; exact decide_eq_true c6) (tg := 80) (by decide)) ?_
          exact q_X7_stop_80 hd hh ih SH hf
        · replace hf := (if_neg c6).symm.trans hf
          refine And.imp_left (rs_ifF i_X7_stop_73 (by rw [lc_lt]; exact decide_eq_false c6)) ?_
          refine And.imp_left (rs_iload_n i_X7_stop_76 rfl) ?_
          refine And.imp_left (rs_iconst i_X7_stop_77 (v := 1) (by decide)) ?_
          refine And.imp_left (rs_iadd i_X7_stop_78) ?_
          refine And.imp_left (rs_istore_n i_X7_stop_79 (Nat.le_of_ble_eq_true rfl) (lv' := [some (.ref 16), some (.int v1), some (.int (v3 + 1)), some (.int v3)]) rfl) ?_
          exact q_X7_stop_80 hd hh ih SH hf
noncomputable def g_X7_stop_0 (n : Nat) (v1 : Int32) (h : Hp) : Option (Int32 × Hp) :=
  (g_X7_within v1 0 100 h).bind fun o1 =>
  if o1.1 ≠ 0 then
    (g_X7_make n 17 0 (-1) (-1) o1.2).bind fun o3 =>
    g_X7_stop_28 n n v1 0 0 o3
  else
    some ((-2), o1.2)
set_option maxRecDepth 100000 in
set_option maxHeartbeats 4000000 in
theorem q_X7_stop_0 {X : Nat → Int32} {d : Nat} (hd : 7 ≤ (d + 1)) {L hi : Nat} (hh : 96 ≤ hi) {n : Nat} {v1 : Int32} {h : Hp} {o : (Int32 × Hp)}  (SH : SHP L hi h) (hf : g_X7_stop_0 n v1 h = some o) : Run X (d + 1) 79 0 [some (.ref 16), some (.int v1), none, none] [] h (some (.int o.1), o.2) ∧ SHP L hi o.2 := by
  unfold g_X7_stop_0 at hf
  refine And.imp_left (rs_iload_n i_X7_stop_0 rfl) ?_
  refine And.imp_left (rs_iconst i_X7_stop_1 (v := 0) (by decide)) ?_
  refine And.imp_left (rs_bipush i_X7_stop_2 (v := 100) (by decide)) ?_
  obtain ⟨o1, e1, hf⟩ := bind_some hf
  obtain ⟨u1, SH2⟩ := k_X7_within (X := X) (d := d) (by omega) (by omega) SH e1
  refine And.imp_left (rs_inS i_X7_stop_4 (by decide) m_X7_within rfl (As := [.int v1, .int 0, .int 100]) (rest := []) rfl rfl (Nat.le_of_ble_eq_true rfl) u1 (st' := [.int o1.1]) rfl) ?_
  clear SH; have SH := SH2; clear SH2
  by_cases c2 : o1.1 ≠ 0
  · replace hf := (if_pos c2).symm.trans hf
    refine And.imp_left (rs_ifT i_X7_stop_7 (ct_ne c2) (tg := 13) (by decide)) ?_
    refine And.imp_left (rs_aload_n i_X7_stop_13 rfl) ?_
    refine And.imp_left (rs_aload_n i_X7_stop_14 rfl) ?_
    refine And.imp_left (rs_getR i_X7_stop_15 (by decide) (by decide) (sO7 SH hh) (sR7_0 SH hh)) ?_
    refine And.imp_left (rs_iconst i_X7_stop_18 (v := 0) (by decide)) ?_
    refine And.imp_left (rs_iconst i_X7_stop_19 (v := (-1)) (by decide)) ?_
    refine And.imp_left (rs_iconst i_X7_stop_20 (v := (-1)) (by decide)) ?_
    obtain ⟨o3, e3, hf⟩ := bind_some hf
    obtain ⟨u3, SH2⟩ := k_X7_make (X := X) (d := d) (by omega) (by omega) (by decide) SH e3
    refine And.imp_left (rs_inV i_X7_stop_21 m_X7_make rfl (As := [.ref 17, .int 0, .int (-1), .int (-1)]) (rest := []) rfl rfl (Nat.le_of_ble_eq_true rfl) (sO7 SH hh) u3 (st' := []) rfl) ?_
    clear SH; have SH := SH2; clear SH2
    refine And.imp_left (rs_iconst i_X7_stop_24 (v := 0) (by decide)) ?_
    refine And.imp_left (rs_istore_n i_X7_stop_25 (Nat.le_of_ble_eq_true rfl) (lv' := [some (.ref 16), some (.int v1), some (.int 0), none]) rfl) ?_
    refine And.imp_left (rs_iconst i_X7_stop_26 (v := 0) (by decide)) ?_
    refine And.imp_left (rs_istore_n i_X7_stop_27 (Nat.le_of_ble_eq_true rfl) (lv' := [some (.ref 16), some (.int v1), some (.int 0), some (.int 0)]) rfl) ?_
    exact q_X7_stop_28 hd hh _ _ _ _ _ _ SH hf
  · replace hf := (if_neg c2).symm.trans hf
    refine And.imp_left (rs_ifF i_X7_stop_7 (cf_ne c2)) ?_
    refine And.imp_left (rs_bipush i_X7_stop_10 (v := (-2)) (by decide)) ?_
    have hf := Option.some.inj hf
    subst hf
    exact ⟨rs_iret i_X7_stop_12 m_X7_stop rfl, SH⟩
noncomputable def g_X7_stop (n : Nat) (v1 : Int32) (h : Hp) : Option (Int32 × Hp) := g_X7_stop_0 n v1 h
theorem k_X7_stop {X : Nat → Int32} {d : Nat} (hd : 7 ≤ d) {L hi : Nat} (hh : 96 ≤ hi) {n : Nat} {v1 : Int32} {h : Hp} {o : (Int32 × Hp)}  (SH : SHP L hi h) (hf : g_X7_stop n v1 h = some o) : Calls X d 79 [.ref 16, .int v1] h (some (.int o.1), o.2) ∧ SHP L hi o.2 := by
  obtain ⟨d, rfl⟩ : ∃ z, d = z + 1 := ⟨d - 1, by omega⟩
  obtain ⟨r, S2⟩ := q_X7_stop_0 hd hh SH hf
  exact ⟨⟨_, rfl, r⟩, S2⟩
noncomputable def g_X7_worst_82 (n : Nat) (K18 : Int32 → Int64 → Int32 → Hp → Option (Int32 × Hp)) (v1 : Int32) (v2 : Int64) (v4 : Int32) (h : Hp) : Option (Int32 × Hp) :=
  K18 v1 v2 (v4 + 1) h
set_option maxRecDepth 100000 in
set_option maxHeartbeats 4000000 in
theorem q_X7_worst_82 {X : Nat → Int32} {d : Nat} (hd : 7 ≤ (d + 1)) {L hi : Nat} (hh : 96 ≤ hi) {n : Nat} {K18 : Int32 → Int64 → Int32 → Hp → Option (Int32 × Hp)} (HK18 : ∀ (v1 : Int32) (v2 : Int64) (v4 : Int32) (w5 : Option Value) (w6 : Option Value) (w7 : Option Value) (w8 : Option Value) (h : Hp) (o : (Int32 × Hp)), SHP L hi h → K18 v1 v2 v4 h = some o → Run X (d + 1) 80 18 [some (.ref 16), some (.int v1), some (.long v2), none, some (.int v4), w5, w6, w7, w8] [] h (some (.int o.1), o.2) ∧ SHP L hi o.2) {v1 : Int32} {v2 : Int64} {v4 : Int32} {d5 : Int64} {d7 : Int64} {h : Hp} {o : (Int32 × Hp)}  (SH : SHP L hi h) (hf : g_X7_worst_82 n K18 v1 v2 v4 h = some o) : Run X (d + 1) 80 82 [some (.ref 16), some (.int v1), some (.long v2), none, some (.int v4), some (.long d5), none, some (.long d7), none] [] h (some (.int o.1), o.2) ∧ SHP L hi o.2 := by
  unfold g_X7_worst_82 at hf
  refine And.imp_left (rs_iinc i_X7_worst_82 rfl (v := v4 + 1) rfl (Nat.le_of_ble_eq_true rfl) (lv' := [some (.ref 16), some (.int v1), some (.long v2), none, some (.int (v4 + 1)), some (.long d5), none, some (.long d7), none]) rfl) ?_
  refine And.imp_left (rs_goto i_X7_worst_85 (tg := 18) (by decide)) ?_
  exact HK18 _ _ _ _ _ _ _ _ _ SH hf
noncomputable def g_X7_worst_18 (n : Nat) : Nat → Int32 → Int64 → Int32 → Hp → Option (Int32 × Hp)
  | 0, _, _, _, _ => none
  | m + 1, v1, v2, v4, h =>
    if (gI h 16 12) ≤ v4 then
      some (v1, h)
    else
      if 12 ≤ v4 then
        some (v1, h)
      else
        (g_X3_goodParts 82 h).bind fun o3 =>
        if inb v4 12 = true then
        (g_X3_make n 82 (36 + ix v4) o3.2).bind fun o5 =>
        (g_X3_goodParts 82 o5).bind fun o6 =>
        if (o3.1 - o6.1) ≤ v2 then
          g_X7_worst_82 n (g_X7_worst_18 n m) v1 v2 v4 o6.2
        else
          g_X7_worst_82 n (g_X7_worst_18 n m) v4 (o3.1 - o6.1) v4 o6.2
        else none
set_option maxRecDepth 100000 in
set_option maxHeartbeats 4000000 in
theorem q_X7_worst_18 {X : Nat → Int32} {d : Nat} (hd : 7 ≤ (d + 1)) {L hi : Nat} (hh : 96 ≤ hi) {n : Nat} : ∀ (m : Nat) (v1 : Int32) (v2 : Int64) (v4 : Int32) (w5 : Option Value) (w6 : Option Value) (w7 : Option Value) (w8 : Option Value) (h : Hp) (o : (Int32 × Hp)), SHP L hi h → g_X7_worst_18 n m v1 v2 v4 h = some o → Run X (d + 1) 80 18 [some (.ref 16), some (.int v1), some (.long v2), none, some (.int v4), w5, w6, w7, w8] [] h (some (.int o.1), o.2) ∧ SHP L hi o.2 := by
  intro m
  induction m with
  | zero => intro v1 v2 v4 w5 w6 w7 w8 h o SH hf; cases hf
  | succ m ih =>
    intro v1 v2 v4 w5 w6 w7 w8 h o SH hf
    rw [g_X7_worst_18] at hf
    refine And.imp_left (rs_iload i_X7_worst_18 rfl) ?_
    refine And.imp_left (rs_aload_n i_X7_worst_20 rfl) ?_
    refine And.imp_left (rs_getI i_X7_worst_21 (by decide) (by decide) (sO7 SH hh)) ?_
    by_cases c1 : (gI h 16 12) ≤ v4
    · replace hf := (if_pos c1).symm.trans hf
      refine And.imp_left (rs_icT i_X7_worst_24 (ct_ge c1) (tg := 88) (by decide)) ?_
      refine And.imp_left (rs_iload_n i_X7_worst_88 rfl) ?_
      have hf := Option.some.inj hf
      subst hf
      exact ⟨rs_iret i_X7_worst_89 m_X7_worst rfl, SH⟩
    · replace hf := (if_neg c1).symm.trans hf
      refine And.imp_left (rs_icF i_X7_worst_24 (cf_ge c1)) ?_
      refine And.imp_left (rs_iload i_X7_worst_27 rfl) ?_
      refine And.imp_left (rs_bipush i_X7_worst_29 (v := 12) (by decide)) ?_
      by_cases c2 : 12 ≤ v4
      · replace hf := (if_pos c2).symm.trans hf
        refine And.imp_left (rs_icT i_X7_worst_31 (ct_ge c2) (tg := 88) (by decide)) ?_
        refine And.imp_left (rs_iload_n i_X7_worst_88 rfl) ?_
        have hf := Option.some.inj hf
        subst hf
        exact ⟨rs_iret i_X7_worst_89 m_X7_worst rfl, SH⟩
      · replace hf := (if_neg c2).symm.trans hf
        refine And.imp_left (rs_icF i_X7_worst_31 (cf_ge c2)) ?_
        refine And.imp_left (rs_aload_n i_X7_worst_34 rfl) ?_
        refine And.imp_left (rs_getR i_X7_worst_35 (by decide) (by decide) (sO7 SH hh) (sR7_7 SH hh)) ?_
        obtain ⟨o3, e3, hf⟩ := bind_some hf
        obtain ⟨u3, SH2⟩ := k_X3_goodParts (X := X) (d := d) (by omega) (by omega) (by decide) SH e3
        refine And.imp_left (rs_inV i_X7_worst_38 m_X3_goodParts rfl (As := []) (rest := []) rfl rfl (Nat.le_of_ble_eq_true rfl) (sO3 SH hh (by decide)) u3 (st' := [.long o3.1]) rfl) ?_
        clear SH; have SH := SH2; clear SH2
        refine And.imp_left (rs_lstore i_X7_worst_41 (Nat.le_of_ble_eq_true rfl) (lv' := [some (.ref 16), some (.int v1), some (.long v2), none, some (.int v4), some (.long o3.1), none, w7, w8]) rfl) ?_
        refine And.imp_left (rs_aload_n i_X7_worst_43 rfl) ?_
        refine And.imp_left (rs_getR i_X7_worst_44 (by decide) (by decide) (sO7 SH hh) (sR7_7 SH hh)) ?_
        refine And.imp_left (rs_aload_n i_X7_worst_47 rfl) ?_
        refine And.imp_left (rs_getR i_X7_worst_48 (by decide) (by decide) (sO7 SH hh) (sR7_3 SH hh)) ?_
        refine And.imp_left (rs_iload i_X7_worst_51 rfl) ?_
        obtain ⟨c4, hf⟩ := ite_some hf
        refine And.imp_left (rs_aald i_X7_worst_53 (mkR (sA SH hh (k := 12) (n := 12) (by decide)) (by decide) c4) (sE29 SH hh c4)) ?_
        obtain ⟨o5, e5, hf⟩ := bind_some hf
        obtain ⟨u5, SH2⟩ := k_X3_make (X := X) (d := d) (by omega) (by omega) (by decide) (oE29 c4) SH e5
        refine And.imp_left (rs_inV i_X7_worst_54 m_X3_make rfl (As := [.ref (36 + ix v4)]) (rest := []) rfl rfl (Nat.le_of_ble_eq_true rfl) (sO3 SH hh (by decide)) u5 (st' := []) rfl) ?_
        clear SH; have SH := SH2; clear SH2
        refine And.imp_left (rs_lload i_X7_worst_57 rfl) ?_
        refine And.imp_left (rs_aload_n i_X7_worst_59 rfl) ?_
        refine And.imp_left (rs_getR i_X7_worst_60 (by decide) (by decide) (sO7 SH hh) (sR7_7 SH hh)) ?_
        obtain ⟨o6, e6, hf⟩ := bind_some hf
        obtain ⟨u6, SH2⟩ := k_X3_goodParts (X := X) (d := d) (by omega) (by omega) (by decide) SH e6
        refine And.imp_left (rs_inV i_X7_worst_63 m_X3_goodParts rfl (As := []) (rest := [.long o3.1]) rfl rfl (Nat.le_of_ble_eq_true rfl) (sO3 SH hh (by decide)) u6 (st' := [.long o6.1, .long o3.1]) rfl) ?_
        clear SH; have SH := SH2; clear SH2
        refine And.imp_left (rs_lsub i_X7_worst_66) ?_
        refine And.imp_left (rs_lstore i_X7_worst_67 (Nat.le_of_ble_eq_true rfl) (lv' := [some (.ref 16), some (.int v1), some (.long v2), none, some (.int v4), some (.long o3.1), none, some (.long (o3.1 - o6.1)), none]) rfl) ?_
        refine And.imp_left (rs_lload i_X7_worst_69 rfl) ?_
        refine And.imp_left (rs_lload_n i_X7_worst_71 rfl) ?_
        refine And.imp_left (rs_lcmp i_X7_worst_72) ?_
        by_cases c7 : (o3.1 - o6.1) ≤ v2
        · replace hf := (if_pos c7).symm.trans hf
          refine And.imp_left (rs_ifT i_X7_worst_73 (by rw [lc_le]; exact decide_eq_true c7) (tg := 82) (by decide)) ?_
          exact q_X7_worst_82 hd hh ih SH hf
        · replace hf := (if_neg c7).symm.trans hf
          refine And.imp_left (rs_ifF i_X7_worst_73 (by rw [lc_le]; exact decide_eq_false c7)) ?_
          refine And.imp_left (rs_lload i_X7_worst_76 rfl) ?_
          refine And.imp_left (rs_lstore_n i_X7_worst_78 (Nat.le_of_ble_eq_true rfl) (lv' := [some (.ref 16), some (.int v1), some (.long (o3.1 - o6.1)), none, some (.int v4), some (.long o3.1), none, some (.long (o3.1 - o6.1)), none]) rfl) ?_
          refine And.imp_left (rs_iload i_X7_worst_79 rfl) ?_
          refine And.imp_left (rs_istore_n i_X7_worst_81 (Nat.le_of_ble_eq_true rfl) (lv' := [some (.ref 16), some (.int v4), some (.long (o3.1 - o6.1)), none, some (.int v4), some (.long o3.1), none, some (.long (o3.1 - o6.1)), none]) rfl) ?_
          exact q_X7_worst_82 hd hh ih SH hf
noncomputable def g_X7_worst_0 (n : Nat)  (h : Hp) : Option (Int32 × Hp) :=
  (g_X7_make n 17 0 (-1) (-1) h).bind fun o1 =>
  g_X7_worst_18 n n (-1) 0 0 o1
set_option maxRecDepth 100000 in
set_option maxHeartbeats 4000000 in
theorem q_X7_worst_0 {X : Nat → Int32} {d : Nat} (hd : 7 ≤ (d + 1)) {L hi : Nat} (hh : 96 ≤ hi) {n : Nat}  {h : Hp} {o : (Int32 × Hp)}  (SH : SHP L hi h) (hf : g_X7_worst_0 n h = some o) : Run X (d + 1) 80 0 [some (.ref 16), none, none, none, none, none, none, none, none] [] h (some (.int o.1), o.2) ∧ SHP L hi o.2 := by
  unfold g_X7_worst_0 at hf
  refine And.imp_left (rs_aload_n i_X7_worst_0 rfl) ?_
  refine And.imp_left (rs_aload_n i_X7_worst_1 rfl) ?_
  refine And.imp_left (rs_getR i_X7_worst_2 (by decide) (by decide) (sO7 SH hh) (sR7_0 SH hh)) ?_
  refine And.imp_left (rs_iconst i_X7_worst_5 (v := 0) (by decide)) ?_
  refine And.imp_left (rs_iconst i_X7_worst_6 (v := (-1)) (by decide)) ?_
  refine And.imp_left (rs_iconst i_X7_worst_7 (v := (-1)) (by decide)) ?_
  obtain ⟨o1, e1, hf⟩ := bind_some hf
  obtain ⟨u1, SH2⟩ := k_X7_make (X := X) (d := d) (by omega) (by omega) (by decide) SH e1
  refine And.imp_left (rs_inV i_X7_worst_8 m_X7_make rfl (As := [.ref 17, .int 0, .int (-1), .int (-1)]) (rest := []) rfl rfl (Nat.le_of_ble_eq_true rfl) (sO7 SH hh) u1 (st' := []) rfl) ?_
  clear SH; have SH := SH2; clear SH2
  refine And.imp_left (rs_iconst i_X7_worst_11 (v := (-1)) (by decide)) ?_
  refine And.imp_left (rs_istore_n i_X7_worst_12 (Nat.le_of_ble_eq_true rfl) (lv' := [some (.ref 16), some (.int (-1)), none, none, none, none, none, none, none]) rfl) ?_
  refine And.imp_left (rs_lconst i_X7_worst_13 (v := 0) (by decide)) ?_
  refine And.imp_left (rs_lstore_n i_X7_worst_14 (Nat.le_of_ble_eq_true rfl) (lv' := [some (.ref 16), some (.int (-1)), some (.long 0), none, none, none, none, none, none]) rfl) ?_
  refine And.imp_left (rs_iconst i_X7_worst_15 (v := 0) (by decide)) ?_
  refine And.imp_left (rs_istore i_X7_worst_16 (Nat.le_of_ble_eq_true rfl) (lv' := [some (.ref 16), some (.int (-1)), some (.long 0), none, some (.int 0), none, none, none, none]) rfl) ?_
  exact q_X7_worst_18 hd hh _ _ _ _ _ _ _ _ _ _ SH hf
noncomputable def g_X7_worst (n : Nat)  (h : Hp) : Option (Int32 × Hp) := g_X7_worst_0 n h
theorem k_X7_worst {X : Nat → Int32} {d : Nat} (hd : 7 ≤ d) {L hi : Nat} (hh : 96 ≤ hi) {n : Nat}  {h : Hp} {o : (Int32 × Hp)}  (SH : SHP L hi h) (hf : g_X7_worst n h = some o) : Calls X d 80 [.ref 16] h (some (.int o.1), o.2) ∧ SHP L hi o.2 := by
  obtain ⟨d, rfl⟩ : ∃ z, d = z + 1 := ⟨d - 1, by omega⟩
  obtain ⟨r, S2⟩ := q_X7_worst_0 hd hh SH hf
  exact ⟨⟨_, rfl, r⟩, S2⟩
noncomputable def g_X7_tryDrawing_0 (n : Nat) (v1 : Int32) (v2 : Int32) (h : Hp) : Option Hp :=
  (g_X3_become 89 82 h).bind fun o1 =>
  (g_X3_tenths n 89 v1 o1).bind fun o2 =>
  (g_X3_draw n 89 o2.1 v2 o2.2).bind fun o3 =>
  some o3
set_option maxRecDepth 100000 in
set_option maxHeartbeats 4000000 in
theorem q_X7_tryDrawing_0 {X : Nat → Int32} {d : Nat} (hd : 5 ≤ (d + 1)) {L hi : Nat} (hh : 96 ≤ hi) {n : Nat} {v1 : Int32} {v2 : Int32} {h : Hp} {o : Hp}  (SH : SHP L hi h) (hf : g_X7_tryDrawing_0 n v1 v2 h = some o) : Run X (d + 1) 119 0 [some (.ref 16), some (.int v1), some (.int v2)] [] h (none, o) ∧ SHP L hi o := by
  unfold g_X7_tryDrawing_0 at hf
  refine And.imp_left (rs_aload_n i_X7_tryDrawing_0 rfl) ?_
  refine And.imp_left (rs_getR i_X7_tryDrawing_1 (by decide) (by decide) (sO7 SH hh) (sR7_8 SH hh)) ?_
  refine And.imp_left (rs_aload_n i_X7_tryDrawing_4 rfl) ?_
  refine And.imp_left (rs_getR i_X7_tryDrawing_5 (by decide) (by decide) (sO7 SH hh) (sR7_7 SH hh)) ?_
  obtain ⟨o1, e1, hf⟩ := bind_some hf
  obtain ⟨u1, SH2⟩ := k_X3_become (X := X) (d := d) (by omega) (by omega) (by decide) (by decide) SH e1
  refine And.imp_left (rs_inV i_X7_tryDrawing_8 m_X3_become rfl (As := [.ref 82]) (rest := []) rfl rfl (Nat.le_of_ble_eq_true rfl) (sO3 SH hh (by decide)) u1 (st' := []) rfl) ?_
  clear SH; have SH := SH2; clear SH2
  refine And.imp_left (rs_aload_n i_X7_tryDrawing_11 rfl) ?_
  refine And.imp_left (rs_getR i_X7_tryDrawing_12 (by decide) (by decide) (sO7 SH hh) (sR7_8 SH hh)) ?_
  refine And.imp_left (rs_aload_n i_X7_tryDrawing_15 rfl) ?_
  refine And.imp_left (rs_getR i_X7_tryDrawing_16 (by decide) (by decide) (sO7 SH hh) (sR7_8 SH hh)) ?_
  refine And.imp_left (rs_iload_n i_X7_tryDrawing_19 rfl) ?_
  obtain ⟨o2, e2, hf⟩ := bind_some hf
  obtain ⟨u2, SH2⟩ := k_X3_tenths (X := X) (d := d) (by omega) (by omega) (by decide) SH e2
  refine And.imp_left (rs_inV i_X7_tryDrawing_20 m_X3_tenths rfl (As := [.int v1]) (rest := [.ref 89]) rfl rfl (Nat.le_of_ble_eq_true rfl) (sO3 SH hh (by decide)) u2 (st' := [.long o2.1, .ref 89]) rfl) ?_
  clear SH; have SH := SH2; clear SH2
  refine And.imp_left (rs_iload_n i_X7_tryDrawing_23 rfl) ?_
  obtain ⟨o3, e3, hf⟩ := bind_some hf
  obtain ⟨u3, SH2⟩ := k_X3_draw (X := X) (d := d) (by omega) (by omega) (by decide) SH e3
  refine And.imp_left (rs_inV i_X7_tryDrawing_24 m_X3_draw rfl (As := [.long o2.1, .int v2]) (rest := []) rfl rfl (Nat.le_of_ble_eq_true rfl) (sO3 SH hh (by decide)) u3 (st' := []) rfl) ?_
  clear SH; have SH := SH2; clear SH2
  have hf := Option.some.inj hf
  subst hf
  exact ⟨rs_vret i_X7_tryDrawing_27 m_X7_tryDrawing rfl, SH⟩
noncomputable def g_X7_tryDrawing (n : Nat) (v1 : Int32) (v2 : Int32) (h : Hp) : Option Hp := g_X7_tryDrawing_0 n v1 v2 h
theorem k_X7_tryDrawing {X : Nat → Int32} {d : Nat} (hd : 5 ≤ d) {L hi : Nat} (hh : 96 ≤ hi) {n : Nat} {v1 : Int32} {v2 : Int32} {h : Hp} {o : Hp}  (SH : SHP L hi h) (hf : g_X7_tryDrawing n v1 v2 h = some o) : Calls X d 119 [.ref 16, .int v1, .int v2] h (none, o) ∧ SHP L hi o := by
  obtain ⟨d, rfl⟩ : ∃ z, d = z + 1 := ⟨d - 1, by omega⟩
  obtain ⟨r, S2⟩ := q_X7_tryDrawing_0 hd hh SH hf
  exact ⟨⟨_, rfl, r⟩, S2⟩
noncomputable def g_X7_window_75 (n : Nat) (K40 : Int32 → Int32 → Int32 → Hp → Option (Int32 × Hp)) (v2 : Int32) (v3 : Int32) (v4 : Int32) (h : Hp) : Option (Int32 × Hp) :=
  K40 v2 v3 (v4 + 1) h
set_option maxRecDepth 100000 in
set_option maxHeartbeats 4000000 in
theorem q_X7_window_75 {X : Nat → Int32} {d : Nat} (hd : 7 ≤ (d + 1)) {L hi : Nat} (hh : 96 ≤ hi) {n : Nat} {K40 : Int32 → Int32 → Int32 → Hp → Option (Int32 × Hp)} (HK40 : ∀ (v2 : Int32) (v3 : Int32) (v4 : Int32) (d1 : Int32) (h : Hp) (o : (Int32 × Hp)), SHP L hi h → K40 v2 v3 v4 h = some o → Run X (d + 1) 81 40 [some (.ref 16), some (.int d1), some (.int v2), some (.int v3), some (.int v4)] [] h (some (.int o.1), o.2) ∧ SHP L hi o.2) {v2 : Int32} {v3 : Int32} {v4 : Int32} {d1 : Int32} {h : Hp} {o : (Int32 × Hp)}  (SH : SHP L hi h) (hf : g_X7_window_75 n K40 v2 v3 v4 h = some o) : Run X (d + 1) 81 75 [some (.ref 16), some (.int d1), some (.int v2), some (.int v3), some (.int v4)] [] h (some (.int o.1), o.2) ∧ SHP L hi o.2 := by
  unfold g_X7_window_75 at hf
  refine And.imp_left (rs_iinc i_X7_window_75 rfl (v := v4 + 1) rfl (Nat.le_of_ble_eq_true rfl) (lv' := [some (.ref 16), some (.int d1), some (.int v2), some (.int v3), some (.int (v4 + 1))]) rfl) ?_
  refine And.imp_left (rs_goto i_X7_window_78 (tg := 40) (by decide)) ?_
  exact HK40 _ _ _ _ _ _ SH hf
noncomputable def g_X7_window_40 (n : Nat) : Nat → Int32 → Int32 → Int32 → Hp → Option (Int32 × Hp)
  | 0, _, _, _, _ => none
  | m + 1, v2, v3, v4, h =>
    if 9 < v4 then
      some (v3, h)
    else
      (g_X7_tryDrawing n v2 v4 h).bind fun o2 =>
      (g_X3_isMoreEvenThan n 89 82 o2).bind fun o3 =>
      if o3.1 = 0 then
        g_X7_window_75 n (g_X7_window_40 n m) v2 v3 v4 o3.2
      else
        g_X7_window_75 n (g_X7_window_40 n m) v2 (v3 ||| (1 <<< (v4 &&& 31))) v4 o3.2
set_option maxRecDepth 100000 in
set_option maxHeartbeats 4000000 in
theorem q_X7_window_40 {X : Nat → Int32} {d : Nat} (hd : 7 ≤ (d + 1)) {L hi : Nat} (hh : 96 ≤ hi) {n : Nat} : ∀ (m : Nat) (v2 : Int32) (v3 : Int32) (v4 : Int32) (d1 : Int32) (h : Hp) (o : (Int32 × Hp)), SHP L hi h → g_X7_window_40 n m v2 v3 v4 h = some o → Run X (d + 1) 81 40 [some (.ref 16), some (.int d1), some (.int v2), some (.int v3), some (.int v4)] [] h (some (.int o.1), o.2) ∧ SHP L hi o.2 := by
  intro m
  induction m with
  | zero => intro v2 v3 v4 d1 h o SH hf; cases hf
  | succ m ih =>
    intro v2 v3 v4 d1 h o SH hf
    rw [g_X7_window_40] at hf
    refine And.imp_left (rs_iload i_X7_window_40 rfl) ?_
    refine And.imp_left (rs_bipush i_X7_window_42 (v := 9) (by decide)) ?_
    by_cases c1 : 9 < v4
    · replace hf := (if_pos c1).symm.trans hf
      refine And.imp_left (rs_icT i_X7_window_44 (ct_gt c1) (tg := 81) (by decide)) ?_
      refine And.imp_left (rs_iload_n i_X7_window_81 rfl) ?_
      have hf := Option.some.inj hf
      subst hf
      exact ⟨rs_iret i_X7_window_82 m_X7_window rfl, SH⟩
    · replace hf := (if_neg c1).symm.trans hf
      refine And.imp_left (rs_icF i_X7_window_44 (cf_gt c1)) ?_
      refine And.imp_left (rs_aload_n i_X7_window_47 rfl) ?_
      refine And.imp_left (rs_iload_n i_X7_window_48 rfl) ?_
      refine And.imp_left (rs_iload i_X7_window_49 rfl) ?_
      obtain ⟨o2, e2, hf⟩ := bind_some hf
      obtain ⟨u2, SH2⟩ := k_X7_tryDrawing (X := X) (d := d) (by omega) (by omega) SH e2
      refine And.imp_left (rs_inV i_X7_window_51 m_X7_tryDrawing rfl (As := [.int v2, .int v4]) (rest := []) rfl rfl (Nat.le_of_ble_eq_true rfl) (sO7 SH hh) u2 (st' := []) rfl) ?_
      clear SH; have SH := SH2; clear SH2
      refine And.imp_left (rs_aload_n i_X7_window_54 rfl) ?_
      refine And.imp_left (rs_getR i_X7_window_55 (by decide) (by decide) (sO7 SH hh) (sR7_8 SH hh)) ?_
      refine And.imp_left (rs_aload_n i_X7_window_58 rfl) ?_
      refine And.imp_left (rs_getR i_X7_window_59 (by decide) (by decide) (sO7 SH hh) (sR7_7 SH hh)) ?_
      obtain ⟨o3, e3, hf⟩ := bind_some hf
      obtain ⟨u3, SH2⟩ := k_X3_isMoreEvenThan (X := X) (d := d) (by omega) (by omega) (by decide) (by decide) SH e3
      refine And.imp_left (rs_inV i_X7_window_62 m_X3_isMoreEvenThan rfl (As := [.ref 82]) (rest := []) rfl rfl (Nat.le_of_ble_eq_true rfl) (sO3 SH hh (by decide)) u3 (st' := [.int o3.1]) rfl) ?_
      clear SH; have SH := SH2; clear SH2
      by_cases c4 : o3.1 = 0
      · replace hf := (if_pos c4).symm.trans hf
        refine And.imp_left (rs_ifT i_X7_window_65 (ct_eq c4) (tg := 75) (by decide)) ?_
        exact q_X7_window_75 hd hh ih SH hf
      · replace hf := (if_neg c4).symm.trans hf
        refine And.imp_left (rs_ifF i_X7_window_65 (cf_eq c4)) ?_
        refine And.imp_left (rs_iload_n i_X7_window_68 rfl) ?_
        refine And.imp_left (rs_iconst i_X7_window_69 (v := 1) (by decide)) ?_
        refine And.imp_left (rs_iload i_X7_window_70 rfl) ?_
        refine And.imp_left (rs_ishl i_X7_window_72) ?_
        refine And.imp_left (rs_ior i_X7_window_73) ?_
        refine And.imp_left (rs_istore_n i_X7_window_74 (Nat.le_of_ble_eq_true rfl) (lv' := [some (.ref 16), some (.int d1), some (.int v2), some (.int (v3 ||| (1 <<< (v4 &&& 31)))), some (.int v4)]) rfl) ?_
        exact q_X7_window_75 hd hh ih SH hf
noncomputable def g_X7_window_0 (n : Nat) (v1 : Int32) (v2 : Int32) (h : Hp) : Option (Int32 × Hp) :=
  (g_X7_areSteps v1 h).bind fun o1 =>
  if o1.1 ≠ 0 then
    (g_X7_within v2 0 9 o1.2).bind fun o3 =>
    if o3.1 ≠ 0 then
      (g_X7_make n 17 v1 (-1) (-1) o3.2).bind fun o5 =>
      g_X7_window_40 n n v2 0 1 o5
    else
      some ((-7), o3.2)
  else
    some ((-5), o1.2)
set_option maxRecDepth 100000 in
set_option maxHeartbeats 4000000 in
theorem q_X7_window_0 {X : Nat → Int32} {d : Nat} (hd : 7 ≤ (d + 1)) {L hi : Nat} (hh : 96 ≤ hi) {n : Nat} {v1 : Int32} {v2 : Int32} {h : Hp} {o : (Int32 × Hp)}  (SH : SHP L hi h) (hf : g_X7_window_0 n v1 v2 h = some o) : Run X (d + 1) 81 0 [some (.ref 16), some (.int v1), some (.int v2), none, none] [] h (some (.int o.1), o.2) ∧ SHP L hi o.2 := by
  unfold g_X7_window_0 at hf
  refine And.imp_left (rs_aload_n i_X7_window_0 rfl) ?_
  refine And.imp_left (rs_iload_n i_X7_window_1 rfl) ?_
  obtain ⟨o1, e1, hf⟩ := bind_some hf
  obtain ⟨u1, SH2⟩ := k_X7_areSteps (X := X) (d := d) (by omega) (by omega) SH e1
  refine And.imp_left (rs_inV i_X7_window_2 m_X7_areSteps rfl (As := [.int v1]) (rest := []) rfl rfl (Nat.le_of_ble_eq_true rfl) (sO7 SH hh) u1 (st' := [.int o1.1]) rfl) ?_
  clear SH; have SH := SH2; clear SH2
  by_cases c2 : o1.1 ≠ 0
  · replace hf := (if_pos c2).symm.trans hf
    refine And.imp_left (rs_ifT i_X7_window_5 (ct_ne c2) (tg := 11) (by decide)) ?_
    refine And.imp_left (rs_iload_n i_X7_window_11 rfl) ?_
    refine And.imp_left (rs_iconst i_X7_window_12 (v := 0) (by decide)) ?_
    refine And.imp_left (rs_bipush i_X7_window_13 (v := 9) (by decide)) ?_
    obtain ⟨o3, e3, hf⟩ := bind_some hf
    obtain ⟨u3, SH2⟩ := k_X7_within (X := X) (d := d) (by omega) (by omega) SH e3
    refine And.imp_left (rs_inS i_X7_window_15 (by decide) m_X7_within rfl (As := [.int v2, .int 0, .int 9]) (rest := []) rfl rfl (Nat.le_of_ble_eq_true rfl) u3 (st' := [.int o3.1]) rfl) ?_
    clear SH; have SH := SH2; clear SH2
    by_cases c4 : o3.1 ≠ 0
    · replace hf := (if_pos c4).symm.trans hf
      refine And.imp_left (rs_ifT i_X7_window_18 (ct_ne c4) (tg := 24) (by decide)) ?_
      refine And.imp_left (rs_aload_n i_X7_window_24 rfl) ?_
      refine And.imp_left (rs_aload_n i_X7_window_25 rfl) ?_
      refine And.imp_left (rs_getR i_X7_window_26 (by decide) (by decide) (sO7 SH hh) (sR7_0 SH hh)) ?_
      refine And.imp_left (rs_iload_n i_X7_window_29 rfl) ?_
      refine And.imp_left (rs_iconst i_X7_window_30 (v := (-1)) (by decide)) ?_
      refine And.imp_left (rs_iconst i_X7_window_31 (v := (-1)) (by decide)) ?_
      obtain ⟨o5, e5, hf⟩ := bind_some hf
      obtain ⟨u5, SH2⟩ := k_X7_make (X := X) (d := d) (by omega) (by omega) (by decide) SH e5
      refine And.imp_left (rs_inV i_X7_window_32 m_X7_make rfl (As := [.ref 17, .int v1, .int (-1), .int (-1)]) (rest := []) rfl rfl (Nat.le_of_ble_eq_true rfl) (sO7 SH hh) u5 (st' := []) rfl) ?_
      clear SH; have SH := SH2; clear SH2
      refine And.imp_left (rs_iconst i_X7_window_35 (v := 0) (by decide)) ?_
      refine And.imp_left (rs_istore_n i_X7_window_36 (Nat.le_of_ble_eq_true rfl) (lv' := [some (.ref 16), some (.int v1), some (.int v2), some (.int 0), none]) rfl) ?_
      refine And.imp_left (rs_iconst i_X7_window_37 (v := 1) (by decide)) ?_
      refine And.imp_left (rs_istore i_X7_window_38 (Nat.le_of_ble_eq_true rfl) (lv' := [some (.ref 16), some (.int v1), some (.int v2), some (.int 0), some (.int 1)]) rfl) ?_
      exact q_X7_window_40 hd hh _ _ _ _ _ _ _ SH hf
    · replace hf := (if_neg c4).symm.trans hf
      refine And.imp_left (rs_ifF i_X7_window_18 (cf_ne c4)) ?_
      refine And.imp_left (rs_bipush i_X7_window_21 (v := (-7)) (by decide)) ?_
      have hf := Option.some.inj hf
      subst hf
      exact ⟨rs_iret i_X7_window_23 m_X7_window rfl, SH⟩
  · replace hf := (if_neg c2).symm.trans hf
    refine And.imp_left (rs_ifF i_X7_window_5 (cf_ne c2)) ?_
    refine And.imp_left (rs_bipush i_X7_window_8 (v := (-5)) (by decide)) ?_
    have hf := Option.some.inj hf
    subst hf
    exact ⟨rs_iret i_X7_window_10 m_X7_window rfl, SH⟩
noncomputable def g_X7_window (n : Nat) (v1 : Int32) (v2 : Int32) (h : Hp) : Option (Int32 × Hp) := g_X7_window_0 n v1 v2 h
theorem k_X7_window {X : Nat → Int32} {d : Nat} (hd : 7 ≤ d) {L hi : Nat} (hh : 96 ≤ hi) {n : Nat} {v1 : Int32} {v2 : Int32} {h : Hp} {o : (Int32 × Hp)}  (SH : SHP L hi h) (hf : g_X7_window n v1 v2 h = some o) : Calls X d 81 [.ref 16, .int v1, .int v2] h (some (.int o.1), o.2) ∧ SHP L hi o.2 := by
  obtain ⟨d, rfl⟩ : ∃ z, d = z + 1 := ⟨d - 1, by omega⟩
  obtain ⟨r, S2⟩ := q_X7_window_0 hd hh SH hf
  exact ⟨⟨_, rfl, r⟩, S2⟩
noncomputable def g_X7_pace_114 (n : Nat) (K53 : Int32 → Int32 → Int32 → Int64 → Int32 → Hp → Option (Int32 × Hp)) (v2 : Int32) (v3 : Int32) (v4 : Int32) (v5 : Int64) (v7 : Int32) (h : Hp) : Option (Int32 × Hp) :=
  K53 v2 v3 v4 v5 (v7 + 1) h
set_option maxRecDepth 100000 in
set_option maxHeartbeats 4000000 in
theorem q_X7_pace_114 {X : Nat → Int32} {d : Nat} (hd : 7 ≤ (d + 1)) {L hi : Nat} (hh : 96 ≤ hi) {n : Nat} {K53 : Int32 → Int32 → Int32 → Int64 → Int32 → Hp → Option (Int32 × Hp)} (HK53 : ∀ (v2 : Int32) (v3 : Int32) (v4 : Int32) (v5 : Int64) (v7 : Int32) (d1 : Int32) (w8 : Option Value) (w9 : Option Value) (h : Hp) (o : (Int32 × Hp)), SHP L hi h → K53 v2 v3 v4 v5 v7 h = some o → Run X (d + 1) 82 53 [some (.ref 16), some (.int d1), some (.int v2), some (.int v3), some (.int v4), some (.long v5), none, some (.int v7), w8, w9] [] h (some (.int o.1), o.2) ∧ SHP L hi o.2) {v2 : Int32} {v3 : Int32} {v4 : Int32} {v5 : Int64} {v7 : Int32} {d1 : Int32} {d8 : Int64} {h : Hp} {o : (Int32 × Hp)}  (SH : SHP L hi h) (hf : g_X7_pace_114 n K53 v2 v3 v4 v5 v7 h = some o) : Run X (d + 1) 82 114 [some (.ref 16), some (.int d1), some (.int v2), some (.int v3), some (.int v4), some (.long v5), none, some (.int v7), some (.long d8), none] [] h (some (.int o.1), o.2) ∧ SHP L hi o.2 := by
  unfold g_X7_pace_114 at hf
  refine And.imp_left (rs_iinc i_X7_pace_114 rfl (v := v7 + 1) rfl (Nat.le_of_ble_eq_true rfl) (lv' := [some (.ref 16), some (.int d1), some (.int v2), some (.int v3), some (.int v4), some (.long v5), none, some (.int (v7 + 1)), some (.long d8), none]) rfl) ?_
  refine And.imp_left (rs_goto i_X7_pace_117 (tg := 53) (by decide)) ?_
  exact HK53 _ _ _ _ _ _ _ _ _ _ SH hf
noncomputable def g_X7_pace_106 (n : Nat) (K53 : Int32 → Int32 → Int32 → Int64 → Int32 → Hp → Option (Int32 × Hp)) (v2 : Int32) (v3 : Int32) (v7 : Int32) (v8 : Int64) (h : Hp) : Option (Int32 × Hp) :=
  g_X7_pace_114 n K53 v2 v3 v7 v8 v7 h
set_option maxRecDepth 100000 in
set_option maxHeartbeats 4000000 in
theorem q_X7_pace_106 {X : Nat → Int32} {d : Nat} (hd : 7 ≤ (d + 1)) {L hi : Nat} (hh : 96 ≤ hi) {n : Nat} {K53 : Int32 → Int32 → Int32 → Int64 → Int32 → Hp → Option (Int32 × Hp)} (HK53 : ∀ (v2 : Int32) (v3 : Int32) (v4 : Int32) (v5 : Int64) (v7 : Int32) (d1 : Int32) (w8 : Option Value) (w9 : Option Value) (h : Hp) (o : (Int32 × Hp)), SHP L hi h → K53 v2 v3 v4 v5 v7 h = some o → Run X (d + 1) 82 53 [some (.ref 16), some (.int d1), some (.int v2), some (.int v3), some (.int v4), some (.long v5), none, some (.int v7), w8, w9] [] h (some (.int o.1), o.2) ∧ SHP L hi o.2) {v2 : Int32} {v3 : Int32} {v7 : Int32} {v8 : Int64} {d1 : Int32} {d4 : Int32} {d5 : Int64} {h : Hp} {o : (Int32 × Hp)}  (SH : SHP L hi h) (hf : g_X7_pace_106 n K53 v2 v3 v7 v8 h = some o) : Run X (d + 1) 82 106 [some (.ref 16), some (.int d1), some (.int v2), some (.int v3), some (.int d4), some (.long d5), none, some (.int v7), some (.long v8), none] [] h (some (.int o.1), o.2) ∧ SHP L hi o.2 := by
  unfold g_X7_pace_106 at hf
  refine And.imp_left (rs_lload i_X7_pace_106 rfl) ?_
  refine And.imp_left (rs_lstore i_X7_pace_108 (Nat.le_of_ble_eq_true rfl) (lv' := [some (.ref 16), some (.int d1), some (.int v2), some (.int v3), some (.int d4), some (.long v8), none, some (.int v7), some (.long v8), none]) rfl) ?_
  refine And.imp_left (rs_iload i_X7_pace_110 rfl) ?_
  refine And.imp_left (rs_istore i_X7_pace_112 (Nat.le_of_ble_eq_true rfl) (lv' := [some (.ref 16), some (.int d1), some (.int v2), some (.int v3), some (.int v7), some (.long v8), none, some (.int v7), some (.long v8), none]) rfl) ?_
  exact q_X7_pace_114 hd hh HK53 SH hf
noncomputable def g_X7_pace_90 (n : Nat) (K53 : Int32 → Int32 → Int32 → Int64 → Int32 → Hp → Option (Int32 × Hp)) (v2 : Int32) (v3 : Int32) (v4 : Int32) (v5 : Int64) (v7 : Int32) (s0 : Int64) (h : Hp) : Option (Int32 × Hp) :=
  if v7 = 1 then
    g_X7_pace_106 n K53 v2 v3 v7 s0 h
  else
    if s0 ≤ v5 then
      g_X7_pace_114 n K53 v2 v3 v4 v5 v7 h
    else
      g_X7_pace_106 n K53 v2 v3 v7 s0 h
set_option maxRecDepth 100000 in
set_option maxHeartbeats 4000000 in
theorem q_X7_pace_90 {X : Nat → Int32} {d : Nat} (hd : 7 ≤ (d + 1)) {L hi : Nat} (hh : 96 ≤ hi) {n : Nat} {K53 : Int32 → Int32 → Int32 → Int64 → Int32 → Hp → Option (Int32 × Hp)} (HK53 : ∀ (v2 : Int32) (v3 : Int32) (v4 : Int32) (v5 : Int64) (v7 : Int32) (d1 : Int32) (w8 : Option Value) (w9 : Option Value) (h : Hp) (o : (Int32 × Hp)), SHP L hi h → K53 v2 v3 v4 v5 v7 h = some o → Run X (d + 1) 82 53 [some (.ref 16), some (.int d1), some (.int v2), some (.int v3), some (.int v4), some (.long v5), none, some (.int v7), w8, w9] [] h (some (.int o.1), o.2) ∧ SHP L hi o.2) {v2 : Int32} {v3 : Int32} {v4 : Int32} {v5 : Int64} {v7 : Int32} {s0 : Int64} {d1 : Int32} {w8 : Option Value} {w9 : Option Value} {h : Hp} {o : (Int32 × Hp)}  (SH : SHP L hi h) (hf : g_X7_pace_90 n K53 v2 v3 v4 v5 v7 s0 h = some o) : Run X (d + 1) 82 90 [some (.ref 16), some (.int d1), some (.int v2), some (.int v3), some (.int v4), some (.long v5), none, some (.int v7), w8, w9] [.long s0] h (some (.int o.1), o.2) ∧ SHP L hi o.2 := by
  unfold g_X7_pace_90 at hf
  refine And.imp_left (rs_lstore i_X7_pace_90 (Nat.le_of_ble_eq_true rfl) (lv' := [some (.ref 16), some (.int d1), some (.int v2), some (.int v3), some (.int v4), some (.long v5), none, some (.int v7), some (.long s0), none]) rfl) ?_
  refine And.imp_left (rs_iload i_X7_pace_92 rfl) ?_
  refine And.imp_left (rs_iconst i_X7_pace_94 (v := 1) (by decide)) ?_
  by_cases c1 : v7 = 1
  · replace hf := (if_pos c1).symm.trans hf
    refine And.imp_left (rs_icT i_X7_pace_95 (ct_eq c1) (tg := 106) (by decide)) ?_
    exact q_X7_pace_106 hd hh HK53 SH hf
  · replace hf := (if_neg c1).symm.trans hf
    refine And.imp_left (rs_icF i_X7_pace_95 (cf_eq c1)) ?_
    refine And.imp_left (rs_lload i_X7_pace_98 rfl) ?_
    refine And.imp_left (rs_lload i_X7_pace_100 rfl) ?_
    refine And.imp_left (rs_lcmp i_X7_pace_102) ?_
    by_cases c2 : s0 ≤ v5
    · replace hf := (if_pos c2).symm.trans hf
      refine And.imp_left (rs_ifT i_X7_pace_103 (by rw [lc_le]; exact decide_eq_true c2) (tg := 114) (by decide)) ?_
      exact q_X7_pace_114 hd hh HK53 SH hf
    · replace hf := (if_neg c2).symm.trans hf
      refine And.imp_left (rs_ifF i_X7_pace_103 (by rw [lc_le]; exact decide_eq_false c2)) ?_
      exact q_X7_pace_106 hd hh HK53 SH hf
noncomputable def g_X7_pace_53 (n : Nat) : Nat → Int32 → Int32 → Int32 → Int64 → Int32 → Hp → Option (Int32 × Hp)
  | 0, _, _, _, _, _, _ => none
  | m + 1, v2, v3, v4, v5, v7, h =>
    if 9 < v7 then
      some (v4, h)
    else
      (g_X7_tryDrawing n v2 v7 h).bind fun o2 =>
      if v3 ≠ 0 then
        (g_X3_spread n 89 o2).bind fun o4 =>
        g_X7_pace_90 n (g_X7_pace_53 n m) v2 v3 v4 v5 v7 (Int32.toInt64 (-o4.1)) o4.2
      else
        g_X7_pace_90 n (g_X7_pace_53 n m) v2 v3 v4 v5 v7 (gL' o2 89 10) o2
set_option maxRecDepth 100000 in
set_option maxHeartbeats 4000000 in
theorem q_X7_pace_53 {X : Nat → Int32} {d : Nat} (hd : 7 ≤ (d + 1)) {L hi : Nat} (hh : 96 ≤ hi) {n : Nat} : ∀ (m : Nat) (v2 : Int32) (v3 : Int32) (v4 : Int32) (v5 : Int64) (v7 : Int32) (d1 : Int32) (w8 : Option Value) (w9 : Option Value) (h : Hp) (o : (Int32 × Hp)), SHP L hi h → g_X7_pace_53 n m v2 v3 v4 v5 v7 h = some o → Run X (d + 1) 82 53 [some (.ref 16), some (.int d1), some (.int v2), some (.int v3), some (.int v4), some (.long v5), none, some (.int v7), w8, w9] [] h (some (.int o.1), o.2) ∧ SHP L hi o.2 := by
  intro m
  induction m with
  | zero => intro v2 v3 v4 v5 v7 d1 w8 w9 h o SH hf; cases hf
  | succ m ih =>
    intro v2 v3 v4 v5 v7 d1 w8 w9 h o SH hf
    rw [g_X7_pace_53] at hf
    refine And.imp_left (rs_iload i_X7_pace_53 rfl) ?_
    refine And.imp_left (rs_bipush i_X7_pace_55 (v := 9) (by decide)) ?_
    by_cases c1 : 9 < v7
    · replace hf := (if_pos c1).symm.trans hf
      refine And.imp_left (rs_icT i_X7_pace_57 (ct_gt c1) (tg := 120) (by decide)) ?_
      refine And.imp_left (rs_iload i_X7_pace_120 rfl) ?_
      have hf := Option.some.inj hf
      subst hf
      exact ⟨rs_iret i_X7_pace_122 m_X7_pace rfl, SH⟩
    · replace hf := (if_neg c1).symm.trans hf
      refine And.imp_left (rs_icF i_X7_pace_57 (cf_gt c1)) ?_
      refine And.imp_left (rs_aload_n i_X7_pace_60 rfl) ?_
      refine And.imp_left (rs_iload_n i_X7_pace_61 rfl) ?_
      refine And.imp_left (rs_iload i_X7_pace_62 rfl) ?_
      obtain ⟨o2, e2, hf⟩ := bind_some hf
      obtain ⟨u2, SH2⟩ := k_X7_tryDrawing (X := X) (d := d) (by omega) (by omega) SH e2
      refine And.imp_left (rs_inV i_X7_pace_64 m_X7_tryDrawing rfl (As := [.int v2, .int v7]) (rest := []) rfl rfl (Nat.le_of_ble_eq_true rfl) (sO7 SH hh) u2 (st' := []) rfl) ?_
      clear SH; have SH := SH2; clear SH2
      refine And.imp_left (rs_iload_n i_X7_pace_67 rfl) ?_
      by_cases c3 : v3 ≠ 0
      · replace hf := (if_pos c3).symm.trans hf
        refine And.imp_left (rs_ifT i_X7_pace_68 (ct_ne c3) (tg := 81) (by decide)) ?_
        refine And.imp_left (rs_aload_n i_X7_pace_81 rfl) ?_
        refine And.imp_left (rs_getR i_X7_pace_82 (by decide) (by decide) (sO7 SH hh) (sR7_8 SH hh)) ?_
        obtain ⟨o4, e4, hf⟩ := bind_some hf
        obtain ⟨u4, SH2⟩ := k_X3_spread (X := X) (d := d) (by omega) (by omega) (by decide) SH e4
        refine And.imp_left (rs_inV i_X7_pace_85 m_X3_spread rfl (As := []) (rest := []) rfl rfl (Nat.le_of_ble_eq_true rfl) (sO3 SH hh (by decide)) u4 (st' := [.int o4.1]) rfl) ?_
        clear SH; have SH := SH2; clear SH2
        refine And.imp_left (rs_ineg i_X7_pace_88) ?_
        refine And.imp_left (rs_i2l i_X7_pace_89) ?_
        exact q_X7_pace_90 hd hh ih SH hf
      · replace hf := (if_neg c3).symm.trans hf
        refine And.imp_left (rs_ifF i_X7_pace_68 (cf_ne c3)) ?_
        refine And.imp_left (rs_aload_n i_X7_pace_71 rfl) ?_
        refine And.imp_left (rs_getR i_X7_pace_72 (by decide) (by decide) (sO7 SH hh) (sR7_8 SH hh)) ?_
        refine And.imp_left (rs_getL i_X7_pace_75 (by decide) (by decide) (sO3 SH hh (by decide))) ?_
        refine And.imp_left (rs_goto i_X7_pace_78 (tg := 90) (by decide)) ?_
        exact q_X7_pace_90 hd hh ih SH hf
noncomputable def g_X7_pace_0 (n : Nat) (v1 : Int32) (v2 : Int32) (v3 : Int32) (h : Hp) : Option (Int32 × Hp) :=
  (g_X7_areSteps v1 h).bind fun o1 =>
  if o1.1 ≠ 0 then
    (g_X7_within v2 0 9 o1.2).bind fun o3 =>
    if o3.1 = 0 then
      some ((-7), o3.2)
    else
      (g_X7_within v3 0 1 o3.2).bind fun o5 =>
      if o5.1 ≠ 0 then
        (g_X7_make n 17 v1 (-1) (-1) o5.2).bind fun o7 =>
        g_X7_pace_53 n n v2 v3 1 0 1 o7
      else
        some ((-7), o5.2)
  else
    some ((-5), o1.2)
set_option maxRecDepth 100000 in
set_option maxHeartbeats 4000000 in
theorem q_X7_pace_0 {X : Nat → Int32} {d : Nat} (hd : 7 ≤ (d + 1)) {L hi : Nat} (hh : 96 ≤ hi) {n : Nat} {v1 : Int32} {v2 : Int32} {v3 : Int32} {h : Hp} {o : (Int32 × Hp)}  (SH : SHP L hi h) (hf : g_X7_pace_0 n v1 v2 v3 h = some o) : Run X (d + 1) 82 0 [some (.ref 16), some (.int v1), some (.int v2), some (.int v3), none, none, none, none, none, none] [] h (some (.int o.1), o.2) ∧ SHP L hi o.2 := by
  unfold g_X7_pace_0 at hf
  refine And.imp_left (rs_aload_n i_X7_pace_0 rfl) ?_
  refine And.imp_left (rs_iload_n i_X7_pace_1 rfl) ?_
  obtain ⟨o1, e1, hf⟩ := bind_some hf
  obtain ⟨u1, SH2⟩ := k_X7_areSteps (X := X) (d := d) (by omega) (by omega) SH e1
  refine And.imp_left (rs_inV i_X7_pace_2 m_X7_areSteps rfl (As := [.int v1]) (rest := []) rfl rfl (Nat.le_of_ble_eq_true rfl) (sO7 SH hh) u1 (st' := [.int o1.1]) rfl) ?_
  clear SH; have SH := SH2; clear SH2
  by_cases c2 : o1.1 ≠ 0
  · replace hf := (if_pos c2).symm.trans hf
    refine And.imp_left (rs_ifT i_X7_pace_5 (ct_ne c2) (tg := 11) (by decide)) ?_
    refine And.imp_left (rs_iload_n i_X7_pace_11 rfl) ?_
    refine And.imp_left (rs_iconst i_X7_pace_12 (v := 0) (by decide)) ?_
    refine And.imp_left (rs_bipush i_X7_pace_13 (v := 9) (by decide)) ?_
    obtain ⟨o3, e3, hf⟩ := bind_some hf
    obtain ⟨u3, SH2⟩ := k_X7_within (X := X) (d := d) (by omega) (by omega) SH e3
    refine And.imp_left (rs_inS i_X7_pace_15 (by decide) m_X7_within rfl (As := [.int v2, .int 0, .int 9]) (rest := []) rfl rfl (Nat.le_of_ble_eq_true rfl) u3 (st' := [.int o3.1]) rfl) ?_
    clear SH; have SH := SH2; clear SH2
    by_cases c4 : o3.1 = 0
    · replace hf := (if_pos c4).symm.trans hf
      refine And.imp_left (rs_ifT i_X7_pace_18 (ct_eq c4) (tg := 30) (by decide)) ?_
      refine And.imp_left (rs_bipush i_X7_pace_30 (v := (-7)) (by decide)) ?_
      have hf := Option.some.inj hf
      subst hf
      exact ⟨rs_iret i_X7_pace_32 m_X7_pace rfl, SH⟩
    · replace hf := (if_neg c4).symm.trans hf
      refine And.imp_left (rs_ifF i_X7_pace_18 (cf_eq c4)) ?_
      refine And.imp_left (rs_iload_n i_X7_pace_21 rfl) ?_
      refine And.imp_left (rs_iconst i_X7_pace_22 (v := 0) (by decide)) ?_
      refine And.imp_left (rs_iconst i_X7_pace_23 (v := 1) (by decide)) ?_
      obtain ⟨o5, e5, hf⟩ := bind_some hf
      obtain ⟨u5, SH2⟩ := k_X7_within (X := X) (d := d) (by omega) (by omega) SH e5
      refine And.imp_left (rs_inS i_X7_pace_24 (by decide) m_X7_within rfl (As := [.int v3, .int 0, .int 1]) (rest := []) rfl rfl (Nat.le_of_ble_eq_true rfl) u5 (st' := [.int o5.1]) rfl) ?_
      clear SH; have SH := SH2; clear SH2
      by_cases c6 : o5.1 ≠ 0
      · replace hf := (if_pos c6).symm.trans hf
        refine And.imp_left (rs_ifT i_X7_pace_27 (ct_ne c6) (tg := 33) (by decide)) ?_
        refine And.imp_left (rs_aload_n i_X7_pace_33 rfl) ?_
        refine And.imp_left (rs_aload_n i_X7_pace_34 rfl) ?_
        refine And.imp_left (rs_getR i_X7_pace_35 (by decide) (by decide) (sO7 SH hh) (sR7_0 SH hh)) ?_
        refine And.imp_left (rs_iload_n i_X7_pace_38 rfl) ?_
        refine And.imp_left (rs_iconst i_X7_pace_39 (v := (-1)) (by decide)) ?_
        refine And.imp_left (rs_iconst i_X7_pace_40 (v := (-1)) (by decide)) ?_
        obtain ⟨o7, e7, hf⟩ := bind_some hf
        obtain ⟨u7, SH2⟩ := k_X7_make (X := X) (d := d) (by omega) (by omega) (by decide) SH e7
        refine And.imp_left (rs_inV i_X7_pace_41 m_X7_make rfl (As := [.ref 17, .int v1, .int (-1), .int (-1)]) (rest := []) rfl rfl (Nat.le_of_ble_eq_true rfl) (sO7 SH hh) u7 (st' := []) rfl) ?_
        clear SH; have SH := SH2; clear SH2
        refine And.imp_left (rs_iconst i_X7_pace_44 (v := 1) (by decide)) ?_
        refine And.imp_left (rs_istore i_X7_pace_45 (Nat.le_of_ble_eq_true rfl) (lv' := [some (.ref 16), some (.int v1), some (.int v2), some (.int v3), some (.int 1), none, none, none, none, none]) rfl) ?_
        refine And.imp_left (rs_lconst i_X7_pace_47 (v := 0) (by decide)) ?_
        refine And.imp_left (rs_lstore i_X7_pace_48 (Nat.le_of_ble_eq_true rfl) (lv' := [some (.ref 16), some (.int v1), some (.int v2), some (.int v3), some (.int 1), some (.long 0), none, none, none, none]) rfl) ?_
        refine And.imp_left (rs_iconst i_X7_pace_50 (v := 1) (by decide)) ?_
        refine And.imp_left (rs_istore i_X7_pace_51 (Nat.le_of_ble_eq_true rfl) (lv' := [some (.ref 16), some (.int v1), some (.int v2), some (.int v3), some (.int 1), some (.long 0), none, some (.int 1), none, none]) rfl) ?_
        exact q_X7_pace_53 hd hh _ _ _ _ _ _ _ _ _ _ _ SH hf
      · replace hf := (if_neg c6).symm.trans hf
        refine And.imp_left (rs_ifF i_X7_pace_27 (cf_ne c6)) ?_
        refine And.imp_left (rs_bipush i_X7_pace_30 (v := (-7)) (by decide)) ?_
        have hf := Option.some.inj hf
        subst hf
        exact ⟨rs_iret i_X7_pace_32 m_X7_pace rfl, SH⟩
  · replace hf := (if_neg c2).symm.trans hf
    refine And.imp_left (rs_ifF i_X7_pace_5 (cf_ne c2)) ?_
    refine And.imp_left (rs_bipush i_X7_pace_8 (v := (-5)) (by decide)) ?_
    have hf := Option.some.inj hf
    subst hf
    exact ⟨rs_iret i_X7_pace_10 m_X7_pace rfl, SH⟩
noncomputable def g_X7_pace (n : Nat) (v1 : Int32) (v2 : Int32) (v3 : Int32) (h : Hp) : Option (Int32 × Hp) := g_X7_pace_0 n v1 v2 v3 h
theorem k_X7_pace {X : Nat → Int32} {d : Nat} (hd : 7 ≤ d) {L hi : Nat} (hh : 96 ≤ hi) {n : Nat} {v1 : Int32} {v2 : Int32} {v3 : Int32} {h : Hp} {o : (Int32 × Hp)}  (SH : SHP L hi h) (hf : g_X7_pace n v1 v2 v3 h = some o) : Calls X d 82 [.ref 16, .int v1, .int v2, .int v3] h (some (.int o.1), o.2) ∧ SHP L hi o.2 := by
  obtain ⟨d, rfl⟩ : ∃ z, d = z + 1 := ⟨d - 1, by omega⟩
  obtain ⟨r, S2⟩ := q_X7_pace_0 hd hh SH hf
  exact ⟨⟨_, rfl, r⟩, S2⟩
noncomputable def g_X7_rest_55 (n : Nat) : Nat → Int32 → Int32 → Int32 → Hp → Option (Int32 × Hp)
  | 0, _, _, _, _ => none
  | m + 1, v2, v3, v4, h =>
    if 30 < v4 then
      some ((-1), h)
    else
      (g_X3_become 89 82 h).bind fun o2 =>
      (g_X3_relax n 89 v4 o2).bind fun o3 =>
      (g_X3_tenths n 89 (v2 / 10) o3).bind fun o4 =>
      (g_X3_draw n 89 o4.1 (v2 - v2 / 10 * 10) o4.2).bind fun o5 =>
      if ((gL' o5 89 10) * 100) < ((gL' o5 82 10) * (Int32.toInt64 v3)) then
        (g_X7_rest_55 n m) v2 v3 (v4 + 1) o5
      else
        some (v4, o5)
set_option maxRecDepth 100000 in
set_option maxHeartbeats 4000000 in
theorem q_X7_rest_55 {X : Nat → Int32} {d : Nat} (hd : 7 ≤ (d + 1)) {L hi : Nat} (hh : 96 ≤ hi) {n : Nat} : ∀ (m : Nat) (v2 : Int32) (v3 : Int32) (v4 : Int32) (d1 : Int32) (h : Hp) (o : (Int32 × Hp)), SHP L hi h → g_X7_rest_55 n m v2 v3 v4 h = some o → Run X (d + 1) 83 55 [some (.ref 16), some (.int d1), some (.int v2), some (.int v3), some (.int v4)] [] h (some (.int o.1), o.2) ∧ SHP L hi o.2 := by
  intro m
  induction m with
  | zero => intro v2 v3 v4 d1 h o SH hf; cases hf
  | succ m ih =>
    intro v2 v3 v4 d1 h o SH hf
    rw [g_X7_rest_55] at hf
    refine And.imp_left (rs_iload i_X7_rest_55 rfl) ?_
    refine And.imp_left (rs_bipush i_X7_rest_57 (v := 30) (by decide)) ?_
    by_cases c1 : 30 < v4
    · replace hf := (if_pos c1).symm.trans hf
      refine And.imp_left (rs_icT i_X7_rest_59 (ct_gt c1) (tg := 138) (by decide)) ?_
      refine And.imp_left (rs_iconst i_X7_rest_138 (v := (-1)) (by decide)) ?_
      have hf := Option.some.inj hf
      subst hf
      exact ⟨rs_iret i_X7_rest_139 m_X7_rest rfl, SH⟩
    · replace hf := (if_neg c1).symm.trans hf
      refine And.imp_left (rs_icF i_X7_rest_59 (cf_gt c1)) ?_
      refine And.imp_left (rs_aload_n i_X7_rest_62 rfl) ?_
      refine And.imp_left (rs_getR i_X7_rest_63 (by decide) (by decide) (sO7 SH hh) (sR7_8 SH hh)) ?_
      refine And.imp_left (rs_aload_n i_X7_rest_66 rfl) ?_
      refine And.imp_left (rs_getR i_X7_rest_67 (by decide) (by decide) (sO7 SH hh) (sR7_7 SH hh)) ?_
      obtain ⟨o2, e2, hf⟩ := bind_some hf
      obtain ⟨u2, SH2⟩ := k_X3_become (X := X) (d := d) (by omega) (by omega) (by decide) (by decide) SH e2
      refine And.imp_left (rs_inV i_X7_rest_70 m_X3_become rfl (As := [.ref 82]) (rest := []) rfl rfl (Nat.le_of_ble_eq_true rfl) (sO3 SH hh (by decide)) u2 (st' := []) rfl) ?_
      clear SH; have SH := SH2; clear SH2
      refine And.imp_left (rs_aload_n i_X7_rest_73 rfl) ?_
      refine And.imp_left (rs_getR i_X7_rest_74 (by decide) (by decide) (sO7 SH hh) (sR7_8 SH hh)) ?_
      refine And.imp_left (rs_iload i_X7_rest_77 rfl) ?_
      obtain ⟨o3, e3, hf⟩ := bind_some hf
      obtain ⟨u3, SH2⟩ := k_X3_relax (X := X) (d := d) (by omega) (by omega) (by decide) SH e3
      refine And.imp_left (rs_inV i_X7_rest_79 m_X3_relax rfl (As := [.int v4]) (rest := []) rfl rfl (Nat.le_of_ble_eq_true rfl) (sO3 SH hh (by decide)) u3 (st' := []) rfl) ?_
      clear SH; have SH := SH2; clear SH2
      refine And.imp_left (rs_aload_n i_X7_rest_82 rfl) ?_
      refine And.imp_left (rs_getR i_X7_rest_83 (by decide) (by decide) (sO7 SH hh) (sR7_8 SH hh)) ?_
      refine And.imp_left (rs_aload_n i_X7_rest_86 rfl) ?_
      refine And.imp_left (rs_getR i_X7_rest_87 (by decide) (by decide) (sO7 SH hh) (sR7_8 SH hh)) ?_
      refine And.imp_left (rs_iload_n i_X7_rest_90 rfl) ?_
      refine And.imp_left (rs_bipush i_X7_rest_91 (v := 10) (by decide)) ?_
      refine And.imp_left (rs_idiv i_X7_rest_93 (by decide)) ?_
      obtain ⟨o4, e4, hf⟩ := bind_some hf
      obtain ⟨u4, SH2⟩ := k_X3_tenths (X := X) (d := d) (by omega) (by omega) (by decide) SH e4
      refine And.imp_left (rs_inV i_X7_rest_94 m_X3_tenths rfl (As := [.int (v2 / 10)]) (rest := [.ref 89]) rfl rfl (Nat.le_of_ble_eq_true rfl) (sO3 SH hh (by decide)) u4 (st' := [.long o4.1, .ref 89]) rfl) ?_
      clear SH; have SH := SH2; clear SH2
      refine And.imp_left (rs_iload_n i_X7_rest_97 rfl) ?_
      refine And.imp_left (rs_bipush i_X7_rest_98 (v := 10) (by decide)) ?_
      refine And.imp_left (rs_irem i_X7_rest_100 (by decide)) ?_
      obtain ⟨o5, e5, hf⟩ := bind_some hf
      obtain ⟨u5, SH2⟩ := k_X3_draw (X := X) (d := d) (by omega) (by omega) (by decide) SH e5
      refine And.imp_left (rs_inV i_X7_rest_101 m_X3_draw rfl (As := [.long o4.1, .int (v2 - v2 / 10 * 10)]) (rest := []) rfl rfl (Nat.le_of_ble_eq_true rfl) (sO3 SH hh (by decide)) u5 (st' := []) rfl) ?_
      clear SH; have SH := SH2; clear SH2
      refine And.imp_left (rs_aload_n i_X7_rest_104 rfl) ?_
      refine And.imp_left (rs_getR i_X7_rest_105 (by decide) (by decide) (sO7 SH hh) (sR7_8 SH hh)) ?_
      refine And.imp_left (rs_getL i_X7_rest_108 (by decide) (by decide) (sO3 SH hh (by decide))) ?_
      refine And.imp_left (rs_ldc2 i_X7_rest_111 (v := 100) (by decide)) ?_
      refine And.imp_left (rs_lmul i_X7_rest_114) ?_
      refine And.imp_left (rs_aload_n i_X7_rest_115 rfl) ?_
      refine And.imp_left (rs_getR i_X7_rest_116 (by decide) (by decide) (sO7 SH hh) (sR7_7 SH hh)) ?_
      refine And.imp_left (rs_getL i_X7_rest_119 (by decide) (by decide) (sO3 SH hh (by decide))) ?_
      refine And.imp_left (rs_iload_n i_X7_rest_122 rfl) ?_
      refine And.imp_left (rs_i2l i_X7_rest_123) ?_
      refine And.imp_left (rs_lmul i_X7_rest_124) ?_
      refine And.imp_left (rs_lcmp i_X7_rest_125) ?_
      by_cases c6 : ((gL' o5 89 10) * 100) < ((gL' o5 82 10) * (Int32.toInt64 v3))
      · replace hf := (if_pos c6).symm.trans hf
        refine And.imp_left (rs_ifT i_X7_rest_126 (by rw [lc_lt]; exact decide_eq_true c6) (tg := 132) (by decide)) ?_
        refine And.imp_left (rs_iinc i_X7_rest_132 rfl (v := v4 + 1) rfl (Nat.le_of_ble_eq_true rfl) (lv' := [some (.ref 16), some (.int d1), some (.int v2), some (.int v3), some (.int (v4 + 1))]) rfl) ?_
        refine And.imp_left (rs_goto i_X7_rest_135 (tg := 55) (by decide)) ?_
        exact ih _ _ _ _ _ _ SH hf
      · replace hf := (if_neg c6).symm.trans hf
        refine And.imp_left (rs_ifF i_X7_rest_126 (by rw [lc_lt]; exact decide_eq_false c6)) ?_
        refine And.imp_left (rs_iload i_X7_rest_129 rfl) ?_
        have hf := Option.some.inj hf
        subst hf
        exact ⟨rs_iret i_X7_rest_131 m_X7_rest rfl, SH⟩
noncomputable def g_X7_rest_0 (n : Nat) (v1 : Int32) (v2 : Int32) (v3 : Int32) (h : Hp) : Option (Int32 × Hp) :=
  (g_X7_areSteps v1 h).bind fun o1 =>
  if o1.1 ≠ 0 then
    (g_X7_within v2 1 99 o1.2).bind fun o3 =>
    if o3.1 = 0 then
      some ((-7), o3.2)
    else
      if (v2 - v2 / 10 * 10) = 0 then
        some ((-7), o3.2)
      else
        (g_X7_within v3 0 100 o3.2).bind fun o6 =>
        if o6.1 ≠ 0 then
          (g_X7_make n 17 v1 (-1) (-1) o6.2).bind fun o8 =>
          g_X7_rest_55 n n v2 v3 0 o8
        else
          some ((-7), o6.2)
  else
    some ((-5), o1.2)
set_option maxRecDepth 100000 in
set_option maxHeartbeats 4000000 in
theorem q_X7_rest_0 {X : Nat → Int32} {d : Nat} (hd : 7 ≤ (d + 1)) {L hi : Nat} (hh : 96 ≤ hi) {n : Nat} {v1 : Int32} {v2 : Int32} {v3 : Int32} {h : Hp} {o : (Int32 × Hp)}  (SH : SHP L hi h) (hf : g_X7_rest_0 n v1 v2 v3 h = some o) : Run X (d + 1) 83 0 [some (.ref 16), some (.int v1), some (.int v2), some (.int v3), none] [] h (some (.int o.1), o.2) ∧ SHP L hi o.2 := by
  unfold g_X7_rest_0 at hf
  refine And.imp_left (rs_aload_n i_X7_rest_0 rfl) ?_
  refine And.imp_left (rs_iload_n i_X7_rest_1 rfl) ?_
  obtain ⟨o1, e1, hf⟩ := bind_some hf
  obtain ⟨u1, SH2⟩ := k_X7_areSteps (X := X) (d := d) (by omega) (by omega) SH e1
  refine And.imp_left (rs_inV i_X7_rest_2 m_X7_areSteps rfl (As := [.int v1]) (rest := []) rfl rfl (Nat.le_of_ble_eq_true rfl) (sO7 SH hh) u1 (st' := [.int o1.1]) rfl) ?_
  clear SH; have SH := SH2; clear SH2
  by_cases c2 : o1.1 ≠ 0
  · replace hf := (if_pos c2).symm.trans hf
    refine And.imp_left (rs_ifT i_X7_rest_5 (ct_ne c2) (tg := 11) (by decide)) ?_
    refine And.imp_left (rs_iload_n i_X7_rest_11 rfl) ?_
    refine And.imp_left (rs_iconst i_X7_rest_12 (v := 1) (by decide)) ?_
    refine And.imp_left (rs_bipush i_X7_rest_13 (v := 99) (by decide)) ?_
    obtain ⟨o3, e3, hf⟩ := bind_some hf
    obtain ⟨u3, SH2⟩ := k_X7_within (X := X) (d := d) (by omega) (by omega) SH e3
    refine And.imp_left (rs_inS i_X7_rest_15 (by decide) m_X7_within rfl (As := [.int v2, .int 1, .int 99]) (rest := []) rfl rfl (Nat.le_of_ble_eq_true rfl) u3 (st' := [.int o3.1]) rfl) ?_
    clear SH; have SH := SH2; clear SH2
    by_cases c4 : o3.1 = 0
    · replace hf := (if_pos c4).symm.trans hf
      refine And.imp_left (rs_ifT i_X7_rest_18 (ct_eq c4) (tg := 38) (by decide)) ?_
      refine And.imp_left (rs_bipush i_X7_rest_38 (v := (-7)) (by decide)) ?_
      have hf := Option.some.inj hf
      subst hf
      exact ⟨rs_iret i_X7_rest_40 m_X7_rest rfl, SH⟩
    · replace hf := (if_neg c4).symm.trans hf
      refine And.imp_left (rs_ifF i_X7_rest_18 (cf_eq c4)) ?_
      refine And.imp_left (rs_iload_n i_X7_rest_21 rfl) ?_
      refine And.imp_left (rs_bipush i_X7_rest_22 (v := 10) (by decide)) ?_
      refine And.imp_left (rs_irem i_X7_rest_24 (by decide)) ?_
      by_cases c5 : (v2 - v2 / 10 * 10) = 0
      · replace hf := (if_pos c5).symm.trans hf
        refine And.imp_left (rs_ifT i_X7_rest_25 (ct_eq c5) (tg := 38) (by decide)) ?_
        refine And.imp_left (rs_bipush i_X7_rest_38 (v := (-7)) (by decide)) ?_
        have hf := Option.some.inj hf
        subst hf
        exact ⟨rs_iret i_X7_rest_40 m_X7_rest rfl, SH⟩
      · replace hf := (if_neg c5).symm.trans hf
        refine And.imp_left (rs_ifF i_X7_rest_25 (cf_eq c5)) ?_
        refine And.imp_left (rs_iload_n i_X7_rest_28 rfl) ?_
        refine And.imp_left (rs_iconst i_X7_rest_29 (v := 0) (by decide)) ?_
        refine And.imp_left (rs_bipush i_X7_rest_30 (v := 100) (by decide)) ?_
        obtain ⟨o6, e6, hf⟩ := bind_some hf
        obtain ⟨u6, SH2⟩ := k_X7_within (X := X) (d := d) (by omega) (by omega) SH e6
        refine And.imp_left (rs_inS i_X7_rest_32 (by decide) m_X7_within rfl (As := [.int v3, .int 0, .int 100]) (rest := []) rfl rfl (Nat.le_of_ble_eq_true rfl) u6 (st' := [.int o6.1]) rfl) ?_
        clear SH; have SH := SH2; clear SH2
        by_cases c7 : o6.1 ≠ 0
        · replace hf := (if_pos c7).symm.trans hf
          refine And.imp_left (rs_ifT i_X7_rest_35 (ct_ne c7) (tg := 41) (by decide)) ?_
          refine And.imp_left (rs_aload_n i_X7_rest_41 rfl) ?_
          refine And.imp_left (rs_aload_n i_X7_rest_42 rfl) ?_
          refine And.imp_left (rs_getR i_X7_rest_43 (by decide) (by decide) (sO7 SH hh) (sR7_0 SH hh)) ?_
          refine And.imp_left (rs_iload_n i_X7_rest_46 rfl) ?_
          refine And.imp_left (rs_iconst i_X7_rest_47 (v := (-1)) (by decide)) ?_
          refine And.imp_left (rs_iconst i_X7_rest_48 (v := (-1)) (by decide)) ?_
          obtain ⟨o8, e8, hf⟩ := bind_some hf
          obtain ⟨u8, SH2⟩ := k_X7_make (X := X) (d := d) (by omega) (by omega) (by decide) SH e8
          refine And.imp_left (rs_inV i_X7_rest_49 m_X7_make rfl (As := [.ref 17, .int v1, .int (-1), .int (-1)]) (rest := []) rfl rfl (Nat.le_of_ble_eq_true rfl) (sO7 SH hh) u8 (st' := []) rfl) ?_
          clear SH; have SH := SH2; clear SH2
          refine And.imp_left (rs_iconst i_X7_rest_52 (v := 0) (by decide)) ?_
          refine And.imp_left (rs_istore i_X7_rest_53 (Nat.le_of_ble_eq_true rfl) (lv' := [some (.ref 16), some (.int v1), some (.int v2), some (.int v3), some (.int 0)]) rfl) ?_
          exact q_X7_rest_55 hd hh _ _ _ _ _ _ _ SH hf
        · replace hf := (if_neg c7).symm.trans hf
          refine And.imp_left (rs_ifF i_X7_rest_35 (cf_ne c7)) ?_
          refine And.imp_left (rs_bipush i_X7_rest_38 (v := (-7)) (by decide)) ?_
          have hf := Option.some.inj hf
          subst hf
          exact ⟨rs_iret i_X7_rest_40 m_X7_rest rfl, SH⟩
  · replace hf := (if_neg c2).symm.trans hf
    refine And.imp_left (rs_ifF i_X7_rest_5 (cf_ne c2)) ?_
    refine And.imp_left (rs_bipush i_X7_rest_8 (v := (-5)) (by decide)) ?_
    have hf := Option.some.inj hf
    subst hf
    exact ⟨rs_iret i_X7_rest_10 m_X7_rest rfl, SH⟩
noncomputable def g_X7_rest (n : Nat) (v1 : Int32) (v2 : Int32) (v3 : Int32) (h : Hp) : Option (Int32 × Hp) := g_X7_rest_0 n v1 v2 v3 h
theorem k_X7_rest {X : Nat → Int32} {d : Nat} (hd : 7 ≤ d) {L hi : Nat} (hh : 96 ≤ hi) {n : Nat} {v1 : Int32} {v2 : Int32} {v3 : Int32} {h : Hp} {o : (Int32 × Hp)}  (SH : SHP L hi h) (hf : g_X7_rest n v1 v2 v3 h = some o) : Calls X d 83 [.ref 16, .int v1, .int v2, .int v3] h (some (.int o.1), o.2) ∧ SHP L hi o.2 := by
  obtain ⟨d, rfl⟩ : ∃ z, d = z + 1 := ⟨d - 1, by omega⟩
  obtain ⟨r, S2⟩ := q_X7_rest_0 hd hh SH hf
  exact ⟨⟨_, rfl, r⟩, S2⟩
noncomputable def g_X7_dust_37 (n : Nat) : Nat → Int32 → Int32 → Hp → Option (Int32 × Hp)
  | 0, _, _, _ => none
  | m + 1, v2, v3, h =>
    if 99 < v3 then
      some ((-1), h)
    else
      (g_X3_become 89 82 h).bind fun o2 =>
      (g_X3_powder 89 v3 o2).bind fun o3 =>
      (g_X3_fold n 89 o3).bind fun o4 =>
      if ((gL' o4 82 11) * (Int32.toInt64 v2)) < (((gL' o4 82 11) - (gL' o4 89 11)) * 100) then
        (g_X7_dust_37 n m) v2 (v3 + 1) o4
      else
        some (v3, o4)
set_option maxRecDepth 100000 in
set_option maxHeartbeats 4000000 in
theorem q_X7_dust_37 {X : Nat → Int32} {d : Nat} (hd : 7 ≤ (d + 1)) {L hi : Nat} (hh : 96 ≤ hi) {n : Nat} : ∀ (m : Nat) (v2 : Int32) (v3 : Int32) (d1 : Int32) (h : Hp) (o : (Int32 × Hp)), SHP L hi h → g_X7_dust_37 n m v2 v3 h = some o → Run X (d + 1) 84 37 [some (.ref 16), some (.int d1), some (.int v2), some (.int v3)] [] h (some (.int o.1), o.2) ∧ SHP L hi o.2 := by
  intro m
  induction m with
  | zero => intro v2 v3 d1 h o SH hf; cases hf
  | succ m ih =>
    intro v2 v3 d1 h o SH hf
    rw [g_X7_dust_37] at hf
    refine And.imp_left (rs_iload_n i_X7_dust_37 rfl) ?_
    refine And.imp_left (rs_bipush i_X7_dust_38 (v := 99) (by decide)) ?_
    by_cases c1 : 99 < v3
    · replace hf := (if_pos c1).symm.trans hf
      refine And.imp_left (rs_icT i_X7_dust_40 (ct_gt c1) (tg := 110) (by decide)) ?_
      refine And.imp_left (rs_iconst i_X7_dust_110 (v := (-1)) (by decide)) ?_
      have hf := Option.some.inj hf
      subst hf
      exact ⟨rs_iret i_X7_dust_111 m_X7_dust rfl, SH⟩
    · replace hf := (if_neg c1).symm.trans hf
      refine And.imp_left (rs_icF i_X7_dust_40 (cf_gt c1)) ?_
      refine And.imp_left (rs_aload_n i_X7_dust_43 rfl) ?_
      refine And.imp_left (rs_getR i_X7_dust_44 (by decide) (by decide) (sO7 SH hh) (sR7_8 SH hh)) ?_
      refine And.imp_left (rs_aload_n i_X7_dust_47 rfl) ?_
      refine And.imp_left (rs_getR i_X7_dust_48 (by decide) (by decide) (sO7 SH hh) (sR7_7 SH hh)) ?_
      obtain ⟨o2, e2, hf⟩ := bind_some hf
      obtain ⟨u2, SH2⟩ := k_X3_become (X := X) (d := d) (by omega) (by omega) (by decide) (by decide) SH e2
      refine And.imp_left (rs_inV i_X7_dust_51 m_X3_become rfl (As := [.ref 82]) (rest := []) rfl rfl (Nat.le_of_ble_eq_true rfl) (sO3 SH hh (by decide)) u2 (st' := []) rfl) ?_
      clear SH; have SH := SH2; clear SH2
      refine And.imp_left (rs_aload_n i_X7_dust_54 rfl) ?_
      refine And.imp_left (rs_getR i_X7_dust_55 (by decide) (by decide) (sO7 SH hh) (sR7_8 SH hh)) ?_
      refine And.imp_left (rs_iload_n i_X7_dust_58 rfl) ?_
      obtain ⟨o3, e3, hf⟩ := bind_some hf
      obtain ⟨u3, SH2⟩ := k_X3_powder (X := X) (d := d) (by omega) (by omega) (by decide) SH e3
      refine And.imp_left (rs_inV i_X7_dust_59 m_X3_powder rfl (As := [.int v3]) (rest := []) rfl rfl (Nat.le_of_ble_eq_true rfl) (sO3 SH hh (by decide)) u3 (st' := []) rfl) ?_
      clear SH; have SH := SH2; clear SH2
      refine And.imp_left (rs_aload_n i_X7_dust_62 rfl) ?_
      refine And.imp_left (rs_getR i_X7_dust_63 (by decide) (by decide) (sO7 SH hh) (sR7_8 SH hh)) ?_
      obtain ⟨o4, e4, hf⟩ := bind_some hf
      obtain ⟨u4, SH2⟩ := k_X3_fold (X := X) (d := d) (by omega) (by omega) (by decide) SH e4
      refine And.imp_left (rs_inV i_X7_dust_66 m_X3_fold rfl (As := []) (rest := []) rfl rfl (Nat.le_of_ble_eq_true rfl) (sO3 SH hh (by decide)) u4 (st' := []) rfl) ?_
      clear SH; have SH := SH2; clear SH2
      refine And.imp_left (rs_aload_n i_X7_dust_69 rfl) ?_
      refine And.imp_left (rs_getR i_X7_dust_70 (by decide) (by decide) (sO7 SH hh) (sR7_7 SH hh)) ?_
      refine And.imp_left (rs_getL i_X7_dust_73 (by decide) (by decide) (sO3 SH hh (by decide))) ?_
      refine And.imp_left (rs_aload_n i_X7_dust_76 rfl) ?_
      refine And.imp_left (rs_getR i_X7_dust_77 (by decide) (by decide) (sO7 SH hh) (sR7_8 SH hh)) ?_
      refine And.imp_left (rs_getL i_X7_dust_80 (by decide) (by decide) (sO3 SH hh (by decide))) ?_
      refine And.imp_left (rs_lsub i_X7_dust_83) ?_
      refine And.imp_left (rs_ldc2 i_X7_dust_84 (v := 100) (by decide)) ?_
      refine And.imp_left (rs_lmul i_X7_dust_87) ?_
      refine And.imp_left (rs_aload_n i_X7_dust_88 rfl) ?_
      refine And.imp_left (rs_getR i_X7_dust_89 (by decide) (by decide) (sO7 SH hh) (sR7_7 SH hh)) ?_
      refine And.imp_left (rs_getL i_X7_dust_92 (by decide) (by decide) (sO3 SH hh (by decide))) ?_
      refine And.imp_left (rs_iload_n i_X7_dust_95 rfl) ?_
      refine And.imp_left (rs_i2l i_X7_dust_96) ?_
      refine And.imp_left (rs_lmul i_X7_dust_97) ?_
      refine And.imp_left (rs_lcmp i_X7_dust_98) ?_
      by_cases c5 : ((gL' o4 82 11) * (Int32.toInt64 v2)) < (((gL' o4 82 11) - (gL' o4 89 11)) * 100)
      · replace hf := (if_pos c5).symm.trans hf
        refine And.imp_left (rs_ifT i_X7_dust_99 (by rw [lc_gt]; exact decide_eq_true c5) (tg := 104) (by decide)) ?_
        refine And.imp_left (rs_iinc i_X7_dust_104 rfl (v := v3 + 1) rfl (Nat.le_of_ble_eq_true rfl) (lv' := [some (.ref 16), some (.int d1), some (.int v2), some (.int (v3 + 1))]) rfl) ?_
        refine And.imp_left (rs_goto i_X7_dust_107 (tg := 37) (by decide)) ?_
        exact ih _ _ _ _ _ SH hf
      · replace hf := (if_neg c5).symm.trans hf
        refine And.imp_left (rs_ifF i_X7_dust_99 (by rw [lc_gt]; exact decide_eq_false c5)) ?_
        refine And.imp_left (rs_iload_n i_X7_dust_102 rfl) ?_
        have hf := Option.some.inj hf
        subst hf
        exact ⟨rs_iret i_X7_dust_103 m_X7_dust rfl, SH⟩
noncomputable def g_X7_dust_0 (n : Nat) (v1 : Int32) (v2 : Int32) (h : Hp) : Option (Int32 × Hp) :=
  (g_X7_areSteps v1 h).bind fun o1 =>
  if o1.1 ≠ 0 then
    (g_X7_within v2 0 100 o1.2).bind fun o3 =>
    if o3.1 ≠ 0 then
      (g_X7_make n 17 v1 (-1) (-1) o3.2).bind fun o5 =>
      g_X7_dust_37 n n v2 0 o5
    else
      some ((-7), o3.2)
  else
    some ((-5), o1.2)
set_option maxRecDepth 100000 in
set_option maxHeartbeats 4000000 in
theorem q_X7_dust_0 {X : Nat → Int32} {d : Nat} (hd : 7 ≤ (d + 1)) {L hi : Nat} (hh : 96 ≤ hi) {n : Nat} {v1 : Int32} {v2 : Int32} {h : Hp} {o : (Int32 × Hp)}  (SH : SHP L hi h) (hf : g_X7_dust_0 n v1 v2 h = some o) : Run X (d + 1) 84 0 [some (.ref 16), some (.int v1), some (.int v2), none] [] h (some (.int o.1), o.2) ∧ SHP L hi o.2 := by
  unfold g_X7_dust_0 at hf
  refine And.imp_left (rs_aload_n i_X7_dust_0 rfl) ?_
  refine And.imp_left (rs_iload_n i_X7_dust_1 rfl) ?_
  obtain ⟨o1, e1, hf⟩ := bind_some hf
  obtain ⟨u1, SH2⟩ := k_X7_areSteps (X := X) (d := d) (by omega) (by omega) SH e1
  refine And.imp_left (rs_inV i_X7_dust_2 m_X7_areSteps rfl (As := [.int v1]) (rest := []) rfl rfl (Nat.le_of_ble_eq_true rfl) (sO7 SH hh) u1 (st' := [.int o1.1]) rfl) ?_
  clear SH; have SH := SH2; clear SH2
  by_cases c2 : o1.1 ≠ 0
  · replace hf := (if_pos c2).symm.trans hf
    refine And.imp_left (rs_ifT i_X7_dust_5 (ct_ne c2) (tg := 11) (by decide)) ?_
    refine And.imp_left (rs_iload_n i_X7_dust_11 rfl) ?_
    refine And.imp_left (rs_iconst i_X7_dust_12 (v := 0) (by decide)) ?_
    refine And.imp_left (rs_bipush i_X7_dust_13 (v := 100) (by decide)) ?_
    obtain ⟨o3, e3, hf⟩ := bind_some hf
    obtain ⟨u3, SH2⟩ := k_X7_within (X := X) (d := d) (by omega) (by omega) SH e3
    refine And.imp_left (rs_inS i_X7_dust_15 (by decide) m_X7_within rfl (As := [.int v2, .int 0, .int 100]) (rest := []) rfl rfl (Nat.le_of_ble_eq_true rfl) u3 (st' := [.int o3.1]) rfl) ?_
    clear SH; have SH := SH2; clear SH2
    by_cases c4 : o3.1 ≠ 0
    · replace hf := (if_pos c4).symm.trans hf
      refine And.imp_left (rs_ifT i_X7_dust_18 (ct_ne c4) (tg := 24) (by decide)) ?_
      refine And.imp_left (rs_aload_n i_X7_dust_24 rfl) ?_
      refine And.imp_left (rs_aload_n i_X7_dust_25 rfl) ?_
      refine And.imp_left (rs_getR i_X7_dust_26 (by decide) (by decide) (sO7 SH hh) (sR7_0 SH hh)) ?_
      refine And.imp_left (rs_iload_n i_X7_dust_29 rfl) ?_
      refine And.imp_left (rs_iconst i_X7_dust_30 (v := (-1)) (by decide)) ?_
      refine And.imp_left (rs_iconst i_X7_dust_31 (v := (-1)) (by decide)) ?_
      obtain ⟨o5, e5, hf⟩ := bind_some hf
      obtain ⟨u5, SH2⟩ := k_X7_make (X := X) (d := d) (by omega) (by omega) (by decide) SH e5
      refine And.imp_left (rs_inV i_X7_dust_32 m_X7_make rfl (As := [.ref 17, .int v1, .int (-1), .int (-1)]) (rest := []) rfl rfl (Nat.le_of_ble_eq_true rfl) (sO7 SH hh) u5 (st' := []) rfl) ?_
      clear SH; have SH := SH2; clear SH2
      refine And.imp_left (rs_iconst i_X7_dust_35 (v := 0) (by decide)) ?_
      refine And.imp_left (rs_istore_n i_X7_dust_36 (Nat.le_of_ble_eq_true rfl) (lv' := [some (.ref 16), some (.int v1), some (.int v2), some (.int 0)]) rfl) ?_
      exact q_X7_dust_37 hd hh _ _ _ _ _ _ SH hf
    · replace hf := (if_neg c4).symm.trans hf
      refine And.imp_left (rs_ifF i_X7_dust_18 (cf_ne c4)) ?_
      refine And.imp_left (rs_bipush i_X7_dust_21 (v := (-7)) (by decide)) ?_
      have hf := Option.some.inj hf
      subst hf
      exact ⟨rs_iret i_X7_dust_23 m_X7_dust rfl, SH⟩
  · replace hf := (if_neg c2).symm.trans hf
    refine And.imp_left (rs_ifF i_X7_dust_5 (cf_ne c2)) ?_
    refine And.imp_left (rs_bipush i_X7_dust_8 (v := (-5)) (by decide)) ?_
    have hf := Option.some.inj hf
    subst hf
    exact ⟨rs_iret i_X7_dust_10 m_X7_dust rfl, SH⟩
noncomputable def g_X7_dust (n : Nat) (v1 : Int32) (v2 : Int32) (h : Hp) : Option (Int32 × Hp) := g_X7_dust_0 n v1 v2 h
theorem k_X7_dust {X : Nat → Int32} {d : Nat} (hd : 7 ≤ d) {L hi : Nat} (hh : 96 ≤ hi) {n : Nat} {v1 : Int32} {v2 : Int32} {h : Hp} {o : (Int32 × Hp)}  (SH : SHP L hi h) (hf : g_X7_dust n v1 v2 h = some o) : Calls X d 84 [.ref 16, .int v1, .int v2] h (some (.int o.1), o.2) ∧ SHP L hi o.2 := by
  obtain ⟨d, rfl⟩ : ∃ z, d = z + 1 := ⟨d - 1, by omega⟩
  obtain ⟨r, S2⟩ := q_X7_dust_0 hd hh SH hf
  exact ⟨⟨_, rfl, r⟩, S2⟩
noncomputable def g_X7_doublings_49 (n : Nat) : Nat → Int32 → Int32 → Int32 → Hp → Option (Int32 × Hp)
  | 0, _, _, _, _ => none
  | m + 1, v2, v3, v4, h =>
    if 20 ≤ v4 then
      some (20, h)
    else
      (g_X3_allLength n 82 h).bind fun o2 =>
      (g_X3_draw n 82 o2.1 v2 o2.2).bind fun o3 =>
      (g_X3_fold n 82 o3).bind fun o4 =>
      (g_X3_thinnest n 82 o4).bind fun o5 =>
      (g_X3_thick 82 o5.1 o5.2).bind fun o6 =>
      if v3 ≤ o6.1 then
        (g_X7_doublings_49 n m) v2 v3 (v4 + 1) o6.2
      else
        some (v4, o6.2)
set_option maxRecDepth 100000 in
set_option maxHeartbeats 4000000 in
theorem q_X7_doublings_49 {X : Nat → Int32} {d : Nat} (hd : 7 ≤ (d + 1)) {L hi : Nat} (hh : 96 ≤ hi) {n : Nat} : ∀ (m : Nat) (v2 : Int32) (v3 : Int32) (v4 : Int32) (d1 : Int32) (h : Hp) (o : (Int32 × Hp)), SHP L hi h → g_X7_doublings_49 n m v2 v3 v4 h = some o → Run X (d + 1) 85 49 [some (.ref 16), some (.int d1), some (.int v2), some (.int v3), some (.int v4)] [] h (some (.int o.1), o.2) ∧ SHP L hi o.2 := by
  intro m
  induction m with
  | zero => intro v2 v3 v4 d1 h o SH hf; cases hf
  | succ m ih =>
    intro v2 v3 v4 d1 h o SH hf
    rw [g_X7_doublings_49] at hf
    refine And.imp_left (rs_iload i_X7_doublings_49 rfl) ?_
    refine And.imp_left (rs_bipush i_X7_doublings_51 (v := 20) (by decide)) ?_
    by_cases c1 : 20 ≤ v4
    · replace hf := (if_pos c1).symm.trans hf
      refine And.imp_left (rs_icT i_X7_doublings_53 (ct_ge c1) (tg := 105) (by decide)) ?_
      refine And.imp_left (rs_bipush i_X7_doublings_105 (v := 20) (by decide)) ?_
      have hf := Option.some.inj hf
      subst hf
      exact ⟨rs_iret i_X7_doublings_107 m_X7_doublings rfl, SH⟩
    · replace hf := (if_neg c1).symm.trans hf
      refine And.imp_left (rs_icF i_X7_doublings_53 (cf_ge c1)) ?_
      refine And.imp_left (rs_aload_n i_X7_doublings_56 rfl) ?_
      refine And.imp_left (rs_getR i_X7_doublings_57 (by decide) (by decide) (sO7 SH hh) (sR7_7 SH hh)) ?_
      refine And.imp_left (rs_aload_n i_X7_doublings_60 rfl) ?_
      refine And.imp_left (rs_getR i_X7_doublings_61 (by decide) (by decide) (sO7 SH hh) (sR7_7 SH hh)) ?_
      obtain ⟨o2, e2, hf⟩ := bind_some hf
      obtain ⟨u2, SH2⟩ := k_X3_allLength (X := X) (d := d) (by omega) (by omega) (by decide) SH e2
      refine And.imp_left (rs_inV i_X7_doublings_64 m_X3_allLength rfl (As := []) (rest := [.ref 82]) rfl rfl (Nat.le_of_ble_eq_true rfl) (sO3 SH hh (by decide)) u2 (st' := [.long o2.1, .ref 82]) rfl) ?_
      clear SH; have SH := SH2; clear SH2
      refine And.imp_left (rs_iload_n i_X7_doublings_67 rfl) ?_
      obtain ⟨o3, e3, hf⟩ := bind_some hf
      obtain ⟨u3, SH2⟩ := k_X3_draw (X := X) (d := d) (by omega) (by omega) (by decide) SH e3
      refine And.imp_left (rs_inV i_X7_doublings_68 m_X3_draw rfl (As := [.long o2.1, .int v2]) (rest := []) rfl rfl (Nat.le_of_ble_eq_true rfl) (sO3 SH hh (by decide)) u3 (st' := []) rfl) ?_
      clear SH; have SH := SH2; clear SH2
      refine And.imp_left (rs_aload_n i_X7_doublings_71 rfl) ?_
      refine And.imp_left (rs_getR i_X7_doublings_72 (by decide) (by decide) (sO7 SH hh) (sR7_7 SH hh)) ?_
      obtain ⟨o4, e4, hf⟩ := bind_some hf
      obtain ⟨u4, SH2⟩ := k_X3_fold (X := X) (d := d) (by omega) (by omega) (by decide) SH e4
      refine And.imp_left (rs_inV i_X7_doublings_75 m_X3_fold rfl (As := []) (rest := []) rfl rfl (Nat.le_of_ble_eq_true rfl) (sO3 SH hh (by decide)) u4 (st' := []) rfl) ?_
      clear SH; have SH := SH2; clear SH2
      refine And.imp_left (rs_aload_n i_X7_doublings_78 rfl) ?_
      refine And.imp_left (rs_getR i_X7_doublings_79 (by decide) (by decide) (sO7 SH hh) (sR7_7 SH hh)) ?_
      refine And.imp_left (rs_aload_n i_X7_doublings_82 rfl) ?_
      refine And.imp_left (rs_getR i_X7_doublings_83 (by decide) (by decide) (sO7 SH hh) (sR7_7 SH hh)) ?_
      obtain ⟨o5, e5, hf⟩ := bind_some hf
      obtain ⟨u5, SH2⟩ := k_X3_thinnest (X := X) (d := d) (by omega) (by omega) (by decide) SH e5
      refine And.imp_left (rs_inV i_X7_doublings_86 m_X3_thinnest rfl (As := []) (rest := [.ref 82]) rfl rfl (Nat.le_of_ble_eq_true rfl) (sO3 SH hh (by decide)) u5 (st' := [.int o5.1, .ref 82]) rfl) ?_
      clear SH; have SH := SH2; clear SH2
      obtain ⟨o6, e6, hf⟩ := bind_some hf
      obtain ⟨u6, SH2⟩ := k_X3_thick (X := X) (d := d) (by omega) (by omega) (by decide) SH e6
      refine And.imp_left (rs_inV i_X7_doublings_89 m_X3_thick rfl (As := [.int o5.1]) (rest := []) rfl rfl (Nat.le_of_ble_eq_true rfl) (sO3 SH hh (by decide)) u6 (st' := [.int o6.1]) rfl) ?_
      clear SH; have SH := SH2; clear SH2
      refine And.imp_left (rs_iload_n i_X7_doublings_92 rfl) ?_
      by_cases c7 : v3 ≤ o6.1
      · replace hf := (if_pos c7).symm.trans hf
        refine And.imp_left (rs_icT i_X7_doublings_93 (ct_ge c7) (tg := 99) (by decide)) ?_
        refine And.imp_left (rs_iinc i_X7_doublings_99 rfl (v := v4 + 1) rfl (Nat.le_of_ble_eq_true rfl) (lv' := [some (.ref 16), some (.int d1), some (.int v2), some (.int v3), some (.int (v4 + 1))]) rfl) ?_
        refine And.imp_left (rs_goto i_X7_doublings_102 (tg := 49) (by decide)) ?_
        exact ih _ _ _ _ _ _ SH hf
      · replace hf := (if_neg c7).symm.trans hf
        refine And.imp_left (rs_icF i_X7_doublings_93 (cf_ge c7)) ?_
        refine And.imp_left (rs_iload i_X7_doublings_96 rfl) ?_
        have hf := Option.some.inj hf
        subst hf
        exact ⟨rs_iret i_X7_doublings_98 m_X7_doublings rfl, SH⟩
noncomputable def g_X7_doublings_0 (n : Nat) (v1 : Int32) (v2 : Int32) (v3 : Int32) (h : Hp) : Option (Int32 × Hp) :=
  (g_X7_areSteps v1 h).bind fun o1 =>
  if o1.1 ≠ 0 then
    (g_X7_within v2 1 9 o1.2).bind fun o3 =>
    if o3.1 = 0 then
      some ((-7), o3.2)
    else
      (g_X7_within v3 1 9999 o3.2).bind fun o5 =>
      if o5.1 ≠ 0 then
        (g_X7_make n 17 v1 (-1) (-1) o5.2).bind fun o7 =>
        g_X7_doublings_49 n n v2 v3 0 o7
      else
        some ((-7), o5.2)
  else
    some ((-5), o1.2)
set_option maxRecDepth 100000 in
set_option maxHeartbeats 4000000 in
theorem q_X7_doublings_0 {X : Nat → Int32} {d : Nat} (hd : 7 ≤ (d + 1)) {L hi : Nat} (hh : 96 ≤ hi) {n : Nat} {v1 : Int32} {v2 : Int32} {v3 : Int32} {h : Hp} {o : (Int32 × Hp)}  (SH : SHP L hi h) (hf : g_X7_doublings_0 n v1 v2 v3 h = some o) : Run X (d + 1) 85 0 [some (.ref 16), some (.int v1), some (.int v2), some (.int v3), none] [] h (some (.int o.1), o.2) ∧ SHP L hi o.2 := by
  unfold g_X7_doublings_0 at hf
  refine And.imp_left (rs_aload_n i_X7_doublings_0 rfl) ?_
  refine And.imp_left (rs_iload_n i_X7_doublings_1 rfl) ?_
  obtain ⟨o1, e1, hf⟩ := bind_some hf
  obtain ⟨u1, SH2⟩ := k_X7_areSteps (X := X) (d := d) (by omega) (by omega) SH e1
  refine And.imp_left (rs_inV i_X7_doublings_2 m_X7_areSteps rfl (As := [.int v1]) (rest := []) rfl rfl (Nat.le_of_ble_eq_true rfl) (sO7 SH hh) u1 (st' := [.int o1.1]) rfl) ?_
  clear SH; have SH := SH2; clear SH2
  by_cases c2 : o1.1 ≠ 0
  · replace hf := (if_pos c2).symm.trans hf
    refine And.imp_left (rs_ifT i_X7_doublings_5 (ct_ne c2) (tg := 11) (by decide)) ?_
    refine And.imp_left (rs_iload_n i_X7_doublings_11 rfl) ?_
    refine And.imp_left (rs_iconst i_X7_doublings_12 (v := 1) (by decide)) ?_
    refine And.imp_left (rs_bipush i_X7_doublings_13 (v := 9) (by decide)) ?_
    obtain ⟨o3, e3, hf⟩ := bind_some hf
    obtain ⟨u3, SH2⟩ := k_X7_within (X := X) (d := d) (by omega) (by omega) SH e3
    refine And.imp_left (rs_inS i_X7_doublings_15 (by decide) m_X7_within rfl (As := [.int v2, .int 1, .int 9]) (rest := []) rfl rfl (Nat.le_of_ble_eq_true rfl) u3 (st' := [.int o3.1]) rfl) ?_
    clear SH; have SH := SH2; clear SH2
    by_cases c4 : o3.1 = 0
    · replace hf := (if_pos c4).symm.trans hf
      refine And.imp_left (rs_ifT i_X7_doublings_18 (ct_eq c4) (tg := 32) (by decide)) ?_
      refine And.imp_left (rs_bipush i_X7_doublings_32 (v := (-7)) (by decide)) ?_
      have hf := Option.some.inj hf
      subst hf
      exact ⟨rs_iret i_X7_doublings_34 m_X7_doublings rfl, SH⟩
    · replace hf := (if_neg c4).symm.trans hf
      refine And.imp_left (rs_ifF i_X7_doublings_18 (cf_eq c4)) ?_
      refine And.imp_left (rs_iload_n i_X7_doublings_21 rfl) ?_
      refine And.imp_left (rs_iconst i_X7_doublings_22 (v := 1) (by decide)) ?_
      refine And.imp_left (rs_sipush i_X7_doublings_23 (v := 9999) (by decide)) ?_
      obtain ⟨o5, e5, hf⟩ := bind_some hf
      obtain ⟨u5, SH2⟩ := k_X7_within (X := X) (d := d) (by omega) (by omega) SH e5
      refine And.imp_left (rs_inS i_X7_doublings_26 (by decide) m_X7_within rfl (As := [.int v3, .int 1, .int 9999]) (rest := []) rfl rfl (Nat.le_of_ble_eq_true rfl) u5 (st' := [.int o5.1]) rfl) ?_
      clear SH; have SH := SH2; clear SH2
      by_cases c6 : o5.1 ≠ 0
      · replace hf := (if_pos c6).symm.trans hf
        refine And.imp_left (rs_ifT i_X7_doublings_29 (ct_ne c6) (tg := 35) (by decide)) ?_
        refine And.imp_left (rs_aload_n i_X7_doublings_35 rfl) ?_
        refine And.imp_left (rs_aload_n i_X7_doublings_36 rfl) ?_
        refine And.imp_left (rs_getR i_X7_doublings_37 (by decide) (by decide) (sO7 SH hh) (sR7_0 SH hh)) ?_
        refine And.imp_left (rs_iload_n i_X7_doublings_40 rfl) ?_
        refine And.imp_left (rs_iconst i_X7_doublings_41 (v := (-1)) (by decide)) ?_
        refine And.imp_left (rs_iconst i_X7_doublings_42 (v := (-1)) (by decide)) ?_
        obtain ⟨o7, e7, hf⟩ := bind_some hf
        obtain ⟨u7, SH2⟩ := k_X7_make (X := X) (d := d) (by omega) (by omega) (by decide) SH e7
        refine And.imp_left (rs_inV i_X7_doublings_43 m_X7_make rfl (As := [.ref 17, .int v1, .int (-1), .int (-1)]) (rest := []) rfl rfl (Nat.le_of_ble_eq_true rfl) (sO7 SH hh) u7 (st' := []) rfl) ?_
        clear SH; have SH := SH2; clear SH2
        refine And.imp_left (rs_iconst i_X7_doublings_46 (v := 0) (by decide)) ?_
        refine And.imp_left (rs_istore i_X7_doublings_47 (Nat.le_of_ble_eq_true rfl) (lv' := [some (.ref 16), some (.int v1), some (.int v2), some (.int v3), some (.int 0)]) rfl) ?_
        exact q_X7_doublings_49 hd hh _ _ _ _ _ _ _ SH hf
      · replace hf := (if_neg c6).symm.trans hf
        refine And.imp_left (rs_ifF i_X7_doublings_29 (cf_ne c6)) ?_
        refine And.imp_left (rs_bipush i_X7_doublings_32 (v := (-7)) (by decide)) ?_
        have hf := Option.some.inj hf
        subst hf
        exact ⟨rs_iret i_X7_doublings_34 m_X7_doublings rfl, SH⟩
  · replace hf := (if_neg c2).symm.trans hf
    refine And.imp_left (rs_ifF i_X7_doublings_5 (cf_ne c2)) ?_
    refine And.imp_left (rs_bipush i_X7_doublings_8 (v := (-5)) (by decide)) ?_
    have hf := Option.some.inj hf
    subst hf
    exact ⟨rs_iret i_X7_doublings_10 m_X7_doublings rfl, SH⟩
noncomputable def g_X7_doublings (n : Nat) (v1 : Int32) (v2 : Int32) (v3 : Int32) (h : Hp) : Option (Int32 × Hp) := g_X7_doublings_0 n v1 v2 v3 h
theorem k_X7_doublings {X : Nat → Int32} {d : Nat} (hd : 7 ≤ d) {L hi : Nat} (hh : 96 ≤ hi) {n : Nat} {v1 : Int32} {v2 : Int32} {v3 : Int32} {h : Hp} {o : (Int32 × Hp)}  (SH : SHP L hi h) (hf : g_X7_doublings n v1 v2 v3 h = some o) : Calls X d 85 [.ref 16, .int v1, .int v2, .int v3] h (some (.int o.1), o.2) ∧ SHP L hi o.2 := by
  obtain ⟨d, rfl⟩ : ∃ z, d = z + 1 := ⟨d - 1, by omega⟩
  obtain ⟨r, S2⟩ := q_X7_doublings_0 hd hh SH hf
  exact ⟨⟨_, rfl, r⟩, S2⟩
noncomputable def g_X7_isSheet_0 (v0 : Int32) (h : Hp) : Option (Int32 × Hp) :=
  (g_X7_within v0 0 3 h).bind fun o1 =>
  if o1.1 = 0 ∨ o1.1 = 1 then
  some (o1.1, o1.2)
  else none
set_option maxRecDepth 100000 in
set_option maxHeartbeats 4000000 in
theorem q_X7_isSheet_0 {X : Nat → Int32} {d : Nat} (hd : 1 ≤ (d + 1)) {L hi : Nat} (hh : 96 ≤ hi) {v0 : Int32} {h : Hp} {o : (Int32 × Hp)}  (SH : SHP L hi h) (hf : g_X7_isSheet_0 v0 h = some o) : Run X (d + 1) 114 0 [some (.int v0)] [] h (some (.int o.1), o.2) ∧ SHP L hi o.2 := by
  unfold g_X7_isSheet_0 at hf
  refine And.imp_left (rs_iload_n i_X7_isSheet_0 rfl) ?_
  refine And.imp_left (rs_iconst i_X7_isSheet_1 (v := 0) (by decide)) ?_
  refine And.imp_left (rs_iconst i_X7_isSheet_2 (v := 3) (by decide)) ?_
  obtain ⟨o1, e1, hf⟩ := bind_some hf
  obtain ⟨u1, SH2⟩ := k_X7_within (X := X) (d := d) (by omega) (by omega) SH e1
  refine And.imp_left (rs_inS i_X7_isSheet_3 (by decide) m_X7_within rfl (As := [.int v0, .int 0, .int 3]) (rest := []) rfl rfl (Nat.le_of_ble_eq_true rfl) u1 (st' := [.int o1.1]) rfl) ?_
  clear SH; have SH := SH2; clear SH2
  obtain ⟨c2, hf⟩ := ite_some hf
  have hf := Option.some.inj hf
  subst hf
  exact ⟨rs_iret i_X7_isSheet_6 m_X7_isSheet (decide_eq_true c2), SH⟩
noncomputable def g_X7_isSheet (v0 : Int32) (h : Hp) : Option (Int32 × Hp) := g_X7_isSheet_0 v0 h
theorem k_X7_isSheet {X : Nat → Int32} {d : Nat} (hd : 1 ≤ d) {L hi : Nat} (hh : 96 ≤ hi) {v0 : Int32} {h : Hp} {o : (Int32 × Hp)}  (SH : SHP L hi h) (hf : g_X7_isSheet v0 h = some o) : Calls X d 114 [.int v0] h (some (.int o.1), o.2) ∧ SHP L hi o.2 := by
  obtain ⟨d, rfl⟩ : ∃ z, d = z + 1 := ⟨d - 1, by omega⟩
  obtain ⟨r, S2⟩ := q_X7_isSheet_0 hd hh SH hf
  exact ⟨⟨_, rfl, r⟩, S2⟩
noncomputable def g_X7_refusalOfTest_0 (v1 : Int32) (v2 : Int32) (h : Hp) : Option (Int32 × Hp) :=
  (g_X7_areSteps v1 h).bind fun o1 =>
  if o1.1 ≠ 0 then
    (g_X7_isSheet v2 o1.2).bind fun o3 =>
    if o3.1 ≠ 0 then
      if inb v2 4 = true then
      if (gI o3.2 (72 + 2 * ix v2) 1) ≠ (-1) then
        if (gI o3.2 (72 + 2 * ix v2) 2) ≠ 12 then
          some ((-2), o3.2)
        else
          some (0, o3.2)
      else
        some ((-11), o3.2)
      else none
    else
      some ((-2), o3.2)
  else
    some ((-5), o1.2)
set_option maxRecDepth 100000 in
set_option maxHeartbeats 4000000 in
theorem q_X7_refusalOfTest_0 {X : Nat → Int32} {d : Nat} (hd : 2 ≤ (d + 1)) {L hi : Nat} (hh : 96 ≤ hi) {v1 : Int32} {v2 : Int32} {h : Hp} {o : (Int32 × Hp)}  (SH : SHP L hi h) (hf : g_X7_refusalOfTest_0 v1 v2 h = some o) : Run X (d + 1) 117 0 [some (.ref 16), some (.int v1), some (.int v2)] [] h (some (.int o.1), o.2) ∧ SHP L hi o.2 := by
  unfold g_X7_refusalOfTest_0 at hf
  refine And.imp_left (rs_aload_n i_X7_refusalOfTest_0 rfl) ?_
  refine And.imp_left (rs_iload_n i_X7_refusalOfTest_1 rfl) ?_
  obtain ⟨o1, e1, hf⟩ := bind_some hf
  obtain ⟨u1, SH2⟩ := k_X7_areSteps (X := X) (d := d) (by omega) (by omega) SH e1
  refine And.imp_left (rs_inV i_X7_refusalOfTest_2 m_X7_areSteps rfl (As := [.int v1]) (rest := []) rfl rfl (Nat.le_of_ble_eq_true rfl) (sO7 SH hh) u1 (st' := [.int o1.1]) rfl) ?_
  clear SH; have SH := SH2; clear SH2
  by_cases c2 : o1.1 ≠ 0
  · replace hf := (if_pos c2).symm.trans hf
    refine And.imp_left (rs_ifT i_X7_refusalOfTest_5 (ct_ne c2) (tg := 11) (by decide)) ?_
    refine And.imp_left (rs_iload_n i_X7_refusalOfTest_11 rfl) ?_
    obtain ⟨o3, e3, hf⟩ := bind_some hf
    obtain ⟨u3, SH2⟩ := k_X7_isSheet (X := X) (d := d) (by omega) (by omega) SH e3
    refine And.imp_left (rs_inS i_X7_refusalOfTest_12 (by decide) m_X7_isSheet rfl (As := [.int v2]) (rest := []) rfl rfl (Nat.le_of_ble_eq_true rfl) u3 (st' := [.int o3.1]) rfl) ?_
    clear SH; have SH := SH2; clear SH2
    by_cases c4 : o3.1 ≠ 0
    · replace hf := (if_pos c4).symm.trans hf
      refine And.imp_left (rs_ifT i_X7_refusalOfTest_15 (ct_ne c4) (tg := 21) (by decide)) ?_
      refine And.imp_left (rs_aload_n i_X7_refusalOfTest_21 rfl) ?_
      refine And.imp_left (rs_getR i_X7_refusalOfTest_22 (by decide) (by decide) (sO7 SH hh) (sR7_9 SH hh)) ?_
      refine And.imp_left (rs_iload_n i_X7_refusalOfTest_25 rfl) ?_
      obtain ⟨c5, hf⟩ := ite_some hf
      refine And.imp_left (rs_aald i_X7_refusalOfTest_26 (mkR (sA SH hh (k := 11) (n := 4) (by decide)) (by decide) c5) (sE33 SH hh c5)) ?_
      refine And.imp_left (rs_getI i_X7_refusalOfTest_27 (by decide) (by decide) (sO4 SH hh (oE33 c5))) ?_
      refine And.imp_left (rs_iconst i_X7_refusalOfTest_30 (v := (-1)) (by decide)) ?_
      by_cases c6 : (gI o3.2 (72 + 2 * ix v2) 1) ≠ (-1)
      · replace hf := (if_pos c6).symm.trans hf
        refine And.imp_left (rs_icT i_X7_refusalOfTest_31 (ct_ne c6) (tg := 37) (by decide)) ?_
        refine And.imp_left (rs_aload_n i_X7_refusalOfTest_37 rfl) ?_
        refine And.imp_left (rs_getR i_X7_refusalOfTest_38 (by decide) (by decide) (sO7 SH hh) (sR7_9 SH hh)) ?_
        refine And.imp_left (rs_iload_n i_X7_refusalOfTest_41 rfl) ?_
        refine And.imp_left (rs_aald i_X7_refusalOfTest_42 (mkR (sA SH hh (k := 11) (n := 4) (by decide)) (by decide) c5) (sE33 SH hh c5)) ?_
        refine And.imp_left (rs_getI i_X7_refusalOfTest_43 (by decide) (by decide) (sO4 SH hh (oE33 c5))) ?_
        refine And.imp_left (rs_bipush i_X7_refusalOfTest_46 (v := 12) (by decide)) ?_
        by_cases c7 : (gI o3.2 (72 + 2 * ix v2) 2) ≠ 12
        · replace hf := (if_pos c7).symm.trans hf
          refine And.imp_left (rs_icT i_X7_refusalOfTest_48 (ct_ne c7) (tg := 55) (by decide)) ?_
          refine And.imp_left (rs_bipush i_X7_refusalOfTest_55 (v := (-2)) (by decide)) ?_
          have hf := Option.some.inj hf
          subst hf
          exact ⟨rs_iret i_X7_refusalOfTest_57 m_X7_refusalOfTest rfl, SH⟩
        · replace hf := (if_neg c7).symm.trans hf
          refine And.imp_left (rs_icF i_X7_refusalOfTest_48 (cf_ne c7)) ?_
          refine And.imp_left (rs_iconst i_X7_refusalOfTest_51 (v := 0) (by decide)) ?_
          refine And.imp_left (rs_goto i_X7_refusalOfTest_52 (tg := 57) (by decide)) ?_
          have hf := Option.some.inj hf
          subst hf
          exact ⟨rs_iret i_X7_refusalOfTest_57 m_X7_refusalOfTest rfl, SH⟩
      · replace hf := (if_neg c6).symm.trans hf
        refine And.imp_left (rs_icF i_X7_refusalOfTest_31 (cf_ne c6)) ?_
        refine And.imp_left (rs_bipush i_X7_refusalOfTest_34 (v := (-11)) (by decide)) ?_
        have hf := Option.some.inj hf
        subst hf
        exact ⟨rs_iret i_X7_refusalOfTest_36 m_X7_refusalOfTest rfl, SH⟩
    · replace hf := (if_neg c4).symm.trans hf
      refine And.imp_left (rs_ifF i_X7_refusalOfTest_15 (cf_ne c4)) ?_
      refine And.imp_left (rs_bipush i_X7_refusalOfTest_18 (v := (-2)) (by decide)) ?_
      have hf := Option.some.inj hf
      subst hf
      exact ⟨rs_iret i_X7_refusalOfTest_20 m_X7_refusalOfTest rfl, SH⟩
  · replace hf := (if_neg c2).symm.trans hf
    refine And.imp_left (rs_ifF i_X7_refusalOfTest_5 (cf_ne c2)) ?_
    refine And.imp_left (rs_bipush i_X7_refusalOfTest_8 (v := (-5)) (by decide)) ?_
    have hf := Option.some.inj hf
    subst hf
    exact ⟨rs_iret i_X7_refusalOfTest_10 m_X7_refusalOfTest rfl, SH⟩
noncomputable def g_X7_refusalOfTest (v1 : Int32) (v2 : Int32) (h : Hp) : Option (Int32 × Hp) := g_X7_refusalOfTest_0 v1 v2 h
theorem k_X7_refusalOfTest {X : Nat → Int32} {d : Nat} (hd : 2 ≤ d) {L hi : Nat} (hh : 96 ≤ hi) {v1 : Int32} {v2 : Int32} {h : Hp} {o : (Int32 × Hp)}  (SH : SHP L hi h) (hf : g_X7_refusalOfTest v1 v2 h = some o) : Calls X d 117 [.ref 16, .int v1, .int v2] h (some (.int o.1), o.2) ∧ SHP L hi o.2 := by
  obtain ⟨d, rfl⟩ : ∃ z, d = z + 1 := ⟨d - 1, by omega⟩
  obtain ⟨r, S2⟩ := q_X7_refusalOfTest_0 hd hh SH hf
  exact ⟨⟨_, rfl, r⟩, S2⟩
noncomputable def g_X7_judge_0 (n : Nat) (v1 : Int32) (v2 : Int32) (v3 : Int32) (h : Hp) : Option (Int32 × Hp) :=
  (g_X7_refusalOfTest v1 v2 h).bind fun o1 =>
  if o1.1 = 0 then
    (g_X7_within v3 0 9999 o1.2).bind fun o3 =>
    if o3.1 ≠ 0 then
      (g_X7_make n 17 v1 (-1) (-1) o3.2).bind fun o5 =>
      if inb v2 4 = true then
      (g_X3_firstOff n 82 (72 + 2 * ix v2) v3 o5).bind fun o7 =>
      some (o7.1, o7.2)
      else none
    else
      some ((-7), o3.2)
  else
    some (o1.1, o1.2)
set_option maxRecDepth 100000 in
set_option maxHeartbeats 4000000 in
theorem q_X7_judge_0 {X : Nat → Int32} {d : Nat} (hd : 7 ≤ (d + 1)) {L hi : Nat} (hh : 96 ≤ hi) {n : Nat} {v1 : Int32} {v2 : Int32} {v3 : Int32} {h : Hp} {o : (Int32 × Hp)}  (SH : SHP L hi h) (hf : g_X7_judge_0 n v1 v2 v3 h = some o) : Run X (d + 1) 86 0 [some (.ref 16), some (.int v1), some (.int v2), some (.int v3), none] [] h (some (.int o.1), o.2) ∧ SHP L hi o.2 := by
  unfold g_X7_judge_0 at hf
  refine And.imp_left (rs_aload_n i_X7_judge_0 rfl) ?_
  refine And.imp_left (rs_iload_n i_X7_judge_1 rfl) ?_
  refine And.imp_left (rs_iload_n i_X7_judge_2 rfl) ?_
  obtain ⟨o1, e1, hf⟩ := bind_some hf
  obtain ⟨u1, SH2⟩ := k_X7_refusalOfTest (X := X) (d := d) (by omega) (by omega) SH e1
  refine And.imp_left (rs_inV i_X7_judge_3 m_X7_refusalOfTest rfl (As := [.int v1, .int v2]) (rest := []) rfl rfl (Nat.le_of_ble_eq_true rfl) (sO7 SH hh) u1 (st' := [.int o1.1]) rfl) ?_
  clear SH; have SH := SH2; clear SH2
  refine And.imp_left (rs_istore i_X7_judge_6 (Nat.le_of_ble_eq_true rfl) (lv' := [some (.ref 16), some (.int v1), some (.int v2), some (.int v3), some (.int o1.1)]) rfl) ?_
  refine And.imp_left (rs_iload i_X7_judge_8 rfl) ?_
  by_cases c2 : o1.1 = 0
  · replace hf := (if_pos c2).symm.trans hf
    refine And.imp_left (rs_ifT i_X7_judge_10 (ct_eq c2) (tg := 16) (by decide)) ?_
    refine And.imp_left (rs_iload_n i_X7_judge_16 rfl) ?_
    refine And.imp_left (rs_iconst i_X7_judge_17 (v := 0) (by decide)) ?_
    refine And.imp_left (rs_sipush i_X7_judge_18 (v := 9999) (by decide)) ?_
    obtain ⟨o3, e3, hf⟩ := bind_some hf
    obtain ⟨u3, SH2⟩ := k_X7_within (X := X) (d := d) (by omega) (by omega) SH e3
    refine And.imp_left (rs_inS i_X7_judge_21 (by decide) m_X7_within rfl (As := [.int v3, .int 0, .int 9999]) (rest := []) rfl rfl (Nat.le_of_ble_eq_true rfl) u3 (st' := [.int o3.1]) rfl) ?_
    clear SH; have SH := SH2; clear SH2
    by_cases c4 : o3.1 ≠ 0
    · replace hf := (if_pos c4).symm.trans hf
      refine And.imp_left (rs_ifT i_X7_judge_24 (ct_ne c4) (tg := 30) (by decide)) ?_
      refine And.imp_left (rs_aload_n i_X7_judge_30 rfl) ?_
      refine And.imp_left (rs_aload_n i_X7_judge_31 rfl) ?_
      refine And.imp_left (rs_getR i_X7_judge_32 (by decide) (by decide) (sO7 SH hh) (sR7_0 SH hh)) ?_
      refine And.imp_left (rs_iload_n i_X7_judge_35 rfl) ?_
      refine And.imp_left (rs_iconst i_X7_judge_36 (v := (-1)) (by decide)) ?_
      refine And.imp_left (rs_iconst i_X7_judge_37 (v := (-1)) (by decide)) ?_
      obtain ⟨o5, e5, hf⟩ := bind_some hf
      obtain ⟨u5, SH2⟩ := k_X7_make (X := X) (d := d) (by omega) (by omega) (by decide) SH e5
      refine And.imp_left (rs_inV i_X7_judge_38 m_X7_make rfl (As := [.ref 17, .int v1, .int (-1), .int (-1)]) (rest := []) rfl rfl (Nat.le_of_ble_eq_true rfl) (sO7 SH hh) u5 (st' := []) rfl) ?_
      clear SH; have SH := SH2; clear SH2
      refine And.imp_left (rs_aload_n i_X7_judge_41 rfl) ?_
      refine And.imp_left (rs_getR i_X7_judge_42 (by decide) (by decide) (sO7 SH hh) (sR7_7 SH hh)) ?_
      refine And.imp_left (rs_aload_n i_X7_judge_45 rfl) ?_
      refine And.imp_left (rs_getR i_X7_judge_46 (by decide) (by decide) (sO7 SH hh) (sR7_9 SH hh)) ?_
      refine And.imp_left (rs_iload_n i_X7_judge_49 rfl) ?_
      obtain ⟨c6, hf⟩ := ite_some hf
      refine And.imp_left (rs_aald i_X7_judge_50 (mkR (sA SH hh (k := 11) (n := 4) (by decide)) (by decide) c6) (sE33 SH hh c6)) ?_
      refine And.imp_left (rs_iload_n i_X7_judge_51 rfl) ?_
      obtain ⟨o7, e7, hf⟩ := bind_some hf
      obtain ⟨u7, SH2⟩ := k_X3_firstOff (X := X) (d := d) (by omega) (by omega) (by decide) (oE33 c6) SH e7
      refine And.imp_left (rs_inV i_X7_judge_52 m_X3_firstOff rfl (As := [.ref (72 + 2 * ix v2), .int v3]) (rest := []) rfl rfl (Nat.le_of_ble_eq_true rfl) (sO3 SH hh (by decide)) u7 (st' := [.int o7.1]) rfl) ?_
      clear SH; have SH := SH2; clear SH2
      have hf := Option.some.inj hf
      subst hf
      exact ⟨rs_iret i_X7_judge_55 m_X7_judge rfl, SH⟩
    · replace hf := (if_neg c4).symm.trans hf
      refine And.imp_left (rs_ifF i_X7_judge_24 (cf_ne c4)) ?_
      refine And.imp_left (rs_bipush i_X7_judge_27 (v := (-7)) (by decide)) ?_
      have hf := Option.some.inj hf
      subst hf
      exact ⟨rs_iret i_X7_judge_29 m_X7_judge rfl, SH⟩
  · replace hf := (if_neg c2).symm.trans hf
    refine And.imp_left (rs_ifF i_X7_judge_10 (cf_eq c2)) ?_
    refine And.imp_left (rs_iload i_X7_judge_13 rfl) ?_
    have hf := Option.some.inj hf
    subst hf
    exact ⟨rs_iret i_X7_judge_15 m_X7_judge rfl, SH⟩
noncomputable def g_X7_judge (n : Nat) (v1 : Int32) (v2 : Int32) (v3 : Int32) (h : Hp) : Option (Int32 × Hp) := g_X7_judge_0 n v1 v2 v3 h
theorem k_X7_judge {X : Nat → Int32} {d : Nat} (hd : 7 ≤ d) {L hi : Nat} (hh : 96 ≤ hi) {n : Nat} {v1 : Int32} {v2 : Int32} {v3 : Int32} {h : Hp} {o : (Int32 × Hp)}  (SH : SHP L hi h) (hf : g_X7_judge n v1 v2 v3 h = some o) : Calls X d 86 [.ref 16, .int v1, .int v2, .int v3] h (some (.int o.1), o.2) ∧ SHP L hi o.2 := by
  obtain ⟨d, rfl⟩ : ∃ z, d = z + 1 := ⟨d - 1, by omega⟩
  obtain ⟨r, S2⟩ := q_X7_judge_0 hd hh SH hf
  exact ⟨⟨_, rfl, r⟩, S2⟩
noncomputable def g_X7_film_46 (n : Nat) : Nat → Int32 → Int32 → Hp → Option (Int32 × Hp)
  | 0, _, _, _ => none
  | m + 1, v2, v3, h =>
    if 12 ≤ v3 then
      some (12, h)
    else
      if inb v2 4 = true then
      (g_X3_thick 82 v3 h).bind fun o3 =>
      (g_X4_put (72 + 2 * ix v2) v3 o3.1 o3.2).bind fun o4 =>
      (g_X7_film_46 n m) v2 (v3 + 1) o4
      else none
set_option maxRecDepth 100000 in
set_option maxHeartbeats 4000000 in
theorem q_X7_film_46 {X : Nat → Int32} {d : Nat} (hd : 7 ≤ (d + 1)) {L hi : Nat} (hh : 96 ≤ hi) {n : Nat} : ∀ (m : Nat) (v2 : Int32) (v3 : Int32) (d1 : Int32) (h : Hp) (o : (Int32 × Hp)), SHP L hi h → g_X7_film_46 n m v2 v3 h = some o → Run X (d + 1) 87 46 [some (.ref 16), some (.int d1), some (.int v2), some (.int v3)] [] h (some (.int o.1), o.2) ∧ SHP L hi o.2 := by
  intro m
  induction m with
  | zero => intro v2 v3 d1 h o SH hf; cases hf
  | succ m ih =>
    intro v2 v3 d1 h o SH hf
    rw [g_X7_film_46] at hf
    refine And.imp_left (rs_iload_n i_X7_film_46 rfl) ?_
    refine And.imp_left (rs_bipush i_X7_film_47 (v := 12) (by decide)) ?_
    by_cases c1 : 12 ≤ v3
    · replace hf := (if_pos c1).symm.trans hf
      refine And.imp_left (rs_icT i_X7_film_49 (ct_ge c1) (tg := 76) (by decide)) ?_
      refine And.imp_left (rs_bipush i_X7_film_76 (v := 12) (by decide)) ?_
      have hf := Option.some.inj hf
      subst hf
      exact ⟨rs_iret i_X7_film_78 m_X7_film rfl, SH⟩
    · replace hf := (if_neg c1).symm.trans hf
      refine And.imp_left (rs_icF i_X7_film_49 (cf_ge c1)) ?_
      refine And.imp_left (rs_aload_n i_X7_film_52 rfl) ?_
      refine And.imp_left (rs_getR i_X7_film_53 (by decide) (by decide) (sO7 SH hh) (sR7_9 SH hh)) ?_
      refine And.imp_left (rs_iload_n i_X7_film_56 rfl) ?_
      obtain ⟨c2, hf⟩ := ite_some hf
      refine And.imp_left (rs_aald i_X7_film_57 (mkR (sA SH hh (k := 11) (n := 4) (by decide)) (by decide) c2) (sE33 SH hh c2)) ?_
      refine And.imp_left (rs_iload_n i_X7_film_58 rfl) ?_
      refine And.imp_left (rs_aload_n i_X7_film_59 rfl) ?_
      refine And.imp_left (rs_getR i_X7_film_60 (by decide) (by decide) (sO7 SH hh) (sR7_7 SH hh)) ?_
      refine And.imp_left (rs_iload_n i_X7_film_63 rfl) ?_
      obtain ⟨o3, e3, hf⟩ := bind_some hf
      obtain ⟨u3, SH2⟩ := k_X3_thick (X := X) (d := d) (by omega) (by omega) (by decide) SH e3
      refine And.imp_left (rs_inV i_X7_film_64 m_X3_thick rfl (As := [.int v3]) (rest := [.int v3, .ref (72 + 2 * ix v2)]) rfl rfl (Nat.le_of_ble_eq_true rfl) (sO3 SH hh (by decide)) u3 (st' := [.int o3.1, .int v3, .ref (72 + 2 * ix v2)]) rfl) ?_
      clear SH; have SH := SH2; clear SH2
      obtain ⟨o4, e4, hf⟩ := bind_some hf
      obtain ⟨u4, SH2⟩ := k_X4_put (X := X) (d := d) (by omega) (by omega) (oE33 c2) SH e4
      refine And.imp_left (rs_inV i_X7_film_67 m_X4_put rfl (As := [.int v3, .int o3.1]) (rest := []) rfl rfl (Nat.le_of_ble_eq_true rfl) (sO4 SH hh (oE33 c2)) u4 (st' := []) rfl) ?_
      clear SH; have SH := SH2; clear SH2
      refine And.imp_left (rs_iinc i_X7_film_70 rfl (v := v3 + 1) rfl (Nat.le_of_ble_eq_true rfl) (lv' := [some (.ref 16), some (.int d1), some (.int v2), some (.int (v3 + 1))]) rfl) ?_
      refine And.imp_left (rs_goto i_X7_film_73 (tg := 46) (by decide)) ?_
      exact ih _ _ _ _ _ SH hf
noncomputable def g_X7_film_0 (n : Nat) (v1 : Int32) (v2 : Int32) (h : Hp) : Option (Int32 × Hp) :=
  (g_X7_areSteps v1 h).bind fun o1 =>
  if o1.1 ≠ 0 then
    (g_X7_isSheet v2 o1.2).bind fun o3 =>
    if o3.1 ≠ 0 then
      (g_X7_make n 17 v1 (-1) (-1) o3.2).bind fun o5 =>
      if inb v2 4 = true then
      (g_X4_become n (72 + 2 * ix v2) 2 12 o5).bind fun o7 =>
      g_X7_film_46 n n v2 0 o7
      else none
    else
      some ((-2), o3.2)
  else
    some ((-5), o1.2)
set_option maxRecDepth 100000 in
set_option maxHeartbeats 4000000 in
theorem q_X7_film_0 {X : Nat → Int32} {d : Nat} (hd : 7 ≤ (d + 1)) {L hi : Nat} (hh : 96 ≤ hi) {n : Nat} {v1 : Int32} {v2 : Int32} {h : Hp} {o : (Int32 × Hp)}  (SH : SHP L hi h) (hf : g_X7_film_0 n v1 v2 h = some o) : Run X (d + 1) 87 0 [some (.ref 16), some (.int v1), some (.int v2), none] [] h (some (.int o.1), o.2) ∧ SHP L hi o.2 := by
  unfold g_X7_film_0 at hf
  refine And.imp_left (rs_aload_n i_X7_film_0 rfl) ?_
  refine And.imp_left (rs_iload_n i_X7_film_1 rfl) ?_
  obtain ⟨o1, e1, hf⟩ := bind_some hf
  obtain ⟨u1, SH2⟩ := k_X7_areSteps (X := X) (d := d) (by omega) (by omega) SH e1
  refine And.imp_left (rs_inV i_X7_film_2 m_X7_areSteps rfl (As := [.int v1]) (rest := []) rfl rfl (Nat.le_of_ble_eq_true rfl) (sO7 SH hh) u1 (st' := [.int o1.1]) rfl) ?_
  clear SH; have SH := SH2; clear SH2
  by_cases c2 : o1.1 ≠ 0
  · replace hf := (if_pos c2).symm.trans hf
    refine And.imp_left (rs_ifT i_X7_film_5 (ct_ne c2) (tg := 11) (by decide)) ?_
    refine And.imp_left (rs_iload_n i_X7_film_11 rfl) ?_
    obtain ⟨o3, e3, hf⟩ := bind_some hf
    obtain ⟨u3, SH2⟩ := k_X7_isSheet (X := X) (d := d) (by omega) (by omega) SH e3
    refine And.imp_left (rs_inS i_X7_film_12 (by decide) m_X7_isSheet rfl (As := [.int v2]) (rest := []) rfl rfl (Nat.le_of_ble_eq_true rfl) u3 (st' := [.int o3.1]) rfl) ?_
    clear SH; have SH := SH2; clear SH2
    by_cases c4 : o3.1 ≠ 0
    · replace hf := (if_pos c4).symm.trans hf
      refine And.imp_left (rs_ifT i_X7_film_15 (ct_ne c4) (tg := 21) (by decide)) ?_
      refine And.imp_left (rs_aload_n i_X7_film_21 rfl) ?_
      refine And.imp_left (rs_aload_n i_X7_film_22 rfl) ?_
      refine And.imp_left (rs_getR i_X7_film_23 (by decide) (by decide) (sO7 SH hh) (sR7_0 SH hh)) ?_
      refine And.imp_left (rs_iload_n i_X7_film_26 rfl) ?_
      refine And.imp_left (rs_iconst i_X7_film_27 (v := (-1)) (by decide)) ?_
      refine And.imp_left (rs_iconst i_X7_film_28 (v := (-1)) (by decide)) ?_
      obtain ⟨o5, e5, hf⟩ := bind_some hf
      obtain ⟨u5, SH2⟩ := k_X7_make (X := X) (d := d) (by omega) (by omega) (by decide) SH e5
      refine And.imp_left (rs_inV i_X7_film_29 m_X7_make rfl (As := [.ref 17, .int v1, .int (-1), .int (-1)]) (rest := []) rfl rfl (Nat.le_of_ble_eq_true rfl) (sO7 SH hh) u5 (st' := []) rfl) ?_
      clear SH; have SH := SH2; clear SH2
      refine And.imp_left (rs_aload_n i_X7_film_32 rfl) ?_
      refine And.imp_left (rs_getR i_X7_film_33 (by decide) (by decide) (sO7 SH hh) (sR7_9 SH hh)) ?_
      refine And.imp_left (rs_iload_n i_X7_film_36 rfl) ?_
      obtain ⟨c6, hf⟩ := ite_some hf
      refine And.imp_left (rs_aald i_X7_film_37 (mkR (sA SH hh (k := 11) (n := 4) (by decide)) (by decide) c6) (sE33 SH hh c6)) ?_
      refine And.imp_left (rs_iconst i_X7_film_38 (v := 2) (by decide)) ?_
      refine And.imp_left (rs_bipush i_X7_film_39 (v := 12) (by decide)) ?_
      obtain ⟨o7, e7, hf⟩ := bind_some hf
      obtain ⟨u7, SH2⟩ := k_X4_become (X := X) (d := d) (by omega) (by omega) (oE33 c6) SH e7
      refine And.imp_left (rs_inV i_X7_film_41 m_X4_become rfl (As := [.int 2, .int 12]) (rest := []) rfl rfl (Nat.le_of_ble_eq_true rfl) (sO4 SH hh (oE33 c6)) u7 (st' := []) rfl) ?_
      clear SH; have SH := SH2; clear SH2
      refine And.imp_left (rs_iconst i_X7_film_44 (v := 0) (by decide)) ?_
      refine And.imp_left (rs_istore_n i_X7_film_45 (Nat.le_of_ble_eq_true rfl) (lv' := [some (.ref 16), some (.int v1), some (.int v2), some (.int 0)]) rfl) ?_
      exact q_X7_film_46 hd hh _ _ _ _ _ _ SH hf
    · replace hf := (if_neg c4).symm.trans hf
      refine And.imp_left (rs_ifF i_X7_film_15 (cf_ne c4)) ?_
      refine And.imp_left (rs_bipush i_X7_film_18 (v := (-2)) (by decide)) ?_
      have hf := Option.some.inj hf
      subst hf
      exact ⟨rs_iret i_X7_film_20 m_X7_film rfl, SH⟩
  · replace hf := (if_neg c2).symm.trans hf
    refine And.imp_left (rs_ifF i_X7_film_5 (cf_ne c2)) ?_
    refine And.imp_left (rs_bipush i_X7_film_8 (v := (-5)) (by decide)) ?_
    have hf := Option.some.inj hf
    subst hf
    exact ⟨rs_iret i_X7_film_10 m_X7_film rfl, SH⟩
noncomputable def g_X7_film (n : Nat) (v1 : Int32) (v2 : Int32) (h : Hp) : Option (Int32 × Hp) := g_X7_film_0 n v1 v2 h
theorem k_X7_film {X : Nat → Int32} {d : Nat} (hd : 7 ≤ d) {L hi : Nat} (hh : 96 ≤ hi) {n : Nat} {v1 : Int32} {v2 : Int32} {h : Hp} {o : (Int32 × Hp)}  (SH : SHP L hi h) (hf : g_X7_film n v1 v2 h = some o) : Calls X d 87 [.ref 16, .int v1, .int v2] h (some (.int o.1), o.2) ∧ SHP L hi o.2 := by
  obtain ⟨d, rfl⟩ : ∃ z, d = z + 1 := ⟨d - 1, by omega⟩
  obtain ⟨r, S2⟩ := q_X7_film_0 hd hh SH hf
  exact ⟨⟨_, rfl, r⟩, S2⟩
noncomputable def g_X7_serves_99 (n : Nat) (K45 : Int32 → Int32 → Int32 → Int32 → Int32 → Hp → Option (Int32 × Hp)) (v1 : Int32) (v2 : Int32) (v3 : Int32) (v5 : Int32) (v6 : Int32) (h : Hp) : Option (Int32 × Hp) :=
  K45 v1 v2 v3 v5 (v6 + 1) h
set_option maxRecDepth 100000 in
set_option maxHeartbeats 4000000 in
theorem q_X7_serves_99 {X : Nat → Int32} {d : Nat} (hd : 7 ≤ (d + 1)) {L hi : Nat} (hh : 96 ≤ hi) {n : Nat} {K45 : Int32 → Int32 → Int32 → Int32 → Int32 → Hp → Option (Int32 × Hp)} (HK45 : ∀ (v1 : Int32) (v2 : Int32) (v3 : Int32) (v5 : Int32) (v6 : Int32) (d4 : Int32) (h : Hp) (o : (Int32 × Hp)), SHP L hi h → K45 v1 v2 v3 v5 v6 h = some o → Run X (d + 1) 88 45 [some (.ref 16), some (.int v1), some (.int v2), some (.int v3), some (.int d4), some (.int v5), some (.int v6)] [] h (some (.int o.1), o.2) ∧ SHP L hi o.2) {v1 : Int32} {v2 : Int32} {v3 : Int32} {v5 : Int32} {v6 : Int32} {d4 : Int32} {h : Hp} {o : (Int32 × Hp)}  (SH : SHP L hi h) (hf : g_X7_serves_99 n K45 v1 v2 v3 v5 v6 h = some o) : Run X (d + 1) 88 99 [some (.ref 16), some (.int v1), some (.int v2), some (.int v3), some (.int d4), some (.int v5), some (.int v6)] [] h (some (.int o.1), o.2) ∧ SHP L hi o.2 := by
  unfold g_X7_serves_99 at hf
  refine And.imp_left (rs_iinc i_X7_serves_99 rfl (v := v6 + 1) rfl (Nat.le_of_ble_eq_true rfl) (lv' := [some (.ref 16), some (.int v1), some (.int v2), some (.int v3), some (.int d4), some (.int v5), some (.int (v6 + 1))]) rfl) ?_
  refine And.imp_left (rs_goto i_X7_serves_102 (tg := 45) (by decide)) ?_
  exact HK45 _ _ _ _ _ _ _ _ SH hf
noncomputable def g_X7_serves_63 (n : Nat) (K45 : Int32 → Int32 → Int32 → Int32 → Int32 → Hp → Option (Int32 × Hp)) (v1 : Int32) (v2 : Int32) (v3 : Int32) (v5 : Int32) (v6 : Int32) (h : Hp) : Option (Int32 × Hp) :=
  (g_X7_make n 25 v1 (-1) (-1) h).bind fun o1 =>
  if inb v2 4 = true then
  (g_X3_isAsTold n 82 (72 + 2 * ix v2) o1).bind fun o3 =>
  if o3.1 = 0 then
    g_X7_serves_99 n K45 v1 v2 v3 v5 v6 o3.2
  else
    g_X7_serves_99 n K45 v1 v2 v3 (v5 ||| (1 <<< (v6 &&& 31))) v6 o3.2
  else none
set_option maxRecDepth 100000 in
set_option maxHeartbeats 4000000 in
theorem q_X7_serves_63 {X : Nat → Int32} {d : Nat} (hd : 7 ≤ (d + 1)) {L hi : Nat} (hh : 96 ≤ hi) {n : Nat} {K45 : Int32 → Int32 → Int32 → Int32 → Int32 → Hp → Option (Int32 × Hp)} (HK45 : ∀ (v1 : Int32) (v2 : Int32) (v3 : Int32) (v5 : Int32) (v6 : Int32) (d4 : Int32) (h : Hp) (o : (Int32 × Hp)), SHP L hi h → K45 v1 v2 v3 v5 v6 h = some o → Run X (d + 1) 88 45 [some (.ref 16), some (.int v1), some (.int v2), some (.int v3), some (.int d4), some (.int v5), some (.int v6)] [] h (some (.int o.1), o.2) ∧ SHP L hi o.2) {v1 : Int32} {v2 : Int32} {v3 : Int32} {v5 : Int32} {v6 : Int32} {d4 : Int32} {h : Hp} {o : (Int32 × Hp)}  (SH : SHP L hi h) (hf : g_X7_serves_63 n K45 v1 v2 v3 v5 v6 h = some o) : Run X (d + 1) 88 63 [some (.ref 16), some (.int v1), some (.int v2), some (.int v3), some (.int d4), some (.int v5), some (.int v6)] [] h (some (.int o.1), o.2) ∧ SHP L hi o.2 := by
  unfold g_X7_serves_63 at hf
  refine And.imp_left (rs_aload_n i_X7_serves_63 rfl) ?_
  refine And.imp_left (rs_aload_n i_X7_serves_64 rfl) ?_
  refine And.imp_left (rs_getR i_X7_serves_65 (by decide) (by decide) (sO7 SH hh) (sR7_2 SH hh)) ?_
  refine And.imp_left (rs_iload_n i_X7_serves_68 rfl) ?_
  refine And.imp_left (rs_iconst i_X7_serves_69 (v := (-1)) (by decide)) ?_
  refine And.imp_left (rs_iconst i_X7_serves_70 (v := (-1)) (by decide)) ?_
  obtain ⟨o1, e1, hf⟩ := bind_some hf
  obtain ⟨u1, SH2⟩ := k_X7_make (X := X) (d := d) (by omega) (by omega) (by decide) SH e1
  refine And.imp_left (rs_inV i_X7_serves_71 m_X7_make rfl (As := [.ref 25, .int v1, .int (-1), .int (-1)]) (rest := []) rfl rfl (Nat.le_of_ble_eq_true rfl) (sO7 SH hh) u1 (st' := []) rfl) ?_
  clear SH; have SH := SH2; clear SH2
  refine And.imp_left (rs_aload_n i_X7_serves_74 rfl) ?_
  refine And.imp_left (rs_getR i_X7_serves_75 (by decide) (by decide) (sO7 SH hh) (sR7_7 SH hh)) ?_
  refine And.imp_left (rs_aload_n i_X7_serves_78 rfl) ?_
  refine And.imp_left (rs_getR i_X7_serves_79 (by decide) (by decide) (sO7 SH hh) (sR7_9 SH hh)) ?_
  refine And.imp_left (rs_iload_n i_X7_serves_82 rfl) ?_
  obtain ⟨c2, hf⟩ := ite_some hf
  refine And.imp_left (rs_aald i_X7_serves_83 (mkR (sA SH hh (k := 11) (n := 4) (by decide)) (by decide) c2) (sE33 SH hh c2)) ?_
  obtain ⟨o3, e3, hf⟩ := bind_some hf
  obtain ⟨u3, SH2⟩ := k_X3_isAsTold (X := X) (d := d) (by omega) (by omega) (by decide) (oE33 c2) SH e3
  refine And.imp_left (rs_inV i_X7_serves_84 m_X3_isAsTold rfl (As := [.ref (72 + 2 * ix v2)]) (rest := []) rfl rfl (Nat.le_of_ble_eq_true rfl) (sO3 SH hh (by decide)) u3 (st' := [.int o3.1]) rfl) ?_
  clear SH; have SH := SH2; clear SH2
  by_cases c4 : o3.1 = 0
  · replace hf := (if_pos c4).symm.trans hf
    refine And.imp_left (rs_ifT i_X7_serves_87 (ct_eq c4) (tg := 99) (by decide)) ?_
    exact q_X7_serves_99 hd hh HK45 SH hf
  · replace hf := (if_neg c4).symm.trans hf
    refine And.imp_left (rs_ifF i_X7_serves_87 (cf_eq c4)) ?_
    refine And.imp_left (rs_iload i_X7_serves_90 rfl) ?_
    refine And.imp_left (rs_iconst i_X7_serves_92 (v := 1) (by decide)) ?_
    refine And.imp_left (rs_iload i_X7_serves_93 rfl) ?_
    refine And.imp_left (rs_ishl i_X7_serves_95) ?_
    refine And.imp_left (rs_ior i_X7_serves_96) ?_
    refine And.imp_left (rs_istore i_X7_serves_97 (Nat.le_of_ble_eq_true rfl) (lv' := [some (.ref 16), some (.int v1), some (.int v2), some (.int v3), some (.int d4), some (.int (v5 ||| (1 <<< (v6 &&& 31)))), some (.int v6)]) rfl) ?_
    exact q_X7_serves_99 hd hh HK45 SH hf
noncomputable def g_X7_serves_45 (n : Nat) : Nat → Int32 → Int32 → Int32 → Int32 → Int32 → Hp → Option (Int32 × Hp)
  | 0, _, _, _, _, _, _ => none
  | m + 1, v1, v2, v3, v5, v6, h =>
    if 9 < v6 then
      some (v5, h)
    else
      if inb v3 3 = true then
      g_X7_serves_63 n (g_X7_serves_45 n m) v1 v2 v3 v5 v6 (hsi h 28 (ix v3) v6)
      else none
set_option maxRecDepth 100000 in
set_option maxHeartbeats 4000000 in
theorem q_X7_serves_45 {X : Nat → Int32} {d : Nat} (hd : 7 ≤ (d + 1)) {L hi : Nat} (hh : 96 ≤ hi) {n : Nat} : ∀ (m : Nat) (v1 : Int32) (v2 : Int32) (v3 : Int32) (v5 : Int32) (v6 : Int32) (d4 : Int32) (h : Hp) (o : (Int32 × Hp)), SHP L hi h → g_X7_serves_45 n m v1 v2 v3 v5 v6 h = some o → Run X (d + 1) 88 45 [some (.ref 16), some (.int v1), some (.int v2), some (.int v3), some (.int d4), some (.int v5), some (.int v6)] [] h (some (.int o.1), o.2) ∧ SHP L hi o.2 := by
  intro m
  induction m with
  | zero => intro v1 v2 v3 v5 v6 d4 h o SH hf; cases hf
  | succ m ih =>
    intro v1 v2 v3 v5 v6 d4 h o SH hf
    rw [g_X7_serves_45] at hf
    refine And.imp_left (rs_iload i_X7_serves_45 rfl) ?_
    refine And.imp_left (rs_bipush i_X7_serves_47 (v := 9) (by decide)) ?_
    by_cases c1 : 9 < v6
    · replace hf := (if_pos c1).symm.trans hf
      refine And.imp_left (rs_icT i_X7_serves_49 (ct_gt c1) (tg := 105) (by decide)) ?_
      refine And.imp_left (rs_iload i_X7_serves_105 rfl) ?_
      have hf := Option.some.inj hf
      subst hf
      exact ⟨rs_iret i_X7_serves_107 m_X7_serves rfl, SH⟩
    · replace hf := (if_neg c1).symm.trans hf
      refine And.imp_left (rs_icF i_X7_serves_49 (cf_gt c1)) ?_
      refine And.imp_left (rs_aload_n i_X7_serves_52 rfl) ?_
      refine And.imp_left (rs_getR i_X7_serves_53 (by decide) (by decide) (sO7 SH hh) (sR7_2 SH hh)) ?_
      refine And.imp_left (rs_getR i_X7_serves_56 (by decide) (by decide) (sO0 SH hh (by decide)) (sR0_2 SH hh (by decide))) ?_
      refine And.imp_left (rs_iload_n i_X7_serves_59 rfl) ?_
      refine And.imp_left (rs_iload i_X7_serves_60 rfl) ?_
      obtain ⟨c2, hf⟩ := ite_some hf
      refine And.imp_left (rs_iast i_X7_serves_62 (mkI (sA SH hh (k := 9) (n := 3) (by decide)) c2)) ?_
      have SH := shi SH 28 (ix v3) v6
      exact q_X7_serves_63 hd hh ih SH hf
noncomputable def g_X7_serves_0 (n : Nat) (v1 : Int32) (v2 : Int32) (v3 : Int32) (h : Hp) : Option (Int32 × Hp) :=
  (g_X7_refusalOfTest v1 v2 h).bind fun o1 =>
  if o1.1 = 0 then
    (g_X7_within v3 0 2 o1.2).bind fun o3 =>
    if o3.1 ≠ 0 then
      (g_X0_become 25 17 o3.2).bind fun o5 =>
      g_X7_serves_45 n n v1 v2 v3 0 0 o5
    else
      some ((-7), o3.2)
  else
    some (o1.1, o1.2)
set_option maxRecDepth 100000 in
set_option maxHeartbeats 4000000 in
theorem q_X7_serves_0 {X : Nat → Int32} {d : Nat} (hd : 7 ≤ (d + 1)) {L hi : Nat} (hh : 96 ≤ hi) {n : Nat} {v1 : Int32} {v2 : Int32} {v3 : Int32} {h : Hp} {o : (Int32 × Hp)}  (SH : SHP L hi h) (hf : g_X7_serves_0 n v1 v2 v3 h = some o) : Run X (d + 1) 88 0 [some (.ref 16), some (.int v1), some (.int v2), some (.int v3), none, none, none] [] h (some (.int o.1), o.2) ∧ SHP L hi o.2 := by
  unfold g_X7_serves_0 at hf
  refine And.imp_left (rs_aload_n i_X7_serves_0 rfl) ?_
  refine And.imp_left (rs_iload_n i_X7_serves_1 rfl) ?_
  refine And.imp_left (rs_iload_n i_X7_serves_2 rfl) ?_
  obtain ⟨o1, e1, hf⟩ := bind_some hf
  obtain ⟨u1, SH2⟩ := k_X7_refusalOfTest (X := X) (d := d) (by omega) (by omega) SH e1
  refine And.imp_left (rs_inV i_X7_serves_3 m_X7_refusalOfTest rfl (As := [.int v1, .int v2]) (rest := []) rfl rfl (Nat.le_of_ble_eq_true rfl) (sO7 SH hh) u1 (st' := [.int o1.1]) rfl) ?_
  clear SH; have SH := SH2; clear SH2
  refine And.imp_left (rs_istore i_X7_serves_6 (Nat.le_of_ble_eq_true rfl) (lv' := [some (.ref 16), some (.int v1), some (.int v2), some (.int v3), some (.int o1.1), none, none]) rfl) ?_
  refine And.imp_left (rs_iload i_X7_serves_8 rfl) ?_
  by_cases c2 : o1.1 = 0
  · replace hf := (if_pos c2).symm.trans hf
    refine And.imp_left (rs_ifT i_X7_serves_10 (ct_eq c2) (tg := 16) (by decide)) ?_
    refine And.imp_left (rs_iload_n i_X7_serves_16 rfl) ?_
    refine And.imp_left (rs_iconst i_X7_serves_17 (v := 0) (by decide)) ?_
    refine And.imp_left (rs_iconst i_X7_serves_18 (v := 2) (by decide)) ?_
    obtain ⟨o3, e3, hf⟩ := bind_some hf
    obtain ⟨u3, SH2⟩ := k_X7_within (X := X) (d := d) (by omega) (by omega) SH e3
    refine And.imp_left (rs_inS i_X7_serves_19 (by decide) m_X7_within rfl (As := [.int v3, .int 0, .int 2]) (rest := []) rfl rfl (Nat.le_of_ble_eq_true rfl) u3 (st' := [.int o3.1]) rfl) ?_
    clear SH; have SH := SH2; clear SH2
    by_cases c4 : o3.1 ≠ 0
    · replace hf := (if_pos c4).symm.trans hf
      refine And.imp_left (rs_ifT i_X7_serves_22 (ct_ne c4) (tg := 28) (by decide)) ?_
      refine And.imp_left (rs_aload_n i_X7_serves_28 rfl) ?_
      refine And.imp_left (rs_getR i_X7_serves_29 (by decide) (by decide) (sO7 SH hh) (sR7_2 SH hh)) ?_
      refine And.imp_left (rs_aload_n i_X7_serves_32 rfl) ?_
      refine And.imp_left (rs_getR i_X7_serves_33 (by decide) (by decide) (sO7 SH hh) (sR7_0 SH hh)) ?_
      obtain ⟨o5, e5, hf⟩ := bind_some hf
      obtain ⟨u5, SH2⟩ := k_X0_become (X := X) (d := d) (by omega) (by omega) (by decide) (by decide) SH e5
      refine And.imp_left (rs_inV i_X7_serves_36 m_X0_become rfl (As := [.ref 17]) (rest := []) rfl rfl (Nat.le_of_ble_eq_true rfl) (sO0 SH hh (by decide)) u5 (st' := []) rfl) ?_
      clear SH; have SH := SH2; clear SH2
      refine And.imp_left (rs_iconst i_X7_serves_39 (v := 0) (by decide)) ?_
      refine And.imp_left (rs_istore i_X7_serves_40 (Nat.le_of_ble_eq_true rfl) (lv' := [some (.ref 16), some (.int v1), some (.int v2), some (.int v3), some (.int o1.1), some (.int 0), none]) rfl) ?_
      refine And.imp_left (rs_iconst i_X7_serves_42 (v := 0) (by decide)) ?_
      refine And.imp_left (rs_istore i_X7_serves_43 (Nat.le_of_ble_eq_true rfl) (lv' := [some (.ref 16), some (.int v1), some (.int v2), some (.int v3), some (.int o1.1), some (.int 0), some (.int 0)]) rfl) ?_
      exact q_X7_serves_45 hd hh _ _ _ _ _ _ _ _ _ SH hf
    · replace hf := (if_neg c4).symm.trans hf
      refine And.imp_left (rs_ifF i_X7_serves_22 (cf_ne c4)) ?_
      refine And.imp_left (rs_bipush i_X7_serves_25 (v := (-7)) (by decide)) ?_
      have hf := Option.some.inj hf
      subst hf
      exact ⟨rs_iret i_X7_serves_27 m_X7_serves rfl, SH⟩
  · replace hf := (if_neg c2).symm.trans hf
    refine And.imp_left (rs_ifF i_X7_serves_10 (cf_eq c2)) ?_
    refine And.imp_left (rs_iload i_X7_serves_13 rfl) ?_
    have hf := Option.some.inj hf
    subst hf
    exact ⟨rs_iret i_X7_serves_15 m_X7_serves rfl, SH⟩
noncomputable def g_X7_serves (n : Nat) (v1 : Int32) (v2 : Int32) (v3 : Int32) (h : Hp) : Option (Int32 × Hp) := g_X7_serves_0 n v1 v2 v3 h
theorem k_X7_serves {X : Nat → Int32} {d : Nat} (hd : 7 ≤ d) {L hi : Nat} (hh : 96 ≤ hi) {n : Nat} {v1 : Int32} {v2 : Int32} {v3 : Int32} {h : Hp} {o : (Int32 × Hp)}  (SH : SHP L hi h) (hf : g_X7_serves n v1 v2 v3 h = some o) : Calls X d 88 [.ref 16, .int v1, .int v2, .int v3] h (some (.int o.1), o.2) ∧ SHP L hi o.2 := by
  obtain ⟨d, rfl⟩ : ∃ z, d = z + 1 := ⟨d - 1, by omega⟩
  obtain ⟨r, S2⟩ := q_X7_serves_0 hd hh SH hf
  exact ⟨⟨_, rfl, r⟩, S2⟩
noncomputable def g_X7_which_91 (n : Nat) (K30 : Int32 → Int32 → Int32 → Int32 → Hp → Option (Int32 × Hp)) (v1 : Int32) (v2 : Int32) (v4 : Int32) (v5 : Int32) (h : Hp) : Option (Int32 × Hp) :=
  K30 v1 v2 v4 (v5 + 1) h
set_option maxRecDepth 100000 in
set_option maxHeartbeats 4000000 in
theorem q_X7_which_91 {X : Nat → Int32} {d : Nat} (hd : 7 ≤ (d + 1)) {L hi : Nat} (hh : 96 ≤ hi) {n : Nat} {K30 : Int32 → Int32 → Int32 → Int32 → Hp → Option (Int32 × Hp)} (HK30 : ∀ (v1 : Int32) (v2 : Int32) (v4 : Int32) (v5 : Int32) (d3 : Int32) (h : Hp) (o : (Int32 × Hp)), SHP L hi h → K30 v1 v2 v4 v5 h = some o → Run X (d + 1) 89 30 [some (.ref 16), some (.int v1), some (.int v2), some (.int d3), some (.int v4), some (.int v5)] [] h (some (.int o.1), o.2) ∧ SHP L hi o.2) {v1 : Int32} {v2 : Int32} {v4 : Int32} {v5 : Int32} {d3 : Int32} {h : Hp} {o : (Int32 × Hp)}  (SH : SHP L hi h) (hf : g_X7_which_91 n K30 v1 v2 v4 v5 h = some o) : Run X (d + 1) 89 91 [some (.ref 16), some (.int v1), some (.int v2), some (.int d3), some (.int v4), some (.int v5)] [] h (some (.int o.1), o.2) ∧ SHP L hi o.2 := by
  unfold g_X7_which_91 at hf
  refine And.imp_left (rs_iinc i_X7_which_91 rfl (v := v5 + 1) rfl (Nat.le_of_ble_eq_true rfl) (lv' := [some (.ref 16), some (.int v1), some (.int v2), some (.int d3), some (.int v4), some (.int (v5 + 1))]) rfl) ?_
  refine And.imp_left (rs_goto i_X7_which_94 (tg := 30) (by decide)) ?_
  exact HK30 _ _ _ _ _ _ _ SH hf
noncomputable def g_X7_which_55 (n : Nat) (K30 : Int32 → Int32 → Int32 → Int32 → Hp → Option (Int32 × Hp)) (v1 : Int32) (v2 : Int32) (v4 : Int32) (v5 : Int32) (h : Hp) : Option (Int32 × Hp) :=
  (g_X7_make n 25 v1 (-1) (-1) h).bind fun o1 =>
  if inb v2 4 = true then
  (g_X3_isAsTold n 82 (72 + 2 * ix v2) o1).bind fun o3 =>
  if o3.1 = 0 then
    g_X7_which_91 n K30 v1 v2 v4 v5 o3.2
  else
    g_X7_which_91 n K30 v1 v2 (v4 ||| (1 <<< (v5 &&& 31))) v5 o3.2
  else none
set_option maxRecDepth 100000 in
set_option maxHeartbeats 4000000 in
theorem q_X7_which_55 {X : Nat → Int32} {d : Nat} (hd : 7 ≤ (d + 1)) {L hi : Nat} (hh : 96 ≤ hi) {n : Nat} {K30 : Int32 → Int32 → Int32 → Int32 → Hp → Option (Int32 × Hp)} (HK30 : ∀ (v1 : Int32) (v2 : Int32) (v4 : Int32) (v5 : Int32) (d3 : Int32) (h : Hp) (o : (Int32 × Hp)), SHP L hi h → K30 v1 v2 v4 v5 h = some o → Run X (d + 1) 89 30 [some (.ref 16), some (.int v1), some (.int v2), some (.int d3), some (.int v4), some (.int v5)] [] h (some (.int o.1), o.2) ∧ SHP L hi o.2) {v1 : Int32} {v2 : Int32} {v4 : Int32} {v5 : Int32} {d3 : Int32} {h : Hp} {o : (Int32 × Hp)}  (SH : SHP L hi h) (hf : g_X7_which_55 n K30 v1 v2 v4 v5 h = some o) : Run X (d + 1) 89 55 [some (.ref 16), some (.int v1), some (.int v2), some (.int d3), some (.int v4), some (.int v5)] [] h (some (.int o.1), o.2) ∧ SHP L hi o.2 := by
  unfold g_X7_which_55 at hf
  refine And.imp_left (rs_aload_n i_X7_which_55 rfl) ?_
  refine And.imp_left (rs_aload_n i_X7_which_56 rfl) ?_
  refine And.imp_left (rs_getR i_X7_which_57 (by decide) (by decide) (sO7 SH hh) (sR7_2 SH hh)) ?_
  refine And.imp_left (rs_iload_n i_X7_which_60 rfl) ?_
  refine And.imp_left (rs_iconst i_X7_which_61 (v := (-1)) (by decide)) ?_
  refine And.imp_left (rs_iconst i_X7_which_62 (v := (-1)) (by decide)) ?_
  obtain ⟨o1, e1, hf⟩ := bind_some hf
  obtain ⟨u1, SH2⟩ := k_X7_make (X := X) (d := d) (by omega) (by omega) (by decide) SH e1
  refine And.imp_left (rs_inV i_X7_which_63 m_X7_make rfl (As := [.ref 25, .int v1, .int (-1), .int (-1)]) (rest := []) rfl rfl (Nat.le_of_ble_eq_true rfl) (sO7 SH hh) u1 (st' := []) rfl) ?_
  clear SH; have SH := SH2; clear SH2
  refine And.imp_left (rs_aload_n i_X7_which_66 rfl) ?_
  refine And.imp_left (rs_getR i_X7_which_67 (by decide) (by decide) (sO7 SH hh) (sR7_7 SH hh)) ?_
  refine And.imp_left (rs_aload_n i_X7_which_70 rfl) ?_
  refine And.imp_left (rs_getR i_X7_which_71 (by decide) (by decide) (sO7 SH hh) (sR7_9 SH hh)) ?_
  refine And.imp_left (rs_iload_n i_X7_which_74 rfl) ?_
  obtain ⟨c2, hf⟩ := ite_some hf
  refine And.imp_left (rs_aald i_X7_which_75 (mkR (sA SH hh (k := 11) (n := 4) (by decide)) (by decide) c2) (sE33 SH hh c2)) ?_
  obtain ⟨o3, e3, hf⟩ := bind_some hf
  obtain ⟨u3, SH2⟩ := k_X3_isAsTold (X := X) (d := d) (by omega) (by omega) (by decide) (oE33 c2) SH e3
  refine And.imp_left (rs_inV i_X7_which_76 m_X3_isAsTold rfl (As := [.ref (72 + 2 * ix v2)]) (rest := []) rfl rfl (Nat.le_of_ble_eq_true rfl) (sO3 SH hh (by decide)) u3 (st' := [.int o3.1]) rfl) ?_
  clear SH; have SH := SH2; clear SH2
  by_cases c4 : o3.1 = 0
  · replace hf := (if_pos c4).symm.trans hf
    refine And.imp_left (rs_ifT i_X7_which_79 (ct_eq c4) (tg := 91) (by decide)) ?_
    exact q_X7_which_91 hd hh HK30 SH hf
  · replace hf := (if_neg c4).symm.trans hf
    refine And.imp_left (rs_ifF i_X7_which_79 (cf_eq c4)) ?_
    refine And.imp_left (rs_iload i_X7_which_82 rfl) ?_
    refine And.imp_left (rs_iconst i_X7_which_84 (v := 1) (by decide)) ?_
    refine And.imp_left (rs_iload i_X7_which_85 rfl) ?_
    refine And.imp_left (rs_ishl i_X7_which_87) ?_
    refine And.imp_left (rs_ior i_X7_which_88) ?_
    refine And.imp_left (rs_istore i_X7_which_89 (Nat.le_of_ble_eq_true rfl) (lv' := [some (.ref 16), some (.int v1), some (.int v2), some (.int d3), some (.int (v4 ||| (1 <<< (v5 &&& 31)))), some (.int v5)]) rfl) ?_
    exact q_X7_which_91 hd hh HK30 SH hf
noncomputable def g_X7_which_30 (n : Nat) : Nat → Int32 → Int32 → Int32 → Int32 → Hp → Option (Int32 × Hp)
  | 0, _, _, _, _, _ => none
  | m + 1, v1, v2, v4, v5, h =>
    if (gI h 16 13) ≤ v5 then
      some (v4, h)
    else
      if 6 ≤ v5 then
        some (v4, h)
      else
        g_X7_which_55 n (g_X7_which_30 n m) v1 v2 v4 v5 (hsi h 25 3 v5)
set_option maxRecDepth 100000 in
set_option maxHeartbeats 4000000 in
theorem q_X7_which_30 {X : Nat → Int32} {d : Nat} (hd : 7 ≤ (d + 1)) {L hi : Nat} (hh : 96 ≤ hi) {n : Nat} : ∀ (m : Nat) (v1 : Int32) (v2 : Int32) (v4 : Int32) (v5 : Int32) (d3 : Int32) (h : Hp) (o : (Int32 × Hp)), SHP L hi h → g_X7_which_30 n m v1 v2 v4 v5 h = some o → Run X (d + 1) 89 30 [some (.ref 16), some (.int v1), some (.int v2), some (.int d3), some (.int v4), some (.int v5)] [] h (some (.int o.1), o.2) ∧ SHP L hi o.2 := by
  intro m
  induction m with
  | zero => intro v1 v2 v4 v5 d3 h o SH hf; cases hf
  | succ m ih =>
    intro v1 v2 v4 v5 d3 h o SH hf
    rw [g_X7_which_30] at hf
    refine And.imp_left (rs_iload i_X7_which_30 rfl) ?_
    refine And.imp_left (rs_aload_n i_X7_which_32 rfl) ?_
    refine And.imp_left (rs_getI i_X7_which_33 (by decide) (by decide) (sO7 SH hh)) ?_
    by_cases c1 : (gI h 16 13) ≤ v5
    · replace hf := (if_pos c1).symm.trans hf
      refine And.imp_left (rs_icT i_X7_which_36 (ct_ge c1) (tg := 97) (by decide)) ?_
      refine And.imp_left (rs_iload i_X7_which_97 rfl) ?_
      have hf := Option.some.inj hf
      subst hf
      exact ⟨rs_iret i_X7_which_99 m_X7_which rfl, SH⟩
    · replace hf := (if_neg c1).symm.trans hf
      refine And.imp_left (rs_icF i_X7_which_36 (cf_ge c1)) ?_
      refine And.imp_left (rs_iload i_X7_which_39 rfl) ?_
      refine And.imp_left (rs_bipush i_X7_which_41 (v := 6) (by decide)) ?_
      by_cases c2 : 6 ≤ v5
      · replace hf := (if_pos c2).symm.trans hf
        refine And.imp_left (rs_icT i_X7_which_43 (ct_ge c2) (tg := 97) (by decide)) ?_
        refine And.imp_left (rs_iload i_X7_which_97 rfl) ?_
        have hf := Option.some.inj hf
        subst hf
        exact ⟨rs_iret i_X7_which_99 m_X7_which rfl, SH⟩
      · replace hf := (if_neg c2).symm.trans hf
        refine And.imp_left (rs_icF i_X7_which_43 (cf_ge c2)) ?_
        refine And.imp_left (rs_aload_n i_X7_which_46 rfl) ?_
        refine And.imp_left (rs_getR i_X7_which_47 (by decide) (by decide) (sO7 SH hh) (sR7_2 SH hh)) ?_
        refine And.imp_left (rs_iload i_X7_which_50 rfl) ?_
        refine And.imp_left (rs_putI i_X7_which_52 (by decide) (sO0 SH hh (by decide))) ?_
        have SH := shi SH 25 3 v5
        exact q_X7_which_55 hd hh ih SH hf
noncomputable def g_X7_which_0 (n : Nat) (v1 : Int32) (v2 : Int32) (h : Hp) : Option (Int32 × Hp) :=
  (g_X7_refusalOfTest v1 v2 h).bind fun o1 =>
  if o1.1 = 0 then
    (g_X0_become 25 17 o1.2).bind fun o3 =>
    g_X7_which_30 n n v1 v2 0 0 o3
  else
    some (o1.1, o1.2)
set_option maxRecDepth 100000 in
set_option maxHeartbeats 4000000 in
theorem q_X7_which_0 {X : Nat → Int32} {d : Nat} (hd : 7 ≤ (d + 1)) {L hi : Nat} (hh : 96 ≤ hi) {n : Nat} {v1 : Int32} {v2 : Int32} {h : Hp} {o : (Int32 × Hp)}  (SH : SHP L hi h) (hf : g_X7_which_0 n v1 v2 h = some o) : Run X (d + 1) 89 0 [some (.ref 16), some (.int v1), some (.int v2), none, none, none] [] h (some (.int o.1), o.2) ∧ SHP L hi o.2 := by
  unfold g_X7_which_0 at hf
  refine And.imp_left (rs_aload_n i_X7_which_0 rfl) ?_
  refine And.imp_left (rs_iload_n i_X7_which_1 rfl) ?_
  refine And.imp_left (rs_iload_n i_X7_which_2 rfl) ?_
  obtain ⟨o1, e1, hf⟩ := bind_some hf
  obtain ⟨u1, SH2⟩ := k_X7_refusalOfTest (X := X) (d := d) (by omega) (by omega) SH e1
  refine And.imp_left (rs_inV i_X7_which_3 m_X7_refusalOfTest rfl (As := [.int v1, .int v2]) (rest := []) rfl rfl (Nat.le_of_ble_eq_true rfl) (sO7 SH hh) u1 (st' := [.int o1.1]) rfl) ?_
  clear SH; have SH := SH2; clear SH2
  refine And.imp_left (rs_istore_n i_X7_which_6 (Nat.le_of_ble_eq_true rfl) (lv' := [some (.ref 16), some (.int v1), some (.int v2), some (.int o1.1), none, none]) rfl) ?_
  refine And.imp_left (rs_iload_n i_X7_which_7 rfl) ?_
  by_cases c2 : o1.1 = 0
  · replace hf := (if_pos c2).symm.trans hf
    refine And.imp_left (rs_ifT i_X7_which_8 (ct_eq c2) (tg := 13) (by decide)) ?_
    refine And.imp_left (rs_aload_n i_X7_which_13 rfl) ?_
    refine And.imp_left (rs_getR i_X7_which_14 (by decide) (by decide) (sO7 SH hh) (sR7_2 SH hh)) ?_
    refine And.imp_left (rs_aload_n i_X7_which_17 rfl) ?_
    refine And.imp_left (rs_getR i_X7_which_18 (by decide) (by decide) (sO7 SH hh) (sR7_0 SH hh)) ?_
    obtain ⟨o3, e3, hf⟩ := bind_some hf
    obtain ⟨u3, SH2⟩ := k_X0_become (X := X) (d := d) (by omega) (by omega) (by decide) (by decide) SH e3
    refine And.imp_left (rs_inV i_X7_which_21 m_X0_become rfl (As := [.ref 17]) (rest := []) rfl rfl (Nat.le_of_ble_eq_true rfl) (sO0 SH hh (by decide)) u3 (st' := []) rfl) ?_
    clear SH; have SH := SH2; clear SH2
    refine And.imp_left (rs_iconst i_X7_which_24 (v := 0) (by decide)) ?_
    refine And.imp_left (rs_istore i_X7_which_25 (Nat.le_of_ble_eq_true rfl) (lv' := [some (.ref 16), some (.int v1), some (.int v2), some (.int o1.1), some (.int 0), none]) rfl) ?_
    refine And.imp_left (rs_iconst i_X7_which_27 (v := 0) (by decide)) ?_
    refine And.imp_left (rs_istore i_X7_which_28 (Nat.le_of_ble_eq_true rfl) (lv' := [some (.ref 16), some (.int v1), some (.int v2), some (.int o1.1), some (.int 0), some (.int 0)]) rfl) ?_
    exact q_X7_which_30 hd hh _ _ _ _ _ _ _ _ SH hf
  · replace hf := (if_neg c2).symm.trans hf
    refine And.imp_left (rs_ifF i_X7_which_8 (cf_eq c2)) ?_
    refine And.imp_left (rs_iload_n i_X7_which_11 rfl) ?_
    have hf := Option.some.inj hf
    subst hf
    exact ⟨rs_iret i_X7_which_12 m_X7_which rfl, SH⟩
noncomputable def g_X7_which (n : Nat) (v1 : Int32) (v2 : Int32) (h : Hp) : Option (Int32 × Hp) := g_X7_which_0 n v1 v2 h
theorem k_X7_which {X : Nat → Int32} {d : Nat} (hd : 7 ≤ d) {L hi : Nat} (hh : 96 ≤ hi) {n : Nat} {v1 : Int32} {v2 : Int32} {h : Hp} {o : (Int32 × Hp)}  (SH : SHP L hi h) (hf : g_X7_which n v1 v2 h = some o) : Calls X d 89 [.ref 16, .int v1, .int v2] h (some (.int o.1), o.2) ∧ SHP L hi o.2 := by
  obtain ⟨d, rfl⟩ : ∃ z, d = z + 1 := ⟨d - 1, by omega⟩
  obtain ⟨r, S2⟩ := q_X7_which_0 hd hh SH hf
  exact ⟨⟨_, rfl, r⟩, S2⟩
noncomputable def g_X7_fault_16 (n : Nat) : Nat → Int32 → Int32 → Int32 → Hp → Option (Int32 × Hp)
  | 0, _, _, _, _ => none
  | m + 1, v1, v2, v4, h =>
    if v1 ≤ v4 then
      some ((-1), h)
    else
      (g_X7_make n 17 v1 v4 (-1) h).bind fun o2 =>
      if inb v2 4 = true then
      (g_X3_isAsTold n 82 (72 + 2 * ix v2) o2).bind fun o4 =>
      if o4.1 = 0 then
        (g_X7_fault_16 n m) v1 v2 (v4 + 1) o4.2
      else
        some (v4, o4.2)
      else none
set_option maxRecDepth 100000 in
set_option maxHeartbeats 4000000 in
theorem q_X7_fault_16 {X : Nat → Int32} {d : Nat} (hd : 7 ≤ (d + 1)) {L hi : Nat} (hh : 96 ≤ hi) {n : Nat} : ∀ (m : Nat) (v1 : Int32) (v2 : Int32) (v4 : Int32) (d3 : Int32) (h : Hp) (o : (Int32 × Hp)), SHP L hi h → g_X7_fault_16 n m v1 v2 v4 h = some o → Run X (d + 1) 90 16 [some (.ref 16), some (.int v1), some (.int v2), some (.int d3), some (.int v4)] [] h (some (.int o.1), o.2) ∧ SHP L hi o.2 := by
  intro m
  induction m with
  | zero => intro v1 v2 v4 d3 h o SH hf; cases hf
  | succ m ih =>
    intro v1 v2 v4 d3 h o SH hf
    rw [g_X7_fault_16] at hf
    refine And.imp_left (rs_iload i_X7_fault_16 rfl) ?_
    refine And.imp_left (rs_iload_n i_X7_fault_18 rfl) ?_
    by_cases c1 : v1 ≤ v4
    · replace hf := (if_pos c1).symm.trans hf
      refine And.imp_left (rs_icT i_X7_fault_19 (ct_ge c1) (tg := 59) (by decide)) ?_
      refine And.imp_left (rs_iconst i_X7_fault_59 (v := (-1)) (by decide)) ?_
      have hf := Option.some.inj hf
      subst hf
      exact ⟨rs_iret i_X7_fault_60 m_X7_fault rfl, SH⟩
    · replace hf := (if_neg c1).symm.trans hf
      refine And.imp_left (rs_icF i_X7_fault_19 (cf_ge c1)) ?_
      refine And.imp_left (rs_aload_n i_X7_fault_22 rfl) ?_
      refine And.imp_left (rs_aload_n i_X7_fault_23 rfl) ?_
      refine And.imp_left (rs_getR i_X7_fault_24 (by decide) (by decide) (sO7 SH hh) (sR7_0 SH hh)) ?_
      refine And.imp_left (rs_iload_n i_X7_fault_27 rfl) ?_
      refine And.imp_left (rs_iload i_X7_fault_28 rfl) ?_
      refine And.imp_left (rs_iconst i_X7_fault_30 (v := (-1)) (by decide)) ?_
      obtain ⟨o2, e2, hf⟩ := bind_some hf
      obtain ⟨u2, SH2⟩ := k_X7_make (X := X) (d := d) (by omega) (by omega) (by decide) SH e2
      refine And.imp_left (rs_inV i_X7_fault_31 m_X7_make rfl (As := [.ref 17, .int v1, .int v4, .int (-1)]) (rest := []) rfl rfl (Nat.le_of_ble_eq_true rfl) (sO7 SH hh) u2 (st' := []) rfl) ?_
      clear SH; have SH := SH2; clear SH2
      refine And.imp_left (rs_aload_n i_X7_fault_34 rfl) ?_
      refine And.imp_left (rs_getR i_X7_fault_35 (by decide) (by decide) (sO7 SH hh) (sR7_7 SH hh)) ?_
      refine And.imp_left (rs_aload_n i_X7_fault_38 rfl) ?_
      refine And.imp_left (rs_getR i_X7_fault_39 (by decide) (by decide) (sO7 SH hh) (sR7_9 SH hh)) ?_
      refine And.imp_left (rs_iload_n i_X7_fault_42 rfl) ?_
      obtain ⟨c3, hf⟩ := ite_some hf
      refine And.imp_left (rs_aald i_X7_fault_43 (mkR (sA SH hh (k := 11) (n := 4) (by decide)) (by decide) c3) (sE33 SH hh c3)) ?_
      obtain ⟨o4, e4, hf⟩ := bind_some hf
      obtain ⟨u4, SH2⟩ := k_X3_isAsTold (X := X) (d := d) (by omega) (by omega) (by decide) (oE33 c3) SH e4
      refine And.imp_left (rs_inV i_X7_fault_44 m_X3_isAsTold rfl (As := [.ref (72 + 2 * ix v2)]) (rest := []) rfl rfl (Nat.le_of_ble_eq_true rfl) (sO3 SH hh (by decide)) u4 (st' := [.int o4.1]) rfl) ?_
      clear SH; have SH := SH2; clear SH2
      by_cases c5 : o4.1 = 0
      · replace hf := (if_pos c5).symm.trans hf
        refine And.imp_left (rs_ifT i_X7_fault_47 (ct_eq c5) (tg := 53) (by decide)) ?_
        refine And.imp_left (rs_iinc i_X7_fault_53 rfl (v := v4 + 1) rfl (Nat.le_of_ble_eq_true rfl) (lv' := [some (.ref 16), some (.int v1), some (.int v2), some (.int d3), some (.int (v4 + 1))]) rfl) ?_
        refine And.imp_left (rs_goto i_X7_fault_56 (tg := 16) (by decide)) ?_
        exact ih _ _ _ _ _ _ SH hf
      · replace hf := (if_neg c5).symm.trans hf
        refine And.imp_left (rs_ifF i_X7_fault_47 (cf_eq c5)) ?_
        refine And.imp_left (rs_iload i_X7_fault_50 rfl) ?_
        have hf := Option.some.inj hf
        subst hf
        exact ⟨rs_iret i_X7_fault_52 m_X7_fault rfl, SH⟩
noncomputable def g_X7_fault_0 (n : Nat) (v1 : Int32) (v2 : Int32) (h : Hp) : Option (Int32 × Hp) :=
  (g_X7_refusalOfTest v1 v2 h).bind fun o1 =>
  if o1.1 = 0 then
    g_X7_fault_16 n n v1 v2 0 o1.2
  else
    some (o1.1, o1.2)
set_option maxRecDepth 100000 in
set_option maxHeartbeats 4000000 in
theorem q_X7_fault_0 {X : Nat → Int32} {d : Nat} (hd : 7 ≤ (d + 1)) {L hi : Nat} (hh : 96 ≤ hi) {n : Nat} {v1 : Int32} {v2 : Int32} {h : Hp} {o : (Int32 × Hp)}  (SH : SHP L hi h) (hf : g_X7_fault_0 n v1 v2 h = some o) : Run X (d + 1) 90 0 [some (.ref 16), some (.int v1), some (.int v2), none, none] [] h (some (.int o.1), o.2) ∧ SHP L hi o.2 := by
  unfold g_X7_fault_0 at hf
  refine And.imp_left (rs_aload_n i_X7_fault_0 rfl) ?_
  refine And.imp_left (rs_iload_n i_X7_fault_1 rfl) ?_
  refine And.imp_left (rs_iload_n i_X7_fault_2 rfl) ?_
  obtain ⟨o1, e1, hf⟩ := bind_some hf
  obtain ⟨u1, SH2⟩ := k_X7_refusalOfTest (X := X) (d := d) (by omega) (by omega) SH e1
  refine And.imp_left (rs_inV i_X7_fault_3 m_X7_refusalOfTest rfl (As := [.int v1, .int v2]) (rest := []) rfl rfl (Nat.le_of_ble_eq_true rfl) (sO7 SH hh) u1 (st' := [.int o1.1]) rfl) ?_
  clear SH; have SH := SH2; clear SH2
  refine And.imp_left (rs_istore_n i_X7_fault_6 (Nat.le_of_ble_eq_true rfl) (lv' := [some (.ref 16), some (.int v1), some (.int v2), some (.int o1.1), none]) rfl) ?_
  refine And.imp_left (rs_iload_n i_X7_fault_7 rfl) ?_
  by_cases c2 : o1.1 = 0
  · replace hf := (if_pos c2).symm.trans hf
    refine And.imp_left (rs_ifT i_X7_fault_8 (ct_eq c2) (tg := 13) (by decide)) ?_
    refine And.imp_left (rs_iconst i_X7_fault_13 (v := 0) (by decide)) ?_
    refine And.imp_left (rs_istore i_X7_fault_14 (Nat.le_of_ble_eq_true rfl) (lv' := [some (.ref 16), some (.int v1), some (.int v2), some (.int o1.1), some (.int 0)]) rfl) ?_
    exact q_X7_fault_16 hd hh _ _ _ _ _ _ _ SH hf
  · replace hf := (if_neg c2).symm.trans hf
    refine And.imp_left (rs_ifF i_X7_fault_8 (cf_eq c2)) ?_
    refine And.imp_left (rs_iload_n i_X7_fault_11 rfl) ?_
    have hf := Option.some.inj hf
    subst hf
    exact ⟨rs_iret i_X7_fault_12 m_X7_fault rfl, SH⟩
noncomputable def g_X7_fault (n : Nat) (v1 : Int32) (v2 : Int32) (h : Hp) : Option (Int32 × Hp) := g_X7_fault_0 n v1 v2 h
theorem k_X7_fault {X : Nat → Int32} {d : Nat} (hd : 7 ≤ d) {L hi : Nat} (hh : 96 ≤ hi) {n : Nat} {v1 : Int32} {v2 : Int32} {h : Hp} {o : (Int32 × Hp)}  (SH : SHP L hi h) (hf : g_X7_fault n v1 v2 h = some o) : Calls X d 90 [.ref 16, .int v1, .int v2] h (some (.int o.1), o.2) ∧ SHP L hi o.2 := by
  obtain ⟨d, rfl⟩ : ∃ z, d = z + 1 := ⟨d - 1, by omega⟩
  obtain ⟨r, S2⟩ := q_X7_fault_0 hd hh SH hf
  exact ⟨⟨_, rfl, r⟩, S2⟩
noncomputable def g_X7_uneven_135 (n : Nat) (K51 : Int32 → Int32 → Int32 → Int32 → Int32 → Int32 → Hp → Option (Int32 × Hp)) (v1 : Int32) (v2 : Int32) (v3 : Int32) (v4 : Int32) (v5 : Int32) (v6 : Int32) (h : Hp) : Option (Int32 × Hp) :=
  K51 v1 v2 v3 v4 v5 (v6 + 1) h
set_option maxRecDepth 100000 in
set_option maxHeartbeats 4000000 in
theorem q_X7_uneven_135 {X : Nat → Int32} {d : Nat} (hd : 7 ≤ (d + 1)) {L hi : Nat} (hh : 96 ≤ hi) {n : Nat} {K51 : Int32 → Int32 → Int32 → Int32 → Int32 → Int32 → Hp → Option (Int32 × Hp)} (HK51 : ∀ (v1 : Int32) (v2 : Int32) (v3 : Int32) (v4 : Int32) (v5 : Int32) (v6 : Int32) (w7 : Option Value) (h : Hp) (o : (Int32 × Hp)), SHP L hi h → K51 v1 v2 v3 v4 v5 v6 h = some o → Run X (d + 1) 91 51 [some (.ref 16), some (.int v1), some (.int v2), some (.int v3), some (.int v4), some (.int v5), some (.int v6), w7] [] h (some (.int o.1), o.2) ∧ SHP L hi o.2) {v1 : Int32} {v2 : Int32} {v3 : Int32} {v4 : Int32} {v5 : Int32} {v6 : Int32} {d7 : Int32} {h : Hp} {o : (Int32 × Hp)}  (SH : SHP L hi h) (hf : g_X7_uneven_135 n K51 v1 v2 v3 v4 v5 v6 h = some o) : Run X (d + 1) 91 135 [some (.ref 16), some (.int v1), some (.int v2), some (.int v3), some (.int v4), some (.int v5), some (.int v6), some (.int d7)] [] h (some (.int o.1), o.2) ∧ SHP L hi o.2 := by
  unfold g_X7_uneven_135 at hf
  refine And.imp_left (rs_iinc i_X7_uneven_135 rfl (v := v6 + 1) rfl (Nat.le_of_ble_eq_true rfl) (lv' := [some (.ref 16), some (.int v1), some (.int v2), some (.int v3), some (.int v4), some (.int v5), some (.int (v6 + 1)), some (.int d7)]) rfl) ?_
  refine And.imp_left (rs_goto i_X7_uneven_138 (tg := 51) (by decide)) ?_
  exact HK51 _ _ _ _ _ _ _ _ _ SH hf
noncomputable def g_X7_uneven_120 (n : Nat) (K51 : Int32 → Int32 → Int32 → Int32 → Int32 → Int32 → Hp → Option (Int32 × Hp)) (v1 : Int32) (v2 : Int32) (v3 : Int32) (v4 : Int32) (v5 : Int32) (v6 : Int32) (v7 : Int32) (h : Hp) : Option (Int32 × Hp) :=
  if v7 ≤ v5 then
    g_X7_uneven_135 n K51 v1 v2 v3 v4 v5 v6 h
  else
    g_X7_uneven_135 n K51 v1 v2 v3 v6 v7 v6 h
set_option maxRecDepth 100000 in
set_option maxHeartbeats 4000000 in
theorem q_X7_uneven_120 {X : Nat → Int32} {d : Nat} (hd : 7 ≤ (d + 1)) {L hi : Nat} (hh : 96 ≤ hi) {n : Nat} {K51 : Int32 → Int32 → Int32 → Int32 → Int32 → Int32 → Hp → Option (Int32 × Hp)} (HK51 : ∀ (v1 : Int32) (v2 : Int32) (v3 : Int32) (v4 : Int32) (v5 : Int32) (v6 : Int32) (w7 : Option Value) (h : Hp) (o : (Int32 × Hp)), SHP L hi h → K51 v1 v2 v3 v4 v5 v6 h = some o → Run X (d + 1) 91 51 [some (.ref 16), some (.int v1), some (.int v2), some (.int v3), some (.int v4), some (.int v5), some (.int v6), w7] [] h (some (.int o.1), o.2) ∧ SHP L hi o.2) {v1 : Int32} {v2 : Int32} {v3 : Int32} {v4 : Int32} {v5 : Int32} {v6 : Int32} {v7 : Int32} {h : Hp} {o : (Int32 × Hp)}  (SH : SHP L hi h) (hf : g_X7_uneven_120 n K51 v1 v2 v3 v4 v5 v6 v7 h = some o) : Run X (d + 1) 91 120 [some (.ref 16), some (.int v1), some (.int v2), some (.int v3), some (.int v4), some (.int v5), some (.int v6), some (.int v7)] [] h (some (.int o.1), o.2) ∧ SHP L hi o.2 := by
  unfold g_X7_uneven_120 at hf
  refine And.imp_left (rs_iload i_X7_uneven_120 rfl) ?_
  refine And.imp_left (rs_iload i_X7_uneven_122 rfl) ?_
  by_cases c1 : v7 ≤ v5
  · replace hf := (if_pos c1).symm.trans hf
    refine And.imp_left (rs_icT i_X7_uneven_124 (ct_le c1) (tg := 135) (by decide)) ?_
    exact q_X7_uneven_135 hd hh HK51 SH hf
  · replace hf := (if_neg c1).symm.trans hf
    refine And.imp_left (rs_icF i_X7_uneven_124 (cf_le c1)) ?_
    refine And.imp_left (rs_iload i_X7_uneven_127 rfl) ?_
    refine And.imp_left (rs_istore i_X7_uneven_129 (Nat.le_of_ble_eq_true rfl) (lv' := [some (.ref 16), some (.int v1), some (.int v2), some (.int v3), some (.int v4), some (.int v7), some (.int v6), some (.int v7)]) rfl) ?_
    refine And.imp_left (rs_iload i_X7_uneven_131 rfl) ?_
    refine And.imp_left (rs_istore i_X7_uneven_133 (Nat.le_of_ble_eq_true rfl) (lv' := [some (.ref 16), some (.int v1), some (.int v2), some (.int v3), some (.int v6), some (.int v7), some (.int v6), some (.int v7)]) rfl) ?_
    exact q_X7_uneven_135 hd hh HK51 SH hf
noncomputable def g_X7_uneven_95 (n : Nat) (K51 : Int32 → Int32 → Int32 → Int32 → Int32 → Int32 → Hp → Option (Int32 × Hp)) (v1 : Int32) (v2 : Int32) (v3 : Int32) (v4 : Int32) (v5 : Int32) (v6 : Int32) (h : Hp) : Option (Int32 × Hp) :=
  (g_X7_make n 25 v1 (-1) (-1) h).bind fun o1 =>
  (g_X3_spread n 82 o1).bind fun o2 =>
  g_X7_uneven_120 n K51 v1 v2 v3 v4 v5 v6 (if 0 ≤ (o2.1 - v3) then (o2.1 - v3) else 0 - (o2.1 - v3)) o2.2
set_option maxRecDepth 100000 in
set_option maxHeartbeats 4000000 in
theorem q_X7_uneven_95 {X : Nat → Int32} {d : Nat} (hd : 7 ≤ (d + 1)) {L hi : Nat} (hh : 96 ≤ hi) {n : Nat} {K51 : Int32 → Int32 → Int32 → Int32 → Int32 → Int32 → Hp → Option (Int32 × Hp)} (HK51 : ∀ (v1 : Int32) (v2 : Int32) (v3 : Int32) (v4 : Int32) (v5 : Int32) (v6 : Int32) (w7 : Option Value) (h : Hp) (o : (Int32 × Hp)), SHP L hi h → K51 v1 v2 v3 v4 v5 v6 h = some o → Run X (d + 1) 91 51 [some (.ref 16), some (.int v1), some (.int v2), some (.int v3), some (.int v4), some (.int v5), some (.int v6), w7] [] h (some (.int o.1), o.2) ∧ SHP L hi o.2) {v1 : Int32} {v2 : Int32} {v3 : Int32} {v4 : Int32} {v5 : Int32} {v6 : Int32} {w7 : Option Value} {h : Hp} {o : (Int32 × Hp)}  (SH : SHP L hi h) (hf : g_X7_uneven_95 n K51 v1 v2 v3 v4 v5 v6 h = some o) : Run X (d + 1) 91 95 [some (.ref 16), some (.int v1), some (.int v2), some (.int v3), some (.int v4), some (.int v5), some (.int v6), w7] [] h (some (.int o.1), o.2) ∧ SHP L hi o.2 := by
  unfold g_X7_uneven_95 at hf
  refine And.imp_left (rs_aload_n i_X7_uneven_95 rfl) ?_
  refine And.imp_left (rs_aload_n i_X7_uneven_96 rfl) ?_
  refine And.imp_left (rs_getR i_X7_uneven_97 (by decide) (by decide) (sO7 SH hh) (sR7_2 SH hh)) ?_
  refine And.imp_left (rs_iload_n i_X7_uneven_100 rfl) ?_
  refine And.imp_left (rs_iconst i_X7_uneven_101 (v := (-1)) (by decide)) ?_
  refine And.imp_left (rs_iconst i_X7_uneven_102 (v := (-1)) (by decide)) ?_
  obtain ⟨o1, e1, hf⟩ := bind_some hf
  obtain ⟨u1, SH2⟩ := k_X7_make (X := X) (d := d) (by omega) (by omega) (by decide) SH e1
  refine And.imp_left (rs_inV i_X7_uneven_103 m_X7_make rfl (As := [.ref 25, .int v1, .int (-1), .int (-1)]) (rest := []) rfl rfl (Nat.le_of_ble_eq_true rfl) (sO7 SH hh) u1 (st' := []) rfl) ?_
  clear SH; have SH := SH2; clear SH2
  refine And.imp_left (rs_aload_n i_X7_uneven_106 rfl) ?_
  refine And.imp_left (rs_getR i_X7_uneven_107 (by decide) (by decide) (sO7 SH hh) (sR7_7 SH hh)) ?_
  obtain ⟨o2, e2, hf⟩ := bind_some hf
  obtain ⟨u2, SH2⟩ := k_X3_spread (X := X) (d := d) (by omega) (by omega) (by decide) SH e2
  refine And.imp_left (rs_inV i_X7_uneven_110 m_X3_spread rfl (As := []) (rest := []) rfl rfl (Nat.le_of_ble_eq_true rfl) (sO3 SH hh (by decide)) u2 (st' := [.int o2.1]) rfl) ?_
  clear SH; have SH := SH2; clear SH2
  refine And.imp_left (rs_iload_n i_X7_uneven_113 rfl) ?_
  refine And.imp_left (rs_isub i_X7_uneven_114) ?_
  refine And.imp_left (rs_abs i_X7_uneven_115 (Nat.le_of_ble_eq_true rfl)) ?_
  refine And.imp_left (rs_istore i_X7_uneven_118 (Nat.le_of_ble_eq_true rfl) (lv' := [some (.ref 16), some (.int v1), some (.int v2), some (.int v3), some (.int v4), some (.int v5), some (.int v6), some (.int (if 0 ≤ (o2.1 - v3) then (o2.1 - v3) else 0 - (o2.1 - v3)))]) rfl) ?_
  exact q_X7_uneven_120 hd hh HK51 SH hf
noncomputable def g_X7_uneven_51 (n : Nat) : Nat → Int32 → Int32 → Int32 → Int32 → Int32 → Int32 → Hp → Option (Int32 × Hp)
  | 0, _, _, _, _, _, _, _ => none
  | m + 1, v1, v2, v3, v4, v5, v6, h =>
    if 12 ≤ v6 then
      if v2 ≠ 0 then
        some (v5, h)
      else
        some (v4, h)
    else
      (g_X0_become 25 17 h).bind fun o3 =>
      if inb v6 12 = true then
      g_X7_uneven_95 n (g_X7_uneven_51 n m) v1 v2 v3 v4 v5 v6 (hsi o3 26 (ix v6) ((gI o3 26 (ix v6)) + ((gI o3 18 (ix v6)) / 10)))
      else none
set_option maxRecDepth 100000 in
set_option maxHeartbeats 4000000 in
theorem q_X7_uneven_51 {X : Nat → Int32} {d : Nat} (hd : 7 ≤ (d + 1)) {L hi : Nat} (hh : 96 ≤ hi) {n : Nat} : ∀ (m : Nat) (v1 : Int32) (v2 : Int32) (v3 : Int32) (v4 : Int32) (v5 : Int32) (v6 : Int32) (w7 : Option Value) (h : Hp) (o : (Int32 × Hp)), SHP L hi h → g_X7_uneven_51 n m v1 v2 v3 v4 v5 v6 h = some o → Run X (d + 1) 91 51 [some (.ref 16), some (.int v1), some (.int v2), some (.int v3), some (.int v4), some (.int v5), some (.int v6), w7] [] h (some (.int o.1), o.2) ∧ SHP L hi o.2 := by
  intro m
  induction m with
  | zero => intro v1 v2 v3 v4 v5 v6 w7 h o SH hf; cases hf
  | succ m ih =>
    intro v1 v2 v3 v4 v5 v6 w7 h o SH hf
    rw [g_X7_uneven_51] at hf
    refine And.imp_left (rs_iload i_X7_uneven_51 rfl) ?_
    refine And.imp_left (rs_bipush i_X7_uneven_53 (v := 12) (by decide)) ?_
    by_cases c1 : 12 ≤ v6
    · replace hf := (if_pos c1).symm.trans hf
      refine And.imp_left (rs_icT i_X7_uneven_55 (ct_ge c1) (tg := 141) (by decide)) ?_
      refine And.imp_left (rs_iload_n i_X7_uneven_141 rfl) ?_
      by_cases c2 : v2 ≠ 0
      · replace hf := (if_pos c2).symm.trans hf
        refine And.imp_left (rs_ifT i_X7_uneven_142 (ct_ne c2) (tg := 150) (by decide)) ?_
        refine And.imp_left (rs_iload i_X7_uneven_150 rfl) ?_
        have hf := Option.some.inj hf
        subst hf
        exact ⟨rs_iret i_X7_uneven_152 m_X7_uneven rfl, SH⟩
      · replace hf := (if_neg c2).symm.trans hf
        refine And.imp_left (rs_ifF i_X7_uneven_142 (cf_ne c2)) ?_
        refine And.imp_left (rs_iload i_X7_uneven_145 rfl) ?_
        refine And.imp_left (rs_goto i_X7_uneven_147 (tg := 152) (by decide)) ?_
        have hf := Option.some.inj hf
        subst hf
        exact ⟨rs_iret i_X7_uneven_152 m_X7_uneven rfl, SH⟩
    · replace hf := (if_neg c1).symm.trans hf
      refine And.imp_left (rs_icF i_X7_uneven_55 (cf_ge c1)) ?_
      refine And.imp_left (rs_aload_n i_X7_uneven_58 rfl) ?_
      refine And.imp_left (rs_getR i_X7_uneven_59 (by decide) (by decide) (sO7 SH hh) (sR7_2 SH hh)) ?_
      refine And.imp_left (rs_aload_n i_X7_uneven_62 rfl) ?_
      refine And.imp_left (rs_getR i_X7_uneven_63 (by decide) (by decide) (sO7 SH hh) (sR7_0 SH hh)) ?_
      obtain ⟨o3, e3, hf⟩ := bind_some hf
      obtain ⟨u3, SH2⟩ := k_X0_become (X := X) (d := d) (by omega) (by omega) (by decide) (by decide) SH e3
      refine And.imp_left (rs_inV i_X7_uneven_66 m_X0_become rfl (As := [.ref 17]) (rest := []) rfl rfl (Nat.le_of_ble_eq_true rfl) (sO0 SH hh (by decide)) u3 (st' := []) rfl) ?_
      clear SH; have SH := SH2; clear SH2
      refine And.imp_left (rs_aload_n i_X7_uneven_69 rfl) ?_
      refine And.imp_left (rs_getR i_X7_uneven_70 (by decide) (by decide) (sO7 SH hh) (sR7_2 SH hh)) ?_
      refine And.imp_left (rs_getR i_X7_uneven_73 (by decide) (by decide) (sO0 SH hh (by decide)) (sR0_0 SH hh (by decide))) ?_
      refine And.imp_left (rs_iload i_X7_uneven_76 rfl) ?_
      refine And.imp_left (rs_dup2 i_X7_uneven_78 ⟨rfl, rfl⟩) ?_
      obtain ⟨c4, hf⟩ := ite_some hf
      refine And.imp_left (rs_iald i_X7_uneven_79 (mkI (sA SH hh (k := 9) (n := 12) (by decide)) c4)) ?_
      refine And.imp_left (rs_aload_n i_X7_uneven_80 rfl) ?_
      refine And.imp_left (rs_getR i_X7_uneven_81 (by decide) (by decide) (sO7 SH hh) (sR7_0 SH hh)) ?_
      refine And.imp_left (rs_getR i_X7_uneven_84 (by decide) (by decide) (sO0 SH hh (by decide)) (sR0_0 SH hh (by decide))) ?_
      refine And.imp_left (rs_iload i_X7_uneven_87 rfl) ?_
      refine And.imp_left (rs_iald i_X7_uneven_89 (mkI (sA SH hh (k := 9) (n := 12) (by decide)) c4)) ?_
      refine And.imp_left (rs_bipush i_X7_uneven_90 (v := 10) (by decide)) ?_
      refine And.imp_left (rs_idiv i_X7_uneven_92 (by decide)) ?_
      refine And.imp_left (rs_iadd i_X7_uneven_93) ?_
      refine And.imp_left (rs_iast i_X7_uneven_94 (mkI (sA SH hh (k := 9) (n := 12) (by decide)) c4)) ?_
      have SH := shi SH 26 (ix v6) ((gI o3 26 (ix v6)) + ((gI o3 18 (ix v6)) / 10))
      exact q_X7_uneven_95 hd hh ih SH hf
noncomputable def g_X7_uneven_0 (n : Nat) (v1 : Int32) (v2 : Int32) (h : Hp) : Option (Int32 × Hp) :=
  (g_X7_areSteps v1 h).bind fun o1 =>
  if o1.1 ≠ 0 then
    (g_X7_within v2 0 1 o1.2).bind fun o3 =>
    if o3.1 ≠ 0 then
      (g_X7_make n 17 v1 (-1) (-1) o3.2).bind fun o5 =>
      (g_X3_spread n 82 o5).bind fun o6 =>
      g_X7_uneven_51 n n v1 v2 o6.1 0 0 0 o6.2
    else
      some ((-7), o3.2)
  else
    some ((-5), o1.2)
set_option maxRecDepth 100000 in
set_option maxHeartbeats 4000000 in
theorem q_X7_uneven_0 {X : Nat → Int32} {d : Nat} (hd : 7 ≤ (d + 1)) {L hi : Nat} (hh : 96 ≤ hi) {n : Nat} {v1 : Int32} {v2 : Int32} {h : Hp} {o : (Int32 × Hp)}  (SH : SHP L hi h) (hf : g_X7_uneven_0 n v1 v2 h = some o) : Run X (d + 1) 91 0 [some (.ref 16), some (.int v1), some (.int v2), none, none, none, none, none] [] h (some (.int o.1), o.2) ∧ SHP L hi o.2 := by
  unfold g_X7_uneven_0 at hf
  refine And.imp_left (rs_aload_n i_X7_uneven_0 rfl) ?_
  refine And.imp_left (rs_iload_n i_X7_uneven_1 rfl) ?_
  obtain ⟨o1, e1, hf⟩ := bind_some hf
  obtain ⟨u1, SH2⟩ := k_X7_areSteps (X := X) (d := d) (by omega) (by omega) SH e1
  refine And.imp_left (rs_inV i_X7_uneven_2 m_X7_areSteps rfl (As := [.int v1]) (rest := []) rfl rfl (Nat.le_of_ble_eq_true rfl) (sO7 SH hh) u1 (st' := [.int o1.1]) rfl) ?_
  clear SH; have SH := SH2; clear SH2
  by_cases c2 : o1.1 ≠ 0
  · replace hf := (if_pos c2).symm.trans hf
    refine And.imp_left (rs_ifT i_X7_uneven_5 (ct_ne c2) (tg := 11) (by decide)) ?_
    refine And.imp_left (rs_iload_n i_X7_uneven_11 rfl) ?_
    refine And.imp_left (rs_iconst i_X7_uneven_12 (v := 0) (by decide)) ?_
    refine And.imp_left (rs_iconst i_X7_uneven_13 (v := 1) (by decide)) ?_
    obtain ⟨o3, e3, hf⟩ := bind_some hf
    obtain ⟨u3, SH2⟩ := k_X7_within (X := X) (d := d) (by omega) (by omega) SH e3
    refine And.imp_left (rs_inS i_X7_uneven_14 (by decide) m_X7_within rfl (As := [.int v2, .int 0, .int 1]) (rest := []) rfl rfl (Nat.le_of_ble_eq_true rfl) u3 (st' := [.int o3.1]) rfl) ?_
    clear SH; have SH := SH2; clear SH2
    by_cases c4 : o3.1 ≠ 0
    · replace hf := (if_pos c4).symm.trans hf
      refine And.imp_left (rs_ifT i_X7_uneven_17 (ct_ne c4) (tg := 23) (by decide)) ?_
      refine And.imp_left (rs_aload_n i_X7_uneven_23 rfl) ?_
      refine And.imp_left (rs_aload_n i_X7_uneven_24 rfl) ?_
      refine And.imp_left (rs_getR i_X7_uneven_25 (by decide) (by decide) (sO7 SH hh) (sR7_0 SH hh)) ?_
      refine And.imp_left (rs_iload_n i_X7_uneven_28 rfl) ?_
      refine And.imp_left (rs_iconst i_X7_uneven_29 (v := (-1)) (by decide)) ?_
      refine And.imp_left (rs_iconst i_X7_uneven_30 (v := (-1)) (by decide)) ?_
      obtain ⟨o5, e5, hf⟩ := bind_some hf
      obtain ⟨u5, SH2⟩ := k_X7_make (X := X) (d := d) (by omega) (by omega) (by decide) SH e5
      refine And.imp_left (rs_inV i_X7_uneven_31 m_X7_make rfl (As := [.ref 17, .int v1, .int (-1), .int (-1)]) (rest := []) rfl rfl (Nat.le_of_ble_eq_true rfl) (sO7 SH hh) u5 (st' := []) rfl) ?_
      clear SH; have SH := SH2; clear SH2
      refine And.imp_left (rs_aload_n i_X7_uneven_34 rfl) ?_
      refine And.imp_left (rs_getR i_X7_uneven_35 (by decide) (by decide) (sO7 SH hh) (sR7_7 SH hh)) ?_
      obtain ⟨o6, e6, hf⟩ := bind_some hf
      obtain ⟨u6, SH2⟩ := k_X3_spread (X := X) (d := d) (by omega) (by omega) (by decide) SH e6
      refine And.imp_left (rs_inV i_X7_uneven_38 m_X3_spread rfl (As := []) (rest := []) rfl rfl (Nat.le_of_ble_eq_true rfl) (sO3 SH hh (by decide)) u6 (st' := [.int o6.1]) rfl) ?_
      clear SH; have SH := SH2; clear SH2
      refine And.imp_left (rs_istore_n i_X7_uneven_41 (Nat.le_of_ble_eq_true rfl) (lv' := [some (.ref 16), some (.int v1), some (.int v2), some (.int o6.1), none, none, none, none]) rfl) ?_
      refine And.imp_left (rs_iconst i_X7_uneven_42 (v := 0) (by decide)) ?_
      refine And.imp_left (rs_istore i_X7_uneven_43 (Nat.le_of_ble_eq_true rfl) (lv' := [some (.ref 16), some (.int v1), some (.int v2), some (.int o6.1), some (.int 0), none, none, none]) rfl) ?_
      refine And.imp_left (rs_iconst i_X7_uneven_45 (v := 0) (by decide)) ?_
      refine And.imp_left (rs_istore i_X7_uneven_46 (Nat.le_of_ble_eq_true rfl) (lv' := [some (.ref 16), some (.int v1), some (.int v2), some (.int o6.1), some (.int 0), some (.int 0), none, none]) rfl) ?_
      refine And.imp_left (rs_iconst i_X7_uneven_48 (v := 0) (by decide)) ?_
      refine And.imp_left (rs_istore i_X7_uneven_49 (Nat.le_of_ble_eq_true rfl) (lv' := [some (.ref 16), some (.int v1), some (.int v2), some (.int o6.1), some (.int 0), some (.int 0), some (.int 0), none]) rfl) ?_
      exact q_X7_uneven_51 hd hh _ _ _ _ _ _ _ _ _ _ SH hf
    · replace hf := (if_neg c4).symm.trans hf
      refine And.imp_left (rs_ifF i_X7_uneven_17 (cf_ne c4)) ?_
      refine And.imp_left (rs_bipush i_X7_uneven_20 (v := (-7)) (by decide)) ?_
      have hf := Option.some.inj hf
      subst hf
      exact ⟨rs_iret i_X7_uneven_22 m_X7_uneven rfl, SH⟩
  · replace hf := (if_neg c2).symm.trans hf
    refine And.imp_left (rs_ifF i_X7_uneven_5 (cf_ne c2)) ?_
    refine And.imp_left (rs_bipush i_X7_uneven_8 (v := (-5)) (by decide)) ?_
    have hf := Option.some.inj hf
    subst hf
    exact ⟨rs_iret i_X7_uneven_10 m_X7_uneven rfl, SH⟩
noncomputable def g_X7_uneven (n : Nat) (v1 : Int32) (v2 : Int32) (h : Hp) : Option (Int32 × Hp) := g_X7_uneven_0 n v1 v2 h
theorem k_X7_uneven {X : Nat → Int32} {d : Nat} (hd : 7 ≤ d) {L hi : Nat} (hh : 96 ≤ hi) {n : Nat} {v1 : Int32} {v2 : Int32} {h : Hp} {o : (Int32 × Hp)}  (SH : SHP L hi h) (hf : g_X7_uneven n v1 v2 h = some o) : Calls X d 91 [.ref 16, .int v1, .int v2] h (some (.int o.1), o.2) ∧ SHP L hi o.2 := by
  obtain ⟨d, rfl⟩ : ∃ z, d = z + 1 := ⟨d - 1, by omega⟩
  obtain ⟨r, S2⟩ := q_X7_uneven_0 hd hh SH hf
  exact ⟨⟨_, rfl, r⟩, S2⟩
noncomputable def g_X7_cooks_0 (n : Nat) (v1 : Int32) (v2 : Int32) (v3 : Int32) (h : Hp) : Option (Int32 × Hp) :=
  (g_X7_areSteps v1 h).bind fun o1 =>
  if o1.1 ≠ 0 then
    (g_X7_within v2 0 9999 o1.2).bind fun o3 =>
    if o3.1 = 0 then
      some ((-7), o3.2)
    else
      (g_X7_within v3 0 2 o3.2).bind fun o5 =>
      if o5.1 ≠ 0 then
        (g_X7_make n 17 v1 (-1) (-1) o5.2).bind fun o7 =>
        (g_X3_cooked n 82 v2 v3 o7).bind fun o8 =>
        some (o8.1, o8.2)
      else
        some ((-7), o5.2)
  else
    some ((-5), o1.2)
set_option maxRecDepth 100000 in
set_option maxHeartbeats 4000000 in
theorem q_X7_cooks_0 {X : Nat → Int32} {d : Nat} (hd : 7 ≤ (d + 1)) {L hi : Nat} (hh : 96 ≤ hi) {n : Nat} {v1 : Int32} {v2 : Int32} {v3 : Int32} {h : Hp} {o : (Int32 × Hp)}  (SH : SHP L hi h) (hf : g_X7_cooks_0 n v1 v2 v3 h = some o) : Run X (d + 1) 92 0 [some (.ref 16), some (.int v1), some (.int v2), some (.int v3)] [] h (some (.int o.1), o.2) ∧ SHP L hi o.2 := by
  unfold g_X7_cooks_0 at hf
  refine And.imp_left (rs_aload_n i_X7_cooks_0 rfl) ?_
  refine And.imp_left (rs_iload_n i_X7_cooks_1 rfl) ?_
  obtain ⟨o1, e1, hf⟩ := bind_some hf
  obtain ⟨u1, SH2⟩ := k_X7_areSteps (X := X) (d := d) (by omega) (by omega) SH e1
  refine And.imp_left (rs_inV i_X7_cooks_2 m_X7_areSteps rfl (As := [.int v1]) (rest := []) rfl rfl (Nat.le_of_ble_eq_true rfl) (sO7 SH hh) u1 (st' := [.int o1.1]) rfl) ?_
  clear SH; have SH := SH2; clear SH2
  by_cases c2 : o1.1 ≠ 0
  · replace hf := (if_pos c2).symm.trans hf
    refine And.imp_left (rs_ifT i_X7_cooks_5 (ct_ne c2) (tg := 11) (by decide)) ?_
    refine And.imp_left (rs_iload_n i_X7_cooks_11 rfl) ?_
    refine And.imp_left (rs_iconst i_X7_cooks_12 (v := 0) (by decide)) ?_
    refine And.imp_left (rs_sipush i_X7_cooks_13 (v := 9999) (by decide)) ?_
    obtain ⟨o3, e3, hf⟩ := bind_some hf
    obtain ⟨u3, SH2⟩ := k_X7_within (X := X) (d := d) (by omega) (by omega) SH e3
    refine And.imp_left (rs_inS i_X7_cooks_16 (by decide) m_X7_within rfl (As := [.int v2, .int 0, .int 9999]) (rest := []) rfl rfl (Nat.le_of_ble_eq_true rfl) u3 (st' := [.int o3.1]) rfl) ?_
    clear SH; have SH := SH2; clear SH2
    by_cases c4 : o3.1 = 0
    · replace hf := (if_pos c4).symm.trans hf
      refine And.imp_left (rs_ifT i_X7_cooks_19 (ct_eq c4) (tg := 31) (by decide)) ?_
      refine And.imp_left (rs_bipush i_X7_cooks_31 (v := (-7)) (by decide)) ?_
      have hf := Option.some.inj hf
      subst hf
      exact ⟨rs_iret i_X7_cooks_33 m_X7_cooks rfl, SH⟩
    · replace hf := (if_neg c4).symm.trans hf
      refine And.imp_left (rs_ifF i_X7_cooks_19 (cf_eq c4)) ?_
      refine And.imp_left (rs_iload_n i_X7_cooks_22 rfl) ?_
      refine And.imp_left (rs_iconst i_X7_cooks_23 (v := 0) (by decide)) ?_
      refine And.imp_left (rs_iconst i_X7_cooks_24 (v := 2) (by decide)) ?_
      obtain ⟨o5, e5, hf⟩ := bind_some hf
      obtain ⟨u5, SH2⟩ := k_X7_within (X := X) (d := d) (by omega) (by omega) SH e5
      refine And.imp_left (rs_inS i_X7_cooks_25 (by decide) m_X7_within rfl (As := [.int v3, .int 0, .int 2]) (rest := []) rfl rfl (Nat.le_of_ble_eq_true rfl) u5 (st' := [.int o5.1]) rfl) ?_
      clear SH; have SH := SH2; clear SH2
      by_cases c6 : o5.1 ≠ 0
      · replace hf := (if_pos c6).symm.trans hf
        refine And.imp_left (rs_ifT i_X7_cooks_28 (ct_ne c6) (tg := 34) (by decide)) ?_
        refine And.imp_left (rs_aload_n i_X7_cooks_34 rfl) ?_
        refine And.imp_left (rs_aload_n i_X7_cooks_35 rfl) ?_
        refine And.imp_left (rs_getR i_X7_cooks_36 (by decide) (by decide) (sO7 SH hh) (sR7_0 SH hh)) ?_
        refine And.imp_left (rs_iload_n i_X7_cooks_39 rfl) ?_
        refine And.imp_left (rs_iconst i_X7_cooks_40 (v := (-1)) (by decide)) ?_
        refine And.imp_left (rs_iconst i_X7_cooks_41 (v := (-1)) (by decide)) ?_
        obtain ⟨o7, e7, hf⟩ := bind_some hf
        obtain ⟨u7, SH2⟩ := k_X7_make (X := X) (d := d) (by omega) (by omega) (by decide) SH e7
        refine And.imp_left (rs_inV i_X7_cooks_42 m_X7_make rfl (As := [.ref 17, .int v1, .int (-1), .int (-1)]) (rest := []) rfl rfl (Nat.le_of_ble_eq_true rfl) (sO7 SH hh) u7 (st' := []) rfl) ?_
        clear SH; have SH := SH2; clear SH2
        refine And.imp_left (rs_aload_n i_X7_cooks_45 rfl) ?_
        refine And.imp_left (rs_getR i_X7_cooks_46 (by decide) (by decide) (sO7 SH hh) (sR7_7 SH hh)) ?_
        refine And.imp_left (rs_iload_n i_X7_cooks_49 rfl) ?_
        refine And.imp_left (rs_iload_n i_X7_cooks_50 rfl) ?_
        obtain ⟨o8, e8, hf⟩ := bind_some hf
        obtain ⟨u8, SH2⟩ := k_X3_cooked (X := X) (d := d) (by omega) (by omega) (by decide) SH e8
        refine And.imp_left (rs_inV i_X7_cooks_51 m_X3_cooked rfl (As := [.int v2, .int v3]) (rest := []) rfl rfl (Nat.le_of_ble_eq_true rfl) (sO3 SH hh (by decide)) u8 (st' := [.int o8.1]) rfl) ?_
        clear SH; have SH := SH2; clear SH2
        have hf := Option.some.inj hf
        subst hf
        exact ⟨rs_iret i_X7_cooks_54 m_X7_cooks rfl, SH⟩
      · replace hf := (if_neg c6).symm.trans hf
        refine And.imp_left (rs_ifF i_X7_cooks_28 (cf_ne c6)) ?_
        refine And.imp_left (rs_bipush i_X7_cooks_31 (v := (-7)) (by decide)) ?_
        have hf := Option.some.inj hf
        subst hf
        exact ⟨rs_iret i_X7_cooks_33 m_X7_cooks rfl, SH⟩
  · replace hf := (if_neg c2).symm.trans hf
    refine And.imp_left (rs_ifF i_X7_cooks_5 (cf_ne c2)) ?_
    refine And.imp_left (rs_bipush i_X7_cooks_8 (v := (-5)) (by decide)) ?_
    have hf := Option.some.inj hf
    subst hf
    exact ⟨rs_iret i_X7_cooks_10 m_X7_cooks rfl, SH⟩
noncomputable def g_X7_cooks (n : Nat) (v1 : Int32) (v2 : Int32) (v3 : Int32) (h : Hp) : Option (Int32 × Hp) := g_X7_cooks_0 n v1 v2 v3 h
theorem k_X7_cooks {X : Nat → Int32} {d : Nat} (hd : 7 ≤ d) {L hi : Nat} (hh : 96 ≤ hi) {n : Nat} {v1 : Int32} {v2 : Int32} {v3 : Int32} {h : Hp} {o : (Int32 × Hp)}  (SH : SHP L hi h) (hf : g_X7_cooks n v1 v2 v3 h = some o) : Calls X d 92 [.ref 16, .int v1, .int v2, .int v3] h (some (.int o.1), o.2) ∧ SHP L hi o.2 := by
  obtain ⟨d, rfl⟩ : ∃ z, d = z + 1 := ⟨d - 1, by omega⟩
  obtain ⟨r, S2⟩ := q_X7_cooks_0 hd hh SH hf
  exact ⟨⟨_, rfl, r⟩, S2⟩
noncomputable def g_X7_pot_83 (n : Nat) (K29 : Int32 → Int32 → Int32 → Hp → Option (Int32 × Hp)) (v2 : Int32) (v3 : Int32) (v4 : Int32) (h : Hp) : Option (Int32 × Hp) :=
  K29 v2 v3 (v4 + 1) h
set_option maxRecDepth 100000 in
set_option maxHeartbeats 4000000 in
theorem q_X7_pot_83 {X : Nat → Int32} {d : Nat} (hd : 7 ≤ (d + 1)) {L hi : Nat} (hh : 96 ≤ hi) {n : Nat} {K29 : Int32 → Int32 → Int32 → Hp → Option (Int32 × Hp)} (HK29 : ∀ (v2 : Int32) (v3 : Int32) (v4 : Int32) (d1 : Int32) (w5 : Option Value) (w6 : Option Value) (h : Hp) (o : (Int32 × Hp)), SHP L hi h → K29 v2 v3 v4 h = some o → Run X (d + 1) 93 29 [some (.ref 16), some (.int d1), some (.int v2), some (.int v3), some (.int v4), w5, w6] [] h (some (.int o.1), o.2) ∧ SHP L hi o.2) {v2 : Int32} {v3 : Int32} {v4 : Int32} {d1 : Int32} {d5 : Int32} {d6 : Int32} {h : Hp} {o : (Int32 × Hp)}  (SH : SHP L hi h) (hf : g_X7_pot_83 n K29 v2 v3 v4 h = some o) : Run X (d + 1) 93 83 [some (.ref 16), some (.int d1), some (.int v2), some (.int v3), some (.int v4), some (.int d5), some (.int d6)] [] h (some (.int o.1), o.2) ∧ SHP L hi o.2 := by
  unfold g_X7_pot_83 at hf
  refine And.imp_left (rs_iinc i_X7_pot_83 rfl (v := v4 + 1) rfl (Nat.le_of_ble_eq_true rfl) (lv' := [some (.ref 16), some (.int d1), some (.int v2), some (.int v3), some (.int (v4 + 1)), some (.int d5), some (.int d6)]) rfl) ?_
  refine And.imp_left (rs_goto i_X7_pot_86 (tg := 29) (by decide)) ?_
  exact HK29 _ _ _ _ _ _ _ _ SH hf
noncomputable def g_X7_pot_77 (n : Nat) (K29 : Int32 → Int32 → Int32 → Hp → Option (Int32 × Hp)) (v4 : Int32) (v5 : Int32) (v6 : Int32) (h : Hp) : Option (Int32 × Hp) :=
  g_X7_pot_83 n K29 v5 v6 v4 h
set_option maxRecDepth 100000 in
set_option maxHeartbeats 4000000 in
theorem q_X7_pot_77 {X : Nat → Int32} {d : Nat} (hd : 7 ≤ (d + 1)) {L hi : Nat} (hh : 96 ≤ hi) {n : Nat} {K29 : Int32 → Int32 → Int32 → Hp → Option (Int32 × Hp)} (HK29 : ∀ (v2 : Int32) (v3 : Int32) (v4 : Int32) (d1 : Int32) (w5 : Option Value) (w6 : Option Value) (h : Hp) (o : (Int32 × Hp)), SHP L hi h → K29 v2 v3 v4 h = some o → Run X (d + 1) 93 29 [some (.ref 16), some (.int d1), some (.int v2), some (.int v3), some (.int v4), w5, w6] [] h (some (.int o.1), o.2) ∧ SHP L hi o.2) {v4 : Int32} {v5 : Int32} {v6 : Int32} {d1 : Int32} {d2 : Int32} {d3 : Int32} {h : Hp} {o : (Int32 × Hp)}  (SH : SHP L hi h) (hf : g_X7_pot_77 n K29 v4 v5 v6 h = some o) : Run X (d + 1) 93 77 [some (.ref 16), some (.int d1), some (.int d2), some (.int d3), some (.int v4), some (.int v5), some (.int v6)] [] h (some (.int o.1), o.2) ∧ SHP L hi o.2 := by
  unfold g_X7_pot_77 at hf
  refine And.imp_left (rs_iload i_X7_pot_77 rfl) ?_
  refine And.imp_left (rs_istore_n i_X7_pot_79 (Nat.le_of_ble_eq_true rfl) (lv' := [some (.ref 16), some (.int d1), some (.int d2), some (.int v6), some (.int v4), some (.int v5), some (.int v6)]) rfl) ?_
  refine And.imp_left (rs_iload i_X7_pot_80 rfl) ?_
  refine And.imp_left (rs_istore_n i_X7_pot_82 (Nat.le_of_ble_eq_true rfl) (lv' := [some (.ref 16), some (.int d1), some (.int v5), some (.int v6), some (.int v4), some (.int v5), some (.int v6)]) rfl) ?_
  exact q_X7_pot_83 hd hh HK29 SH hf
noncomputable def g_X7_pot_29 (n : Nat) : Nat → Int32 → Int32 → Int32 → Hp → Option (Int32 × Hp)
  | 0, _, _, _, _ => none
  | m + 1, v2, v3, v4, h =>
    if 12 ≤ v4 then
      some (v2, h)
    else
      (g_X3_thick 82 v4 h).bind fun o2 =>
      (g_X3_cooked n 82 o2.1 1 o2.2).bind fun o3 =>
      if v3 < o3.1 then
        g_X7_pot_77 n (g_X7_pot_29 n m) v4 o2.1 o3.1 o3.2
      else
        if o3.1 ≠ v3 then
          g_X7_pot_83 n (g_X7_pot_29 n m) v2 v3 v4 o3.2
        else
          if v2 ≤ o2.1 then
            g_X7_pot_83 n (g_X7_pot_29 n m) v2 v3 v4 o3.2
          else
            g_X7_pot_77 n (g_X7_pot_29 n m) v4 o2.1 o3.1 o3.2
set_option maxRecDepth 100000 in
set_option maxHeartbeats 4000000 in
theorem q_X7_pot_29 {X : Nat → Int32} {d : Nat} (hd : 7 ≤ (d + 1)) {L hi : Nat} (hh : 96 ≤ hi) {n : Nat} : ∀ (m : Nat) (v2 : Int32) (v3 : Int32) (v4 : Int32) (d1 : Int32) (w5 : Option Value) (w6 : Option Value) (h : Hp) (o : (Int32 × Hp)), SHP L hi h → g_X7_pot_29 n m v2 v3 v4 h = some o → Run X (d + 1) 93 29 [some (.ref 16), some (.int d1), some (.int v2), some (.int v3), some (.int v4), w5, w6] [] h (some (.int o.1), o.2) ∧ SHP L hi o.2 := by
  intro m
  induction m with
  | zero => intro v2 v3 v4 d1 w5 w6 h o SH hf; cases hf
  | succ m ih =>
    intro v2 v3 v4 d1 w5 w6 h o SH hf
    rw [g_X7_pot_29] at hf
    refine And.imp_left (rs_iload i_X7_pot_29 rfl) ?_
    refine And.imp_left (rs_bipush i_X7_pot_31 (v := 12) (by decide)) ?_
    by_cases c1 : 12 ≤ v4
    · replace hf := (if_pos c1).symm.trans hf
      refine And.imp_left (rs_icT i_X7_pot_33 (ct_ge c1) (tg := 89) (by decide)) ?_
      refine And.imp_left (rs_iload_n i_X7_pot_89 rfl) ?_
      have hf := Option.some.inj hf
      subst hf
      exact ⟨rs_iret i_X7_pot_90 m_X7_pot rfl, SH⟩
    · replace hf := (if_neg c1).symm.trans hf
      refine And.imp_left (rs_icF i_X7_pot_33 (cf_ge c1)) ?_
      refine And.imp_left (rs_aload_n i_X7_pot_36 rfl) ?_
      refine And.imp_left (rs_getR i_X7_pot_37 (by decide) (by decide) (sO7 SH hh) (sR7_7 SH hh)) ?_
      refine And.imp_left (rs_iload i_X7_pot_40 rfl) ?_
      obtain ⟨o2, e2, hf⟩ := bind_some hf
      obtain ⟨u2, SH2⟩ := k_X3_thick (X := X) (d := d) (by omega) (by omega) (by decide) SH e2
      refine And.imp_left (rs_inV i_X7_pot_42 m_X3_thick rfl (As := [.int v4]) (rest := []) rfl rfl (Nat.le_of_ble_eq_true rfl) (sO3 SH hh (by decide)) u2 (st' := [.int o2.1]) rfl) ?_
      clear SH; have SH := SH2; clear SH2
      refine And.imp_left (rs_istore i_X7_pot_45 (Nat.le_of_ble_eq_true rfl) (lv' := [some (.ref 16), some (.int d1), some (.int v2), some (.int v3), some (.int v4), some (.int o2.1), w6]) rfl) ?_
      refine And.imp_left (rs_aload_n i_X7_pot_47 rfl) ?_
      refine And.imp_left (rs_getR i_X7_pot_48 (by decide) (by decide) (sO7 SH hh) (sR7_7 SH hh)) ?_
      refine And.imp_left (rs_iload i_X7_pot_51 rfl) ?_
      refine And.imp_left (rs_iconst i_X7_pot_53 (v := 1) (by decide)) ?_
      obtain ⟨o3, e3, hf⟩ := bind_some hf
      obtain ⟨u3, SH2⟩ := k_X3_cooked (X := X) (d := d) (by omega) (by omega) (by decide) SH e3
      refine And.imp_left (rs_inV i_X7_pot_54 m_X3_cooked rfl (As := [.int o2.1, .int 1]) (rest := []) rfl rfl (Nat.le_of_ble_eq_true rfl) (sO3 SH hh (by decide)) u3 (st' := [.int o3.1]) rfl) ?_
      clear SH; have SH := SH2; clear SH2
      refine And.imp_left (rs_istore i_X7_pot_57 (Nat.le_of_ble_eq_true rfl) (lv' := [some (.ref 16), some (.int d1), some (.int v2), some (.int v3), some (.int v4), some (.int o2.1), some (.int o3.1)]) rfl) ?_
      refine And.imp_left (rs_iload i_X7_pot_59 rfl) ?_
      refine And.imp_left (rs_iload_n i_X7_pot_61 rfl) ?_
      by_cases c4 : v3 < o3.1
      · replace hf := (if_pos c4).symm.trans hf
        refine And.imp_left (rs_icT i_X7_pot_62 (ct_gt c4) (tg := 77) (by decide)) ?_
        exact q_X7_pot_77 hd hh ih SH hf
      · replace hf := (if_neg c4).symm.trans hf
        refine And.imp_left (rs_icF i_X7_pot_62 (cf_gt c4)) ?_
        refine And.imp_left (rs_iload i_X7_pot_65 rfl) ?_
        refine And.imp_left (rs_iload_n i_X7_pot_67 rfl) ?_
        by_cases c5 : o3.1 ≠ v3
        · replace hf := (if_pos c5).symm.trans hf
          refine And.imp_left (rs_icT i_X7_pot_68 (ct_ne c5) (tg := 83) (by decide)) ?_
          exact q_X7_pot_83 hd hh ih SH hf
        · replace hf := (if_neg c5).symm.trans hf
          refine And.imp_left (rs_icF i_X7_pot_68 (cf_ne c5)) ?_
          refine And.imp_left (rs_iload i_X7_pot_71 rfl) ?_
          refine And.imp_left (rs_iload_n i_X7_pot_73 rfl) ?_
          by_cases c6 : v2 ≤ o2.1
          · replace hf := (if_pos c6).symm.trans hf
            refine And.imp_left (rs_icT i_X7_pot_74 (ct_ge c6) (tg := 83) (by decide)) ?_
            exact q_X7_pot_83 hd hh ih SH hf
          · replace hf := (if_neg c6).symm.trans hf
            refine And.imp_left (rs_icF i_X7_pot_74 (cf_ge c6)) ?_
            exact q_X7_pot_77 hd hh ih SH hf
noncomputable def g_X7_pot_0 (n : Nat) (v1 : Int32) (h : Hp) : Option (Int32 × Hp) :=
  (g_X7_areSteps v1 h).bind fun o1 =>
  if o1.1 ≠ 0 then
    (g_X7_make n 17 v1 (-1) (-1) o1.2).bind fun o3 =>
    g_X7_pot_29 n n 0 0 0 o3
  else
    some ((-5), o1.2)
set_option maxRecDepth 100000 in
set_option maxHeartbeats 4000000 in
theorem q_X7_pot_0 {X : Nat → Int32} {d : Nat} (hd : 7 ≤ (d + 1)) {L hi : Nat} (hh : 96 ≤ hi) {n : Nat} {v1 : Int32} {h : Hp} {o : (Int32 × Hp)}  (SH : SHP L hi h) (hf : g_X7_pot_0 n v1 h = some o) : Run X (d + 1) 93 0 [some (.ref 16), some (.int v1), none, none, none, none, none] [] h (some (.int o.1), o.2) ∧ SHP L hi o.2 := by
  unfold g_X7_pot_0 at hf
  refine And.imp_left (rs_aload_n i_X7_pot_0 rfl) ?_
  refine And.imp_left (rs_iload_n i_X7_pot_1 rfl) ?_
  obtain ⟨o1, e1, hf⟩ := bind_some hf
  obtain ⟨u1, SH2⟩ := k_X7_areSteps (X := X) (d := d) (by omega) (by omega) SH e1
  refine And.imp_left (rs_inV i_X7_pot_2 m_X7_areSteps rfl (As := [.int v1]) (rest := []) rfl rfl (Nat.le_of_ble_eq_true rfl) (sO7 SH hh) u1 (st' := [.int o1.1]) rfl) ?_
  clear SH; have SH := SH2; clear SH2
  by_cases c2 : o1.1 ≠ 0
  · replace hf := (if_pos c2).symm.trans hf
    refine And.imp_left (rs_ifT i_X7_pot_5 (ct_ne c2) (tg := 11) (by decide)) ?_
    refine And.imp_left (rs_aload_n i_X7_pot_11 rfl) ?_
    refine And.imp_left (rs_aload_n i_X7_pot_12 rfl) ?_
    refine And.imp_left (rs_getR i_X7_pot_13 (by decide) (by decide) (sO7 SH hh) (sR7_0 SH hh)) ?_
    refine And.imp_left (rs_iload_n i_X7_pot_16 rfl) ?_
    refine And.imp_left (rs_iconst i_X7_pot_17 (v := (-1)) (by decide)) ?_
    refine And.imp_left (rs_iconst i_X7_pot_18 (v := (-1)) (by decide)) ?_
    obtain ⟨o3, e3, hf⟩ := bind_some hf
    obtain ⟨u3, SH2⟩ := k_X7_make (X := X) (d := d) (by omega) (by omega) (by decide) SH e3
    refine And.imp_left (rs_inV i_X7_pot_19 m_X7_make rfl (As := [.ref 17, .int v1, .int (-1), .int (-1)]) (rest := []) rfl rfl (Nat.le_of_ble_eq_true rfl) (sO7 SH hh) u3 (st' := []) rfl) ?_
    clear SH; have SH := SH2; clear SH2
    refine And.imp_left (rs_iconst i_X7_pot_22 (v := 0) (by decide)) ?_
    refine And.imp_left (rs_istore_n i_X7_pot_23 (Nat.le_of_ble_eq_true rfl) (lv' := [some (.ref 16), some (.int v1), some (.int 0), none, none, none, none]) rfl) ?_
    refine And.imp_left (rs_iconst i_X7_pot_24 (v := 0) (by decide)) ?_
    refine And.imp_left (rs_istore_n i_X7_pot_25 (Nat.le_of_ble_eq_true rfl) (lv' := [some (.ref 16), some (.int v1), some (.int 0), some (.int 0), none, none, none]) rfl) ?_
    refine And.imp_left (rs_iconst i_X7_pot_26 (v := 0) (by decide)) ?_
    refine And.imp_left (rs_istore i_X7_pot_27 (Nat.le_of_ble_eq_true rfl) (lv' := [some (.ref 16), some (.int v1), some (.int 0), some (.int 0), some (.int 0), none, none]) rfl) ?_
    exact q_X7_pot_29 hd hh _ _ _ _ _ _ _ _ _ SH hf
  · replace hf := (if_neg c2).symm.trans hf
    refine And.imp_left (rs_ifF i_X7_pot_5 (cf_ne c2)) ?_
    refine And.imp_left (rs_bipush i_X7_pot_8 (v := (-5)) (by decide)) ?_
    have hf := Option.some.inj hf
    subst hf
    exact ⟨rs_iret i_X7_pot_10 m_X7_pot rfl, SH⟩
noncomputable def g_X7_pot (n : Nat) (v1 : Int32) (h : Hp) : Option (Int32 × Hp) := g_X7_pot_0 n v1 h
theorem k_X7_pot {X : Nat → Int32} {d : Nat} (hd : 7 ≤ d) {L hi : Nat} (hh : 96 ≤ hi) {n : Nat} {v1 : Int32} {h : Hp} {o : (Int32 × Hp)}  (SH : SHP L hi h) (hf : g_X7_pot n v1 h = some o) : Calls X d 93 [.ref 16, .int v1] h (some (.int o.1), o.2) ∧ SHP L hi o.2 := by
  obtain ⟨d, rfl⟩ : ∃ z, d = z + 1 := ⟨d - 1, by omega⟩
  obtain ⟨r, S2⟩ := q_X7_pot_0 hd hh SH hf
  exact ⟨⟨_, rfl, r⟩, S2⟩
noncomputable def g_X7_isPlace_0 (v0 : Int32) (h : Hp) : Option (Int32 × Hp) :=
  (g_X7_within v0 0 4095 h).bind fun o1 =>
  if o1.1 = 0 ∨ o1.1 = 1 then
  some (o1.1, o1.2)
  else none
set_option maxRecDepth 100000 in
set_option maxHeartbeats 4000000 in
theorem q_X7_isPlace_0 {X : Nat → Int32} {d : Nat} (hd : 1 ≤ (d + 1)) {L hi : Nat} (hh : 96 ≤ hi) {v0 : Int32} {h : Hp} {o : (Int32 × Hp)}  (SH : SHP L hi h) (hf : g_X7_isPlace_0 v0 h = some o) : Run X (d + 1) 115 0 [some (.int v0)] [] h (some (.int o.1), o.2) ∧ SHP L hi o.2 := by
  unfold g_X7_isPlace_0 at hf
  refine And.imp_left (rs_iload_n i_X7_isPlace_0 rfl) ?_
  refine And.imp_left (rs_iconst i_X7_isPlace_1 (v := 0) (by decide)) ?_
  refine And.imp_left (rs_sipush i_X7_isPlace_2 (v := 4095) (by decide)) ?_
  obtain ⟨o1, e1, hf⟩ := bind_some hf
  obtain ⟨u1, SH2⟩ := k_X7_within (X := X) (d := d) (by omega) (by omega) SH e1
  refine And.imp_left (rs_inS i_X7_isPlace_5 (by decide) m_X7_within rfl (As := [.int v0, .int 0, .int 4095]) (rest := []) rfl rfl (Nat.le_of_ble_eq_true rfl) u1 (st' := [.int o1.1]) rfl) ?_
  clear SH; have SH := SH2; clear SH2
  obtain ⟨c2, hf⟩ := ite_some hf
  have hf := Option.some.inj hf
  subst hf
  exact ⟨rs_iret i_X7_isPlace_8 m_X7_isPlace (decide_eq_true c2), SH⟩
noncomputable def g_X7_isPlace (v0 : Int32) (h : Hp) : Option (Int32 × Hp) := g_X7_isPlace_0 v0 h
theorem k_X7_isPlace {X : Nat → Int32} {d : Nat} (hd : 1 ≤ d) {L hi : Nat} (hh : 96 ≤ hi) {v0 : Int32} {h : Hp} {o : (Int32 × Hp)}  (SH : SHP L hi h) (hf : g_X7_isPlace v0 h = some o) : Calls X d 115 [.int v0] h (some (.int o.1), o.2) ∧ SHP L hi o.2 := by
  obtain ⟨d, rfl⟩ : ∃ z, d = z + 1 := ⟨d - 1, by omega⟩
  obtain ⟨r, S2⟩ := q_X7_isPlace_0 hd hh SH hf
  exact ⟨⟨_, rfl, r⟩, S2⟩
noncomputable def g_X7_placeBehind_31 (n : Nat) (K4 : Int32 → Int32 → Int32 → Hp → Option (Int32 × Hp)) (v1 : Int32) (v3 : Int32) (s0 : Int32) (h : Hp) : Option (Int32 × Hp) :=
  K4 v1 s0 (v3 + 1) h
set_option maxRecDepth 100000 in
set_option maxHeartbeats 4000000 in
theorem q_X7_placeBehind_31 {X : Nat → Int32} {d : Nat} (hd : 0 ≤ d) {L hi : Nat} (hh : 96 ≤ hi) {n : Nat} {K4 : Int32 → Int32 → Int32 → Hp → Option (Int32 × Hp)} (HK4 : ∀ (v1 : Int32) (v2 : Int32) (v3 : Int32) (d0 : Int32) (h : Hp) (o : (Int32 × Hp)), SHP L hi h → K4 v1 v2 v3 h = some o → Run X d 121 4 [some (.int d0), some (.int v1), some (.int v2), some (.int v3)] [] h (some (.int o.1), o.2) ∧ SHP L hi o.2) {v1 : Int32} {v3 : Int32} {s0 : Int32} {d0 : Int32} {d2 : Int32} {h : Hp} {o : (Int32 × Hp)}  (SH : SHP L hi h) (hf : g_X7_placeBehind_31 n K4 v1 v3 s0 h = some o) : Run X d 121 31 [some (.int d0), some (.int v1), some (.int d2), some (.int v3)] [.int s0] h (some (.int o.1), o.2) ∧ SHP L hi o.2 := by
  unfold g_X7_placeBehind_31 at hf
  refine And.imp_left (rs_istore_n i_X7_placeBehind_31 (Nat.le_of_ble_eq_true rfl) (lv' := [some (.int d0), some (.int v1), some (.int s0), some (.int v3)]) rfl) ?_
  refine And.imp_left (rs_iinc i_X7_placeBehind_32 rfl (v := v3 + 1) rfl (Nat.le_of_ble_eq_true rfl) (lv' := [some (.int d0), some (.int v1), some (.int s0), some (.int (v3 + 1))]) rfl) ?_
  refine And.imp_left (rs_goto i_X7_placeBehind_35 (tg := 4) (by decide)) ?_
  exact HK4 _ _ _ _ _ _ SH hf
noncomputable def g_X7_placeBehind_4 (n : Nat) : Nat → Int32 → Int32 → Int32 → Hp → Option (Int32 × Hp)
  | 0, _, _, _, _ => none
  | m + 1, v1, v2, v3, h =>
    if v1 ≤ v3 then
      some (v2, h)
    else
      if 2048 ≤ v2 then
        g_X7_placeBehind_31 n (g_X7_placeBehind_4 n m) v1 v3 ((2 * (4095 - v2)) + 1) h
      else
        g_X7_placeBehind_31 n (g_X7_placeBehind_4 n m) v1 v3 (2 * v2) h
set_option maxRecDepth 100000 in
set_option maxHeartbeats 4000000 in
theorem q_X7_placeBehind_4 {X : Nat → Int32} {d : Nat} (hd : 0 ≤ d) {L hi : Nat} (hh : 96 ≤ hi) {n : Nat} : ∀ (m : Nat) (v1 : Int32) (v2 : Int32) (v3 : Int32) (d0 : Int32) (h : Hp) (o : (Int32 × Hp)), SHP L hi h → g_X7_placeBehind_4 n m v1 v2 v3 h = some o → Run X d 121 4 [some (.int d0), some (.int v1), some (.int v2), some (.int v3)] [] h (some (.int o.1), o.2) ∧ SHP L hi o.2 := by
  intro m
  induction m with
  | zero => intro v1 v2 v3 d0 h o SH hf; cases hf
  | succ m ih =>
    intro v1 v2 v3 d0 h o SH hf
    rw [g_X7_placeBehind_4] at hf
    refine And.imp_left (rs_iload_n i_X7_placeBehind_4 rfl) ?_
    refine And.imp_left (rs_iload_n i_X7_placeBehind_5 rfl) ?_
    by_cases c1 : v1 ≤ v3
    · replace hf := (if_pos c1).symm.trans hf
      refine And.imp_left (rs_icT i_X7_placeBehind_6 (ct_ge c1) (tg := 38) (by decide)) ?_
      refine And.imp_left (rs_iload_n i_X7_placeBehind_38 rfl) ?_
      have hf := Option.some.inj hf
      subst hf
      exact ⟨rs_iret i_X7_placeBehind_39 m_X7_placeBehind rfl, SH⟩
    · replace hf := (if_neg c1).symm.trans hf
      refine And.imp_left (rs_icF i_X7_placeBehind_6 (cf_ge c1)) ?_
      refine And.imp_left (rs_iload_n i_X7_placeBehind_9 rfl) ?_
      refine And.imp_left (rs_sipush i_X7_placeBehind_10 (v := 2048) (by decide)) ?_
      by_cases c2 : 2048 ≤ v2
      · replace hf := (if_pos c2).symm.trans hf
        refine And.imp_left (rs_icT i_X7_placeBehind_13 (ct_ge c2) (tg := 22) (by decide)) ?_
        refine And.imp_left (rs_iconst i_X7_placeBehind_22 (v := 2) (by decide)) ?_
        refine And.imp_left (rs_sipush i_X7_placeBehind_23 (v := 4095) (by decide)) ?_
        refine And.imp_left (rs_iload_n i_X7_placeBehind_26 rfl) ?_
        refine And.imp_left (rs_isub i_X7_placeBehind_27) ?_
        refine And.imp_left (rs_imul i_X7_placeBehind_28) ?_
        refine And.imp_left (rs_iconst i_X7_placeBehind_29 (v := 1) (by decide)) ?_
        refine And.imp_left (rs_iadd i_X7_placeBehind_30) ?_
        exact q_X7_placeBehind_31 hd hh ih SH hf
      · replace hf := (if_neg c2).symm.trans hf
        refine And.imp_left (rs_icF i_X7_placeBehind_13 (cf_ge c2)) ?_
        refine And.imp_left (rs_iconst i_X7_placeBehind_16 (v := 2) (by decide)) ?_
        refine And.imp_left (rs_iload_n i_X7_placeBehind_17 rfl) ?_
        refine And.imp_left (rs_imul i_X7_placeBehind_18) ?_
        refine And.imp_left (rs_goto i_X7_placeBehind_19 (tg := 31) (by decide)) ?_
        exact q_X7_placeBehind_31 hd hh ih SH hf
noncomputable def g_X7_placeBehind_0 (n : Nat) (v0 : Int32) (v1 : Int32) (h : Hp) : Option (Int32 × Hp) :=
  g_X7_placeBehind_4 n n v1 v0 0 h
set_option maxRecDepth 100000 in
set_option maxHeartbeats 4000000 in
theorem q_X7_placeBehind_0 {X : Nat → Int32} {d : Nat} (hd : 0 ≤ d) {L hi : Nat} (hh : 96 ≤ hi) {n : Nat} {v0 : Int32} {v1 : Int32} {h : Hp} {o : (Int32 × Hp)}  (SH : SHP L hi h) (hf : g_X7_placeBehind_0 n v0 v1 h = some o) : Run X d 121 0 [some (.int v0), some (.int v1), none, none] [] h (some (.int o.1), o.2) ∧ SHP L hi o.2 := by
  unfold g_X7_placeBehind_0 at hf
  refine And.imp_left (rs_iload_n i_X7_placeBehind_0 rfl) ?_
  refine And.imp_left (rs_istore_n i_X7_placeBehind_1 (Nat.le_of_ble_eq_true rfl) (lv' := [some (.int v0), some (.int v1), some (.int v0), none]) rfl) ?_
  refine And.imp_left (rs_iconst i_X7_placeBehind_2 (v := 0) (by decide)) ?_
  refine And.imp_left (rs_istore_n i_X7_placeBehind_3 (Nat.le_of_ble_eq_true rfl) (lv' := [some (.int v0), some (.int v1), some (.int v0), some (.int 0)]) rfl) ?_
  exact q_X7_placeBehind_4 hd hh _ _ _ _ _ _ _ SH hf
noncomputable def g_X7_placeBehind (n : Nat) (v0 : Int32) (v1 : Int32) (h : Hp) : Option (Int32 × Hp) := g_X7_placeBehind_0 n v0 v1 h
theorem k_X7_placeBehind {X : Nat → Int32} {d : Nat} (hd : 0 ≤ d) {L hi : Nat} (hh : 96 ≤ hi) {n : Nat} {v0 : Int32} {v1 : Int32} {h : Hp} {o : (Int32 × Hp)}  (SH : SHP L hi h) (hf : g_X7_placeBehind n v0 v1 h = some o) : Calls X d 121 [.int v0, .int v1] h (some (.int o.1), o.2) ∧ SHP L hi o.2 := by
  obtain ⟨r, S2⟩ := q_X7_placeBehind_0 hd hh SH hf
  exact ⟨⟨_, rfl, r⟩, S2⟩
noncomputable def g_X7_place_0 (n : Nat) (v1 : Int32) (v2 : Int32) (h : Hp) : Option (Int32 × Hp) :=
  (g_X7_isPlace v1 h).bind fun o1 =>
  if o1.1 = 0 then
    some ((-2), o1.2)
  else
    (g_X7_within v2 0 64 o1.2).bind fun o3 =>
    if o3.1 ≠ 0 then
      (g_X7_placeBehind n v1 v2 o3.2).bind fun o5 =>
      some (o5.1, o5.2)
    else
      some ((-2), o3.2)
set_option maxRecDepth 100000 in
set_option maxHeartbeats 4000000 in
theorem q_X7_place_0 {X : Nat → Int32} {d : Nat} (hd : 2 ≤ (d + 1)) {L hi : Nat} (hh : 96 ≤ hi) {n : Nat} {v1 : Int32} {v2 : Int32} {h : Hp} {o : (Int32 × Hp)}  (SH : SHP L hi h) (hf : g_X7_place_0 n v1 v2 h = some o) : Run X (d + 1) 94 0 [some (.ref 16), some (.int v1), some (.int v2)] [] h (some (.int o.1), o.2) ∧ SHP L hi o.2 := by
  unfold g_X7_place_0 at hf
  refine And.imp_left (rs_iload_n i_X7_place_0 rfl) ?_
  obtain ⟨o1, e1, hf⟩ := bind_some hf
  obtain ⟨u1, SH2⟩ := k_X7_isPlace (X := X) (d := d) (by omega) (by omega) SH e1
  refine And.imp_left (rs_inS i_X7_place_1 (by decide) m_X7_isPlace rfl (As := [.int v1]) (rest := []) rfl rfl (Nat.le_of_ble_eq_true rfl) u1 (st' := [.int o1.1]) rfl) ?_
  clear SH; have SH := SH2; clear SH2
  by_cases c2 : o1.1 = 0
  · replace hf := (if_pos c2).symm.trans hf
    refine And.imp_left (rs_ifT i_X7_place_4 (ct_eq c2) (tg := 17) (by decide)) ?_
    refine And.imp_left (rs_bipush i_X7_place_17 (v := (-2)) (by decide)) ?_
    have hf := Option.some.inj hf
    subst hf
    exact ⟨rs_iret i_X7_place_19 m_X7_place rfl, SH⟩
  · replace hf := (if_neg c2).symm.trans hf
    refine And.imp_left (rs_ifF i_X7_place_4 (cf_eq c2)) ?_
    refine And.imp_left (rs_iload_n i_X7_place_7 rfl) ?_
    refine And.imp_left (rs_iconst i_X7_place_8 (v := 0) (by decide)) ?_
    refine And.imp_left (rs_bipush i_X7_place_9 (v := 64) (by decide)) ?_
    obtain ⟨o3, e3, hf⟩ := bind_some hf
    obtain ⟨u3, SH2⟩ := k_X7_within (X := X) (d := d) (by omega) (by omega) SH e3
    refine And.imp_left (rs_inS i_X7_place_11 (by decide) m_X7_within rfl (As := [.int v2, .int 0, .int 64]) (rest := []) rfl rfl (Nat.le_of_ble_eq_true rfl) u3 (st' := [.int o3.1]) rfl) ?_
    clear SH; have SH := SH2; clear SH2
    by_cases c4 : o3.1 ≠ 0
    · replace hf := (if_pos c4).symm.trans hf
      refine And.imp_left (rs_ifT i_X7_place_14 (ct_ne c4) (tg := 20) (by decide)) ?_
      refine And.imp_left (rs_iload_n i_X7_place_20 rfl) ?_
      refine And.imp_left (rs_iload_n i_X7_place_21 rfl) ?_
      obtain ⟨o5, e5, hf⟩ := bind_some hf
      obtain ⟨u5, SH2⟩ := k_X7_placeBehind (X := X) (d := d) (by omega) (by omega) SH e5
      refine And.imp_left (rs_inS i_X7_place_22 (by decide) m_X7_placeBehind rfl (As := [.int v1, .int v2]) (rest := []) rfl rfl (Nat.le_of_ble_eq_true rfl) u5 (st' := [.int o5.1]) rfl) ?_
      clear SH; have SH := SH2; clear SH2
      have hf := Option.some.inj hf
      subst hf
      exact ⟨rs_iret i_X7_place_25 m_X7_place rfl, SH⟩
    · replace hf := (if_neg c4).symm.trans hf
      refine And.imp_left (rs_ifF i_X7_place_14 (cf_ne c4)) ?_
      refine And.imp_left (rs_bipush i_X7_place_17 (v := (-2)) (by decide)) ?_
      have hf := Option.some.inj hf
      subst hf
      exact ⟨rs_iret i_X7_place_19 m_X7_place rfl, SH⟩
noncomputable def g_X7_place (n : Nat) (v1 : Int32) (v2 : Int32) (h : Hp) : Option (Int32 × Hp) := g_X7_place_0 n v1 v2 h
theorem k_X7_place {X : Nat → Int32} {d : Nat} (hd : 2 ≤ d) {L hi : Nat} (hh : 96 ≤ hi) {n : Nat} {v1 : Int32} {v2 : Int32} {h : Hp} {o : (Int32 × Hp)}  (SH : SHP L hi h) (hf : g_X7_place n v1 v2 h = some o) : Calls X d 94 [.ref 16, .int v1, .int v2] h (some (.int o.1), o.2) ∧ SHP L hi o.2 := by
  obtain ⟨d, rfl⟩ : ∃ z, d = z + 1 := ⟨d - 1, by omega⟩
  obtain ⟨r, S2⟩ := q_X7_place_0 hd hh SH hf
  exact ⟨⟨_, rfl, r⟩, S2⟩
noncomputable def g_X7_apart_0 (n : Nat) (v1 : Int32) (v2 : Int32) (v3 : Int32) (h : Hp) : Option (Int32 × Hp) :=
  (g_X7_isPlace v1 h).bind fun o1 =>
  if o1.1 = 0 then
    some ((-2), o1.2)
  else
    (g_X7_isPlace v2 o1.2).bind fun o3 =>
    if o3.1 = 0 then
      some ((-2), o3.2)
    else
      (g_X7_within v3 0 64 o3.2).bind fun o5 =>
      if o5.1 ≠ 0 then
        (g_X7_placeBehind n v1 v3 o5.2).bind fun o7 =>
        (g_X7_placeBehind n v2 v3 o7.2).bind fun o8 =>
        some ((if 0 ≤ (o7.1 - o8.1) then (o7.1 - o8.1) else 0 - (o7.1 - o8.1)), o8.2)
      else
        some ((-2), o5.2)
set_option maxRecDepth 100000 in
set_option maxHeartbeats 4000000 in
theorem q_X7_apart_0 {X : Nat → Int32} {d : Nat} (hd : 2 ≤ (d + 1)) {L hi : Nat} (hh : 96 ≤ hi) {n : Nat} {v1 : Int32} {v2 : Int32} {v3 : Int32} {h : Hp} {o : (Int32 × Hp)}  (SH : SHP L hi h) (hf : g_X7_apart_0 n v1 v2 v3 h = some o) : Run X (d + 1) 95 0 [some (.ref 16), some (.int v1), some (.int v2), some (.int v3)] [] h (some (.int o.1), o.2) ∧ SHP L hi o.2 := by
  unfold g_X7_apart_0 at hf
  refine And.imp_left (rs_iload_n i_X7_apart_0 rfl) ?_
  obtain ⟨o1, e1, hf⟩ := bind_some hf
  obtain ⟨u1, SH2⟩ := k_X7_isPlace (X := X) (d := d) (by omega) (by omega) SH e1
  refine And.imp_left (rs_inS i_X7_apart_1 (by decide) m_X7_isPlace rfl (As := [.int v1]) (rest := []) rfl rfl (Nat.le_of_ble_eq_true rfl) u1 (st' := [.int o1.1]) rfl) ?_
  clear SH; have SH := SH2; clear SH2
  by_cases c2 : o1.1 = 0
  · replace hf := (if_pos c2).symm.trans hf
    refine And.imp_left (rs_ifT i_X7_apart_4 (ct_eq c2) (tg := 24) (by decide)) ?_
    refine And.imp_left (rs_bipush i_X7_apart_24 (v := (-2)) (by decide)) ?_
    have hf := Option.some.inj hf
    subst hf
    exact ⟨rs_iret i_X7_apart_26 m_X7_apart rfl, SH⟩
  · replace hf := (if_neg c2).symm.trans hf
    refine And.imp_left (rs_ifF i_X7_apart_4 (cf_eq c2)) ?_
    refine And.imp_left (rs_iload_n i_X7_apart_7 rfl) ?_
    obtain ⟨o3, e3, hf⟩ := bind_some hf
    obtain ⟨u3, SH2⟩ := k_X7_isPlace (X := X) (d := d) (by omega) (by omega) SH e3
    refine And.imp_left (rs_inS i_X7_apart_8 (by decide) m_X7_isPlace rfl (As := [.int v2]) (rest := []) rfl rfl (Nat.le_of_ble_eq_true rfl) u3 (st' := [.int o3.1]) rfl) ?_
    clear SH; have SH := SH2; clear SH2
    by_cases c4 : o3.1 = 0
    · replace hf := (if_pos c4).symm.trans hf
      refine And.imp_left (rs_ifT i_X7_apart_11 (ct_eq c4) (tg := 24) (by decide)) ?_
      refine And.imp_left (rs_bipush i_X7_apart_24 (v := (-2)) (by decide)) ?_
      have hf := Option.some.inj hf
      subst hf
      exact ⟨rs_iret i_X7_apart_26 m_X7_apart rfl, SH⟩
    · replace hf := (if_neg c4).symm.trans hf
      refine And.imp_left (rs_ifF i_X7_apart_11 (cf_eq c4)) ?_
      refine And.imp_left (rs_iload_n i_X7_apart_14 rfl) ?_
      refine And.imp_left (rs_iconst i_X7_apart_15 (v := 0) (by decide)) ?_
      refine And.imp_left (rs_bipush i_X7_apart_16 (v := 64) (by decide)) ?_
      obtain ⟨o5, e5, hf⟩ := bind_some hf
      obtain ⟨u5, SH2⟩ := k_X7_within (X := X) (d := d) (by omega) (by omega) SH e5
      refine And.imp_left (rs_inS i_X7_apart_18 (by decide) m_X7_within rfl (As := [.int v3, .int 0, .int 64]) (rest := []) rfl rfl (Nat.le_of_ble_eq_true rfl) u5 (st' := [.int o5.1]) rfl) ?_
      clear SH; have SH := SH2; clear SH2
      by_cases c6 : o5.1 ≠ 0
      · replace hf := (if_pos c6).symm.trans hf
        refine And.imp_left (rs_ifT i_X7_apart_21 (ct_ne c6) (tg := 27) (by decide)) ?_
        refine And.imp_left (rs_iload_n i_X7_apart_27 rfl) ?_
        refine And.imp_left (rs_iload_n i_X7_apart_28 rfl) ?_
        obtain ⟨o7, e7, hf⟩ := bind_some hf
        obtain ⟨u7, SH2⟩ := k_X7_placeBehind (X := X) (d := d) (by omega) (by omega) SH e7
        refine And.imp_left (rs_inS i_X7_apart_29 (by decide) m_X7_placeBehind rfl (As := [.int v1, .int v3]) (rest := []) rfl rfl (Nat.le_of_ble_eq_true rfl) u7 (st' := [.int o7.1]) rfl) ?_
        clear SH; have SH := SH2; clear SH2
        refine And.imp_left (rs_iload_n i_X7_apart_32 rfl) ?_
        refine And.imp_left (rs_iload_n i_X7_apart_33 rfl) ?_
        obtain ⟨o8, e8, hf⟩ := bind_some hf
        obtain ⟨u8, SH2⟩ := k_X7_placeBehind (X := X) (d := d) (by omega) (by omega) SH e8
        refine And.imp_left (rs_inS i_X7_apart_34 (by decide) m_X7_placeBehind rfl (As := [.int v2, .int v3]) (rest := [.int o7.1]) rfl rfl (Nat.le_of_ble_eq_true rfl) u8 (st' := [.int o8.1, .int o7.1]) rfl) ?_
        clear SH; have SH := SH2; clear SH2
        refine And.imp_left (rs_isub i_X7_apart_37) ?_
        refine And.imp_left (rs_abs i_X7_apart_38 (Nat.le_of_ble_eq_true rfl)) ?_
        have hf := Option.some.inj hf
        subst hf
        exact ⟨rs_iret i_X7_apart_41 m_X7_apart rfl, SH⟩
      · replace hf := (if_neg c6).symm.trans hf
        refine And.imp_left (rs_ifF i_X7_apart_21 (cf_ne c6)) ?_
        refine And.imp_left (rs_bipush i_X7_apart_24 (v := (-2)) (by decide)) ?_
        have hf := Option.some.inj hf
        subst hf
        exact ⟨rs_iret i_X7_apart_26 m_X7_apart rfl, SH⟩
noncomputable def g_X7_apart (n : Nat) (v1 : Int32) (v2 : Int32) (v3 : Int32) (h : Hp) : Option (Int32 × Hp) := g_X7_apart_0 n v1 v2 v3 h
theorem k_X7_apart {X : Nat → Int32} {d : Nat} (hd : 2 ≤ d) {L hi : Nat} (hh : 96 ≤ hi) {n : Nat} {v1 : Int32} {v2 : Int32} {v3 : Int32} {h : Hp} {o : (Int32 × Hp)}  (SH : SHP L hi h) (hf : g_X7_apart n v1 v2 v3 h = some o) : Calls X d 95 [.ref 16, .int v1, .int v2, .int v3] h (some (.int o.1), o.2) ∧ SHP L hi o.2 := by
  obtain ⟨d, rfl⟩ : ∃ z, d = z + 1 := ⟨d - 1, by omega⟩
  obtain ⟨r, S2⟩ := q_X7_apart_0 hd hh SH hf
  exact ⟨⟨_, rfl, r⟩, S2⟩
noncomputable def g_X7_parted_33 (n : Nat) : Nat → Int32 → Int32 → Int32 → Int32 → Hp → Option (Int32 × Hp)
  | 0, _, _, _, _, _ => none
  | m + 1, v3, v4, v5, v6, h =>
    if 64 < v6 then
      some ((-1), h)
    else
      if (if 0 ≤ (v4 - v5) then (v4 - v5) else 0 - (v4 - v5)) < v3 then
        (g_X7_placeBehind n v4 1 h).bind fun o3 =>
        (g_X7_placeBehind n v5 1 o3.2).bind fun o4 =>
        (g_X7_parted_33 n m) v3 o3.1 o4.1 (v6 + 1) o4.2
      else
        some (v6, h)
set_option maxRecDepth 100000 in
set_option maxHeartbeats 4000000 in
theorem q_X7_parted_33 {X : Nat → Int32} {d : Nat} (hd : 2 ≤ (d + 1)) {L hi : Nat} (hh : 96 ≤ hi) {n : Nat} : ∀ (m : Nat) (v3 : Int32) (v4 : Int32) (v5 : Int32) (v6 : Int32) (d1 : Int32) (d2 : Int32) (h : Hp) (o : (Int32 × Hp)), SHP L hi h → g_X7_parted_33 n m v3 v4 v5 v6 h = some o → Run X (d + 1) 96 33 [some (.ref 16), some (.int d1), some (.int d2), some (.int v3), some (.int v4), some (.int v5), some (.int v6)] [] h (some (.int o.1), o.2) ∧ SHP L hi o.2 := by
  intro m
  induction m with
  | zero => intro v3 v4 v5 v6 d1 d2 h o SH hf; cases hf
  | succ m ih =>
    intro v3 v4 v5 v6 d1 d2 h o SH hf
    rw [g_X7_parted_33] at hf
    refine And.imp_left (rs_iload i_X7_parted_33 rfl) ?_
    refine And.imp_left (rs_bipush i_X7_parted_35 (v := 64) (by decide)) ?_
    by_cases c1 : 64 < v6
    · replace hf := (if_pos c1).symm.trans hf
      refine And.imp_left (rs_icT i_X7_parted_37 (ct_gt c1) (tg := 77) (by decide)) ?_
      refine And.imp_left (rs_iconst i_X7_parted_77 (v := (-1)) (by decide)) ?_
      have hf := Option.some.inj hf
      subst hf
      exact ⟨rs_iret i_X7_parted_78 m_X7_parted rfl, SH⟩
    · replace hf := (if_neg c1).symm.trans hf
      refine And.imp_left (rs_icF i_X7_parted_37 (cf_gt c1)) ?_
      refine And.imp_left (rs_iload i_X7_parted_40 rfl) ?_
      refine And.imp_left (rs_iload i_X7_parted_42 rfl) ?_
      refine And.imp_left (rs_isub i_X7_parted_44) ?_
      refine And.imp_left (rs_abs i_X7_parted_45 (Nat.le_of_ble_eq_true rfl)) ?_
      refine And.imp_left (rs_iload_n i_X7_parted_48 rfl) ?_
      by_cases c2 : (if 0 ≤ (v4 - v5) then (v4 - v5) else 0 - (v4 - v5)) < v3
      · replace hf := (if_pos c2).symm.trans hf
        refine And.imp_left (rs_icT i_X7_parted_49 (ct_lt c2) (tg := 55) (by decide)) ?_
        refine And.imp_left (rs_iload i_X7_parted_55 rfl) ?_
        refine And.imp_left (rs_iconst i_X7_parted_57 (v := 1) (by decide)) ?_
        obtain ⟨o3, e3, hf⟩ := bind_some hf
        obtain ⟨u3, SH2⟩ := k_X7_placeBehind (X := X) (d := d) (by omega) (by omega) SH e3
        refine And.imp_left (rs_inS i_X7_parted_58 (by decide) m_X7_placeBehind rfl (As := [.int v4, .int 1]) (rest := []) rfl rfl (Nat.le_of_ble_eq_true rfl) u3 (st' := [.int o3.1]) rfl) ?_
        clear SH; have SH := SH2; clear SH2
        refine And.imp_left (rs_istore i_X7_parted_61 (Nat.le_of_ble_eq_true rfl) (lv' := [some (.ref 16), some (.int d1), some (.int d2), some (.int v3), some (.int o3.1), some (.int v5), some (.int v6)]) rfl) ?_
        refine And.imp_left (rs_iload i_X7_parted_63 rfl) ?_
        refine And.imp_left (rs_iconst i_X7_parted_65 (v := 1) (by decide)) ?_
        obtain ⟨o4, e4, hf⟩ := bind_some hf
        obtain ⟨u4, SH2⟩ := k_X7_placeBehind (X := X) (d := d) (by omega) (by omega) SH e4
        refine And.imp_left (rs_inS i_X7_parted_66 (by decide) m_X7_placeBehind rfl (As := [.int v5, .int 1]) (rest := []) rfl rfl (Nat.le_of_ble_eq_true rfl) u4 (st' := [.int o4.1]) rfl) ?_
        clear SH; have SH := SH2; clear SH2
        refine And.imp_left (rs_istore i_X7_parted_69 (Nat.le_of_ble_eq_true rfl) (lv' := [some (.ref 16), some (.int d1), some (.int d2), some (.int v3), some (.int o3.1), some (.int o4.1), some (.int v6)]) rfl) ?_
        refine And.imp_left (rs_iinc i_X7_parted_71 rfl (v := v6 + 1) rfl (Nat.le_of_ble_eq_true rfl) (lv' := [some (.ref 16), some (.int d1), some (.int d2), some (.int v3), some (.int o3.1), some (.int o4.1), some (.int (v6 + 1))]) rfl) ?_
        refine And.imp_left (rs_goto i_X7_parted_74 (tg := 33) (by decide)) ?_
        exact ih _ _ _ _ _ _ _ _ SH hf
      · replace hf := (if_neg c2).symm.trans hf
        refine And.imp_left (rs_icF i_X7_parted_49 (cf_lt c2)) ?_
        refine And.imp_left (rs_iload i_X7_parted_52 rfl) ?_
        have hf := Option.some.inj hf
        subst hf
        exact ⟨rs_iret i_X7_parted_54 m_X7_parted rfl, SH⟩
noncomputable def g_X7_parted_0 (n : Nat) (v1 : Int32) (v2 : Int32) (v3 : Int32) (h : Hp) : Option (Int32 × Hp) :=
  (g_X7_isPlace v1 h).bind fun o1 =>
  if o1.1 = 0 then
    some ((-2), o1.2)
  else
    (g_X7_isPlace v2 o1.2).bind fun o3 =>
    if o3.1 = 0 then
      some ((-2), o3.2)
    else
      (g_X7_isPlace v3 o3.2).bind fun o5 =>
      if o5.1 ≠ 0 then
        g_X7_parted_33 n n v3 v1 v2 0 o5.2
      else
        some ((-2), o5.2)
set_option maxRecDepth 100000 in
set_option maxHeartbeats 4000000 in
theorem q_X7_parted_0 {X : Nat → Int32} {d : Nat} (hd : 2 ≤ (d + 1)) {L hi : Nat} (hh : 96 ≤ hi) {n : Nat} {v1 : Int32} {v2 : Int32} {v3 : Int32} {h : Hp} {o : (Int32 × Hp)}  (SH : SHP L hi h) (hf : g_X7_parted_0 n v1 v2 v3 h = some o) : Run X (d + 1) 96 0 [some (.ref 16), some (.int v1), some (.int v2), some (.int v3), none, none, none] [] h (some (.int o.1), o.2) ∧ SHP L hi o.2 := by
  unfold g_X7_parted_0 at hf
  refine And.imp_left (rs_iload_n i_X7_parted_0 rfl) ?_
  obtain ⟨o1, e1, hf⟩ := bind_some hf
  obtain ⟨u1, SH2⟩ := k_X7_isPlace (X := X) (d := d) (by omega) (by omega) SH e1
  refine And.imp_left (rs_inS i_X7_parted_1 (by decide) m_X7_isPlace rfl (As := [.int v1]) (rest := []) rfl rfl (Nat.le_of_ble_eq_true rfl) u1 (st' := [.int o1.1]) rfl) ?_
  clear SH; have SH := SH2; clear SH2
  by_cases c2 : o1.1 = 0
  · replace hf := (if_pos c2).symm.trans hf
    refine And.imp_left (rs_ifT i_X7_parted_4 (ct_eq c2) (tg := 21) (by decide)) ?_
    refine And.imp_left (rs_bipush i_X7_parted_21 (v := (-2)) (by decide)) ?_
    have hf := Option.some.inj hf
    subst hf
    exact ⟨rs_iret i_X7_parted_23 m_X7_parted rfl, SH⟩
  · replace hf := (if_neg c2).symm.trans hf
    refine And.imp_left (rs_ifF i_X7_parted_4 (cf_eq c2)) ?_
    refine And.imp_left (rs_iload_n i_X7_parted_7 rfl) ?_
    obtain ⟨o3, e3, hf⟩ := bind_some hf
    obtain ⟨u3, SH2⟩ := k_X7_isPlace (X := X) (d := d) (by omega) (by omega) SH e3
    refine And.imp_left (rs_inS i_X7_parted_8 (by decide) m_X7_isPlace rfl (As := [.int v2]) (rest := []) rfl rfl (Nat.le_of_ble_eq_true rfl) u3 (st' := [.int o3.1]) rfl) ?_
    clear SH; have SH := SH2; clear SH2
    by_cases c4 : o3.1 = 0
    · replace hf := (if_pos c4).symm.trans hf
      refine And.imp_left (rs_ifT i_X7_parted_11 (ct_eq c4) (tg := 21) (by decide)) ?_
      refine And.imp_left (rs_bipush i_X7_parted_21 (v := (-2)) (by decide)) ?_
      have hf := Option.some.inj hf
      subst hf
      exact ⟨rs_iret i_X7_parted_23 m_X7_parted rfl, SH⟩
    · replace hf := (if_neg c4).symm.trans hf
      refine And.imp_left (rs_ifF i_X7_parted_11 (cf_eq c4)) ?_
      refine And.imp_left (rs_iload_n i_X7_parted_14 rfl) ?_
      obtain ⟨o5, e5, hf⟩ := bind_some hf
      obtain ⟨u5, SH2⟩ := k_X7_isPlace (X := X) (d := d) (by omega) (by omega) SH e5
      refine And.imp_left (rs_inS i_X7_parted_15 (by decide) m_X7_isPlace rfl (As := [.int v3]) (rest := []) rfl rfl (Nat.le_of_ble_eq_true rfl) u5 (st' := [.int o5.1]) rfl) ?_
      clear SH; have SH := SH2; clear SH2
      by_cases c6 : o5.1 ≠ 0
      · replace hf := (if_pos c6).symm.trans hf
        refine And.imp_left (rs_ifT i_X7_parted_18 (ct_ne c6) (tg := 24) (by decide)) ?_
        refine And.imp_left (rs_iload_n i_X7_parted_24 rfl) ?_
        refine And.imp_left (rs_istore i_X7_parted_25 (Nat.le_of_ble_eq_true rfl) (lv' := [some (.ref 16), some (.int v1), some (.int v2), some (.int v3), some (.int v1), none, none]) rfl) ?_
        refine And.imp_left (rs_iload_n i_X7_parted_27 rfl) ?_
        refine And.imp_left (rs_istore i_X7_parted_28 (Nat.le_of_ble_eq_true rfl) (lv' := [some (.ref 16), some (.int v1), some (.int v2), some (.int v3), some (.int v1), some (.int v2), none]) rfl) ?_
        refine And.imp_left (rs_iconst i_X7_parted_30 (v := 0) (by decide)) ?_
        refine And.imp_left (rs_istore i_X7_parted_31 (Nat.le_of_ble_eq_true rfl) (lv' := [some (.ref 16), some (.int v1), some (.int v2), some (.int v3), some (.int v1), some (.int v2), some (.int 0)]) rfl) ?_
        exact q_X7_parted_33 hd hh _ _ _ _ _ _ _ _ _ SH hf
      · replace hf := (if_neg c6).symm.trans hf
        refine And.imp_left (rs_ifF i_X7_parted_18 (cf_ne c6)) ?_
        refine And.imp_left (rs_bipush i_X7_parted_21 (v := (-2)) (by decide)) ?_
        have hf := Option.some.inj hf
        subst hf
        exact ⟨rs_iret i_X7_parted_23 m_X7_parted rfl, SH⟩
noncomputable def g_X7_parted (n : Nat) (v1 : Int32) (v2 : Int32) (v3 : Int32) (h : Hp) : Option (Int32 × Hp) := g_X7_parted_0 n v1 v2 v3 h
theorem k_X7_parted {X : Nat → Int32} {d : Nat} (hd : 2 ≤ d) {L hi : Nat} (hh : 96 ≤ hi) {n : Nat} {v1 : Int32} {v2 : Int32} {v3 : Int32} {h : Hp} {o : (Int32 × Hp)}  (SH : SHP L hi h) (hf : g_X7_parted n v1 v2 v3 h = some o) : Calls X d 96 [.ref 16, .int v1, .int v2, .int v3] h (some (.int o.1), o.2) ∧ SHP L hi o.2 := by
  obtain ⟨d, rfl⟩ : ∃ z, d = z + 1 := ⟨d - 1, by omega⟩
  obtain ⟨r, S2⟩ := q_X7_parted_0 hd hh SH hf
  exact ⟨⟨_, rfl, r⟩, S2⟩
noncomputable def g_X7_round_14 (n : Nat) : Nat → Int32 → Int32 → Int32 → Hp → Option (Int32 × Hp)
  | 0, _, _, _, _ => none
  | m + 1, v1, v2, v3, h =>
    if 64 < v3 then
      some ((-1), h)
    else
      (g_X7_placeBehind n v2 1 h).bind fun o2 =>
      if o2.1 ≠ v1 then
        (g_X7_round_14 n m) v1 o2.1 (v3 + 1) o2.2
      else
        some (v3, o2.2)
set_option maxRecDepth 100000 in
set_option maxHeartbeats 4000000 in
theorem q_X7_round_14 {X : Nat → Int32} {d : Nat} (hd : 2 ≤ (d + 1)) {L hi : Nat} (hh : 96 ≤ hi) {n : Nat} : ∀ (m : Nat) (v1 : Int32) (v2 : Int32) (v3 : Int32) (h : Hp) (o : (Int32 × Hp)), SHP L hi h → g_X7_round_14 n m v1 v2 v3 h = some o → Run X (d + 1) 97 14 [some (.ref 16), some (.int v1), some (.int v2), some (.int v3)] [] h (some (.int o.1), o.2) ∧ SHP L hi o.2 := by
  intro m
  induction m with
  | zero => intro v1 v2 v3 h o SH hf; cases hf
  | succ m ih =>
    intro v1 v2 v3 h o SH hf
    rw [g_X7_round_14] at hf
    refine And.imp_left (rs_iload_n i_X7_round_14 rfl) ?_
    refine And.imp_left (rs_bipush i_X7_round_15 (v := 64) (by decide)) ?_
    by_cases c1 : 64 < v3
    · replace hf := (if_pos c1).symm.trans hf
      refine And.imp_left (rs_icT i_X7_round_17 (ct_gt c1) (tg := 39) (by decide)) ?_
      refine And.imp_left (rs_iconst i_X7_round_39 (v := (-1)) (by decide)) ?_
      have hf := Option.some.inj hf
      subst hf
      exact ⟨rs_iret i_X7_round_40 m_X7_round rfl, SH⟩
    · replace hf := (if_neg c1).symm.trans hf
      refine And.imp_left (rs_icF i_X7_round_17 (cf_gt c1)) ?_
      refine And.imp_left (rs_iload_n i_X7_round_20 rfl) ?_
      refine And.imp_left (rs_iconst i_X7_round_21 (v := 1) (by decide)) ?_
      obtain ⟨o2, e2, hf⟩ := bind_some hf
      obtain ⟨u2, SH2⟩ := k_X7_placeBehind (X := X) (d := d) (by omega) (by omega) SH e2
      refine And.imp_left (rs_inS i_X7_round_22 (by decide) m_X7_placeBehind rfl (As := [.int v2, .int 1]) (rest := []) rfl rfl (Nat.le_of_ble_eq_true rfl) u2 (st' := [.int o2.1]) rfl) ?_
      clear SH; have SH := SH2; clear SH2
      refine And.imp_left (rs_istore_n i_X7_round_25 (Nat.le_of_ble_eq_true rfl) (lv' := [some (.ref 16), some (.int v1), some (.int o2.1), some (.int v3)]) rfl) ?_
      refine And.imp_left (rs_iload_n i_X7_round_26 rfl) ?_
      refine And.imp_left (rs_iload_n i_X7_round_27 rfl) ?_
      by_cases c3 : o2.1 ≠ v1
      · replace hf := (if_pos c3).symm.trans hf
        refine And.imp_left (rs_icT i_X7_round_28 (ct_ne c3) (tg := 33) (by decide)) ?_
        refine And.imp_left (rs_iinc i_X7_round_33 rfl (v := v3 + 1) rfl (Nat.le_of_ble_eq_true rfl) (lv' := [some (.ref 16), some (.int v1), some (.int o2.1), some (.int (v3 + 1))]) rfl) ?_
        refine And.imp_left (rs_goto i_X7_round_36 (tg := 14) (by decide)) ?_
        exact ih _ _ _ _ _ SH hf
      · replace hf := (if_neg c3).symm.trans hf
        refine And.imp_left (rs_icF i_X7_round_28 (cf_ne c3)) ?_
        refine And.imp_left (rs_iload_n i_X7_round_31 rfl) ?_
        have hf := Option.some.inj hf
        subst hf
        exact ⟨rs_iret i_X7_round_32 m_X7_round rfl, SH⟩
noncomputable def g_X7_round_0 (n : Nat) (v1 : Int32) (h : Hp) : Option (Int32 × Hp) :=
  (g_X7_isPlace v1 h).bind fun o1 =>
  if o1.1 ≠ 0 then
    g_X7_round_14 n n v1 v1 1 o1.2
  else
    some ((-2), o1.2)
set_option maxRecDepth 100000 in
set_option maxHeartbeats 4000000 in
theorem q_X7_round_0 {X : Nat → Int32} {d : Nat} (hd : 2 ≤ (d + 1)) {L hi : Nat} (hh : 96 ≤ hi) {n : Nat} {v1 : Int32} {h : Hp} {o : (Int32 × Hp)}  (SH : SHP L hi h) (hf : g_X7_round_0 n v1 h = some o) : Run X (d + 1) 97 0 [some (.ref 16), some (.int v1), none, none] [] h (some (.int o.1), o.2) ∧ SHP L hi o.2 := by
  unfold g_X7_round_0 at hf
  refine And.imp_left (rs_iload_n i_X7_round_0 rfl) ?_
  obtain ⟨o1, e1, hf⟩ := bind_some hf
  obtain ⟨u1, SH2⟩ := k_X7_isPlace (X := X) (d := d) (by omega) (by omega) SH e1
  refine And.imp_left (rs_inS i_X7_round_1 (by decide) m_X7_isPlace rfl (As := [.int v1]) (rest := []) rfl rfl (Nat.le_of_ble_eq_true rfl) u1 (st' := [.int o1.1]) rfl) ?_
  clear SH; have SH := SH2; clear SH2
  by_cases c2 : o1.1 ≠ 0
  · replace hf := (if_pos c2).symm.trans hf
    refine And.imp_left (rs_ifT i_X7_round_4 (ct_ne c2) (tg := 10) (by decide)) ?_
    refine And.imp_left (rs_iload_n i_X7_round_10 rfl) ?_
    refine And.imp_left (rs_istore_n i_X7_round_11 (Nat.le_of_ble_eq_true rfl) (lv' := [some (.ref 16), some (.int v1), some (.int v1), none]) rfl) ?_
    refine And.imp_left (rs_iconst i_X7_round_12 (v := 1) (by decide)) ?_
    refine And.imp_left (rs_istore_n i_X7_round_13 (Nat.le_of_ble_eq_true rfl) (lv' := [some (.ref 16), some (.int v1), some (.int v1), some (.int 1)]) rfl) ?_
    exact q_X7_round_14 hd hh _ _ _ _ _ _ SH hf
  · replace hf := (if_neg c2).symm.trans hf
    refine And.imp_left (rs_ifF i_X7_round_4 (cf_ne c2)) ?_
    refine And.imp_left (rs_bipush i_X7_round_7 (v := (-2)) (by decide)) ?_
    have hf := Option.some.inj hf
    subst hf
    exact ⟨rs_iret i_X7_round_9 m_X7_round rfl, SH⟩
noncomputable def g_X7_round (n : Nat) (v1 : Int32) (h : Hp) : Option (Int32 × Hp) := g_X7_round_0 n v1 h
theorem k_X7_round {X : Nat → Int32} {d : Nat} (hd : 2 ≤ d) {L hi : Nat} (hh : 96 ≤ hi) {n : Nat} {v1 : Int32} {h : Hp} {o : (Int32 × Hp)}  (SH : SHP L hi h) (hf : g_X7_round n v1 h = some o) : Calls X d 97 [.ref 16, .int v1] h (some (.int o.1), o.2) ∧ SHP L hi o.2 := by
  obtain ⟨d, rfl⟩ : ∃ z, d = z + 1 := ⟨d - 1, by omega⟩
  obtain ⟨r, S2⟩ := q_X7_round_0 hd hh SH hf
  exact ⟨⟨_, rfl, r⟩, S2⟩
noncomputable def g_X7_colour_35 (n : Nat) (K27 : Int32 → Int32 → Hp → Option Hp) : Nat → Int32 → Int32 → Int32 → Hp → Option Hp
  | 0, _, _, _, _ => none
  | m + 1, v2, v3, v4, h =>
    if 16 ≤ v4 then
      K27 v2 (v3 + 1) (hcp h 35 (ix 0) 34 (ix 0) (ix 16))
    else
      if inb (v4 / 2) 16 = true then
      if inb (15 - (v4 / 2)) 16 = true then
      if inb v4 16 = true then
      (g_X7_colour_35 n K27 m) v2 v3 (v4 + 1) (hsi h 35 (ix v4) ((gI h 34 (ix (v4 / 2))) + (gI h 34 (ix (15 - (v4 / 2))))))
      else none
      else none
      else none
set_option maxRecDepth 100000 in
set_option maxHeartbeats 4000000 in
theorem q_X7_colour_35 {X : Nat → Int32} {d : Nat} (hd : 0 ≤ d) {L hi : Nat} (hh : 96 ≤ hi) {n : Nat} {K27 : Int32 → Int32 → Hp → Option Hp} (HK27 : ∀ (v2 : Int32) (v3 : Int32) (d1 : Int32) (w4 : Option Value) (h : Hp) (o : Hp), SHP L hi h → K27 v2 v3 h = some o → Run X d 122 27 [some (.ref 16), some (.int d1), some (.int v2), some (.int v3), w4] [] h (none, o) ∧ SHP L hi o) : ∀ (m : Nat) (v2 : Int32) (v3 : Int32) (v4 : Int32) (d1 : Int32) (h : Hp) (o : Hp), SHP L hi h → g_X7_colour_35 n K27 m v2 v3 v4 h = some o → Run X d 122 35 [some (.ref 16), some (.int d1), some (.int v2), some (.int v3), some (.int v4)] [] h (none, o) ∧ SHP L hi o := by
  intro m
  induction m with
  | zero => intro v2 v3 v4 d1 h o SH hf; cases hf
  | succ m ih =>
    intro v2 v3 v4 d1 h o SH hf
    rw [g_X7_colour_35] at hf
    refine And.imp_left (rs_iload i_X7_colour_35 rfl) ?_
    refine And.imp_left (rs_bipush i_X7_colour_37 (v := 16) (by decide)) ?_
    by_cases c1 : 16 ≤ v4
    · replace hf := (if_pos c1).symm.trans hf
      refine And.imp_left (rs_icT i_X7_colour_39 (ct_ge c1) (tg := 77) (by decide)) ?_
      refine And.imp_left (rs_aload_n i_X7_colour_77 rfl) ?_
      refine And.imp_left (rs_getR i_X7_colour_78 (by decide) (by decide) (sO7 SH hh) (sR7_11 SH hh)) ?_
      refine And.imp_left (rs_iconst i_X7_colour_81 (v := 0) (by decide)) ?_
      refine And.imp_left (rs_aload_n i_X7_colour_82 rfl) ?_
      refine And.imp_left (rs_getR i_X7_colour_83 (by decide) (by decide) (sO7 SH hh) (sR7_10 SH hh)) ?_
      refine And.imp_left (rs_iconst i_X7_colour_86 (v := 0) (by decide)) ?_
      refine And.imp_left (rs_bipush i_X7_colour_87 (v := 16) (by decide)) ?_
      refine And.imp_left (rs_acp i_X7_colour_89 (mkCp (sA SH hh (k := 9) (n := 16) (by decide)) (sA SH hh (k := 9) (n := 16) (by decide)) (by decide)) (Nat.le_of_ble_eq_true rfl)) ?_
      have SH := shc SH 35 (ix 0) 34 (ix 0) (ix 16)
      refine And.imp_left (rs_iinc i_X7_colour_92 rfl (v := v3 + 1) rfl (Nat.le_of_ble_eq_true rfl) (lv' := [some (.ref 16), some (.int d1), some (.int v2), some (.int (v3 + 1)), some (.int v4)]) rfl) ?_
      refine And.imp_left (rs_goto i_X7_colour_95 (tg := 27) (by decide)) ?_
      exact HK27 _ _ _ _ _ _ SH hf
    · replace hf := (if_neg c1).symm.trans hf
      refine And.imp_left (rs_icF i_X7_colour_39 (cf_ge c1)) ?_
      refine And.imp_left (rs_aload_n i_X7_colour_42 rfl) ?_
      refine And.imp_left (rs_getR i_X7_colour_43 (by decide) (by decide) (sO7 SH hh) (sR7_11 SH hh)) ?_
      refine And.imp_left (rs_iload i_X7_colour_46 rfl) ?_
      refine And.imp_left (rs_aload_n i_X7_colour_48 rfl) ?_
      refine And.imp_left (rs_getR i_X7_colour_49 (by decide) (by decide) (sO7 SH hh) (sR7_10 SH hh)) ?_
      refine And.imp_left (rs_iload i_X7_colour_52 rfl) ?_
      refine And.imp_left (rs_iconst i_X7_colour_54 (v := 2) (by decide)) ?_
      refine And.imp_left (rs_idiv i_X7_colour_55 (by decide)) ?_
      obtain ⟨c2, hf⟩ := ite_some hf
      refine And.imp_left (rs_iald i_X7_colour_56 (mkI (sA SH hh (k := 9) (n := 16) (by decide)) c2)) ?_
      refine And.imp_left (rs_aload_n i_X7_colour_57 rfl) ?_
      refine And.imp_left (rs_getR i_X7_colour_58 (by decide) (by decide) (sO7 SH hh) (sR7_10 SH hh)) ?_
      refine And.imp_left (rs_bipush i_X7_colour_61 (v := 15) (by decide)) ?_
      refine And.imp_left (rs_iload i_X7_colour_63 rfl) ?_
      refine And.imp_left (rs_iconst i_X7_colour_65 (v := 2) (by decide)) ?_
      refine And.imp_left (rs_idiv i_X7_colour_66 (by decide)) ?_
      refine And.imp_left (rs_isub i_X7_colour_67) ?_
      obtain ⟨c3, hf⟩ := ite_some hf
      refine And.imp_left (rs_iald i_X7_colour_68 (mkI (sA SH hh (k := 9) (n := 16) (by decide)) c3)) ?_
      refine And.imp_left (rs_iadd i_X7_colour_69) ?_
      obtain ⟨c4, hf⟩ := ite_some hf
      refine And.imp_left (rs_iast i_X7_colour_70 (mkI (sA SH hh (k := 9) (n := 16) (by decide)) c4)) ?_
      have SH := shi SH 35 (ix v4) ((gI h 34 (ix (v4 / 2))) + (gI h 34 (ix (15 - (v4 / 2)))))
      refine And.imp_left (rs_iinc i_X7_colour_71 rfl (v := v4 + 1) rfl (Nat.le_of_ble_eq_true rfl) (lv' := [some (.ref 16), some (.int d1), some (.int v2), some (.int v3), some (.int (v4 + 1))]) rfl) ?_
      refine And.imp_left (rs_goto i_X7_colour_74 (tg := 35) (by decide)) ?_
      exact ih _ _ _ _ _ _ SH hf
noncomputable def g_X7_colour_27 (n : Nat) : Nat → Int32 → Int32 → Hp → Option Hp
  | 0, _, _, _ => none
  | m + 1, v2, v3, h =>
    if v2 ≤ v3 then
      some h
    else
      g_X7_colour_35 n (g_X7_colour_27 n m) n v2 v3 0 h
set_option maxRecDepth 100000 in
set_option maxHeartbeats 4000000 in
theorem q_X7_colour_27 {X : Nat → Int32} {d : Nat} (hd : 0 ≤ d) {L hi : Nat} (hh : 96 ≤ hi) {n : Nat} : ∀ (m : Nat) (v2 : Int32) (v3 : Int32) (d1 : Int32) (w4 : Option Value) (h : Hp) (o : Hp), SHP L hi h → g_X7_colour_27 n m v2 v3 h = some o → Run X d 122 27 [some (.ref 16), some (.int d1), some (.int v2), some (.int v3), w4] [] h (none, o) ∧ SHP L hi o := by
  intro m
  induction m with
  | zero => intro v2 v3 d1 w4 h o SH hf; cases hf
  | succ m ih =>
    intro v2 v3 d1 w4 h o SH hf
    rw [g_X7_colour_27] at hf
    refine And.imp_left (rs_iload_n i_X7_colour_27 rfl) ?_
    refine And.imp_left (rs_iload_n i_X7_colour_28 rfl) ?_
    by_cases c1 : v2 ≤ v3
    · replace hf := (if_pos c1).symm.trans hf
      refine And.imp_left (rs_icT i_X7_colour_29 (ct_ge c1) (tg := 98) (by decide)) ?_
      have hf := Option.some.inj hf
      subst hf
      exact ⟨rs_vret i_X7_colour_98 m_X7_colour rfl, SH⟩
    · replace hf := (if_neg c1).symm.trans hf
      refine And.imp_left (rs_icF i_X7_colour_29 (cf_ge c1)) ?_
      refine And.imp_left (rs_iconst i_X7_colour_32 (v := 0) (by decide)) ?_
      refine And.imp_left (rs_istore i_X7_colour_33 (Nat.le_of_ble_eq_true rfl) (lv' := [some (.ref 16), some (.int d1), some (.int v2), some (.int v3), some (.int 0)]) rfl) ?_
      exact q_X7_colour_35 hd hh ih _ _ _ _ _ _ _ SH hf
noncomputable def g_X7_colour_2 (n : Nat) : Nat → Int32 → Int32 → Int32 → Hp → Option Hp
  | 0, _, _, _, _ => none
  | m + 1, v1, v2, v3, h =>
    if 16 ≤ v3 then
      g_X7_colour_27 n n v2 0 h
    else
      if inb v3 16 = true then
      (g_X7_colour_2 n m) v1 v2 (v3 + 1) (hsi h 34 (ix v3) ((v1 >>> (v3 &&& 31)) &&& 1))
      else none
set_option maxRecDepth 100000 in
set_option maxHeartbeats 4000000 in
theorem q_X7_colour_2 {X : Nat → Int32} {d : Nat} (hd : 0 ≤ d) {L hi : Nat} (hh : 96 ≤ hi) {n : Nat} : ∀ (m : Nat) (v1 : Int32) (v2 : Int32) (v3 : Int32) (h : Hp) (o : Hp), SHP L hi h → g_X7_colour_2 n m v1 v2 v3 h = some o → Run X d 122 2 [some (.ref 16), some (.int v1), some (.int v2), some (.int v3), none] [] h (none, o) ∧ SHP L hi o := by
  intro m
  induction m with
  | zero => intro v1 v2 v3 h o SH hf; cases hf
  | succ m ih =>
    intro v1 v2 v3 h o SH hf
    rw [g_X7_colour_2] at hf
    refine And.imp_left (rs_iload_n i_X7_colour_2 rfl) ?_
    refine And.imp_left (rs_bipush i_X7_colour_3 (v := 16) (by decide)) ?_
    by_cases c1 : 16 ≤ v3
    · replace hf := (if_pos c1).symm.trans hf
      refine And.imp_left (rs_icT i_X7_colour_5 (ct_ge c1) (tg := 25) (by decide)) ?_
      refine And.imp_left (rs_iconst i_X7_colour_25 (v := 0) (by decide)) ?_
      refine And.imp_left (rs_istore_n i_X7_colour_26 (Nat.le_of_ble_eq_true rfl) (lv' := [some (.ref 16), some (.int v1), some (.int v2), some (.int 0), none]) rfl) ?_
      exact q_X7_colour_27 hd hh _ _ _ _ _ _ _ SH hf
    · replace hf := (if_neg c1).symm.trans hf
      refine And.imp_left (rs_icF i_X7_colour_5 (cf_ge c1)) ?_
      refine And.imp_left (rs_aload_n i_X7_colour_8 rfl) ?_
      refine And.imp_left (rs_getR i_X7_colour_9 (by decide) (by decide) (sO7 SH hh) (sR7_10 SH hh)) ?_
      refine And.imp_left (rs_iload_n i_X7_colour_12 rfl) ?_
      refine And.imp_left (rs_iload_n i_X7_colour_13 rfl) ?_
      refine And.imp_left (rs_iload_n i_X7_colour_14 rfl) ?_
      refine And.imp_left (rs_ishr i_X7_colour_15) ?_
      refine And.imp_left (rs_iconst i_X7_colour_16 (v := 1) (by decide)) ?_
      refine And.imp_left (rs_iand i_X7_colour_17) ?_
      obtain ⟨c2, hf⟩ := ite_some hf
      refine And.imp_left (rs_iast i_X7_colour_18 (mkI (sA SH hh (k := 9) (n := 16) (by decide)) c2)) ?_
      have SH := shi SH 34 (ix v3) ((v1 >>> (v3 &&& 31)) &&& 1)
      refine And.imp_left (rs_iinc i_X7_colour_19 rfl (v := v3 + 1) rfl (Nat.le_of_ble_eq_true rfl) (lv' := [some (.ref 16), some (.int v1), some (.int v2), some (.int (v3 + 1)), none]) rfl) ?_
      refine And.imp_left (rs_goto i_X7_colour_22 (tg := 2) (by decide)) ?_
      exact ih _ _ _ _ _ SH hf
noncomputable def g_X7_colour_0 (n : Nat) (v1 : Int32) (v2 : Int32) (h : Hp) : Option Hp :=
  g_X7_colour_2 n n v1 v2 0 h
set_option maxRecDepth 100000 in
set_option maxHeartbeats 4000000 in
theorem q_X7_colour_0 {X : Nat → Int32} {d : Nat} (hd : 0 ≤ d) {L hi : Nat} (hh : 96 ≤ hi) {n : Nat} {v1 : Int32} {v2 : Int32} {h : Hp} {o : Hp}  (SH : SHP L hi h) (hf : g_X7_colour_0 n v1 v2 h = some o) : Run X d 122 0 [some (.ref 16), some (.int v1), some (.int v2), none, none] [] h (none, o) ∧ SHP L hi o := by
  unfold g_X7_colour_0 at hf
  refine And.imp_left (rs_iconst i_X7_colour_0 (v := 0) (by decide)) ?_
  refine And.imp_left (rs_istore_n i_X7_colour_1 (Nat.le_of_ble_eq_true rfl) (lv' := [some (.ref 16), some (.int v1), some (.int v2), some (.int 0), none]) rfl) ?_
  exact q_X7_colour_2 hd hh _ _ _ _ _ _ SH hf
noncomputable def g_X7_colour (n : Nat) (v1 : Int32) (v2 : Int32) (h : Hp) : Option Hp := g_X7_colour_0 n v1 v2 h
theorem k_X7_colour {X : Nat → Int32} {d : Nat} (hd : 0 ≤ d) {L hi : Nat} (hh : 96 ≤ hi) {n : Nat} {v1 : Int32} {v2 : Int32} {h : Hp} {o : Hp}  (SH : SHP L hi h) (hf : g_X7_colour n v1 v2 h = some o) : Calls X d 122 [.ref 16, .int v1, .int v2] h (none, o) ∧ SHP L hi o := by
  obtain ⟨r, S2⟩ := q_X7_colour_0 hd hh SH hf
  exact ⟨⟨_, rfl, r⟩, S2⟩
noncomputable def g_X7_colours_118 (n : Nat) (K61 : Int32 → Int32 → Int32 → Int32 → Int32 → Int32 → Hp → Option (Int32 × Hp)) (v2 : Int32) (v3 : Int32) (v4 : Int32) (v5 : Int32) (v6 : Int32) (v7 : Int32) (h : Hp) : Option (Int32 × Hp) :=
  K61 v2 v3 v4 v5 v6 (v7 + 1) h
set_option maxRecDepth 100000 in
set_option maxHeartbeats 4000000 in
theorem q_X7_colours_118 {X : Nat → Int32} {d : Nat} (hd : 1 ≤ (d + 1)) {L hi : Nat} (hh : 96 ≤ hi) {n : Nat} {K61 : Int32 → Int32 → Int32 → Int32 → Int32 → Int32 → Hp → Option (Int32 × Hp)} (HK61 : ∀ (v2 : Int32) (v3 : Int32) (v4 : Int32) (v5 : Int32) (v6 : Int32) (v7 : Int32) (d1 : Int32) (h : Hp) (o : (Int32 × Hp)), SHP L hi h → K61 v2 v3 v4 v5 v6 v7 h = some o → Run X (d + 1) 98 61 [some (.ref 16), some (.int d1), some (.int v2), some (.int v3), some (.int v4), some (.int v5), some (.int v6), some (.int v7)] [] h (some (.int o.1), o.2) ∧ SHP L hi o.2) {v2 : Int32} {v3 : Int32} {v4 : Int32} {v5 : Int32} {v6 : Int32} {v7 : Int32} {d1 : Int32} {h : Hp} {o : (Int32 × Hp)}  (SH : SHP L hi h) (hf : g_X7_colours_118 n K61 v2 v3 v4 v5 v6 v7 h = some o) : Run X (d + 1) 98 118 [some (.ref 16), some (.int d1), some (.int v2), some (.int v3), some (.int v4), some (.int v5), some (.int v6), some (.int v7)] [] h (some (.int o.1), o.2) ∧ SHP L hi o.2 := by
  unfold g_X7_colours_118 at hf
  refine And.imp_left (rs_iinc i_X7_colours_118 rfl (v := v7 + 1) rfl (Nat.le_of_ble_eq_true rfl) (lv' := [some (.ref 16), some (.int d1), some (.int v2), some (.int v3), some (.int v4), some (.int v5), some (.int v6), some (.int (v7 + 1))]) rfl) ?_
  refine And.imp_left (rs_goto i_X7_colours_121 (tg := 61) (by decide)) ?_
  exact HK61 _ _ _ _ _ _ _ _ _ SH hf
noncomputable def g_X7_colours_96 (n : Nat) (K61 : Int32 → Int32 → Int32 → Int32 → Int32 → Int32 → Hp → Option (Int32 × Hp)) (v2 : Int32) (v3 : Int32) (v4 : Int32) (v5 : Int32) (v6 : Int32) (v7 : Int32) (h : Hp) : Option (Int32 × Hp) :=
  if inb v7 16 = true then
  (g_X7_within (gI h 34 (ix v7)) 1 ((1 <<< (v2 &&& 31)) - 1) h).bind fun o2 =>
  if o2.1 = 0 then
    g_X7_colours_118 n K61 v2 v3 v4 v5 v6 v7 o2.2
  else
    g_X7_colours_118 n K61 v2 v3 v4 v5 (v6 + 1) v7 o2.2
  else none
set_option maxRecDepth 100000 in
set_option maxHeartbeats 4000000 in
theorem q_X7_colours_96 {X : Nat → Int32} {d : Nat} (hd : 1 ≤ (d + 1)) {L hi : Nat} (hh : 96 ≤ hi) {n : Nat} {K61 : Int32 → Int32 → Int32 → Int32 → Int32 → Int32 → Hp → Option (Int32 × Hp)} (HK61 : ∀ (v2 : Int32) (v3 : Int32) (v4 : Int32) (v5 : Int32) (v6 : Int32) (v7 : Int32) (d1 : Int32) (h : Hp) (o : (Int32 × Hp)), SHP L hi h → K61 v2 v3 v4 v5 v6 v7 h = some o → Run X (d + 1) 98 61 [some (.ref 16), some (.int d1), some (.int v2), some (.int v3), some (.int v4), some (.int v5), some (.int v6), some (.int v7)] [] h (some (.int o.1), o.2) ∧ SHP L hi o.2) {v2 : Int32} {v3 : Int32} {v4 : Int32} {v5 : Int32} {v6 : Int32} {v7 : Int32} {d1 : Int32} {h : Hp} {o : (Int32 × Hp)}  (SH : SHP L hi h) (hf : g_X7_colours_96 n K61 v2 v3 v4 v5 v6 v7 h = some o) : Run X (d + 1) 98 96 [some (.ref 16), some (.int d1), some (.int v2), some (.int v3), some (.int v4), some (.int v5), some (.int v6), some (.int v7)] [] h (some (.int o.1), o.2) ∧ SHP L hi o.2 := by
  unfold g_X7_colours_96 at hf
  refine And.imp_left (rs_aload_n i_X7_colours_96 rfl) ?_
  refine And.imp_left (rs_getR i_X7_colours_97 (by decide) (by decide) (sO7 SH hh) (sR7_10 SH hh)) ?_
  refine And.imp_left (rs_iload i_X7_colours_100 rfl) ?_
  obtain ⟨c1, hf⟩ := ite_some hf
  refine And.imp_left (rs_iald i_X7_colours_102 (mkI (sA SH hh (k := 9) (n := 16) (by decide)) c1)) ?_
  refine And.imp_left (rs_iconst i_X7_colours_103 (v := 1) (by decide)) ?_
  refine And.imp_left (rs_iconst i_X7_colours_104 (v := 1) (by decide)) ?_
  refine And.imp_left (rs_iload_n i_X7_colours_105 rfl) ?_
  refine And.imp_left (rs_ishl i_X7_colours_106) ?_
  refine And.imp_left (rs_iconst i_X7_colours_107 (v := 1) (by decide)) ?_
  refine And.imp_left (rs_isub i_X7_colours_108) ?_
  obtain ⟨o2, e2, hf⟩ := bind_some hf
  obtain ⟨u2, SH2⟩ := k_X7_within (X := X) (d := d) (by omega) (by omega) SH e2
  refine And.imp_left (rs_inS i_X7_colours_109 (by decide) m_X7_within rfl (As := [.int (gI h 34 (ix v7)), .int 1, .int ((1 <<< (v2 &&& 31)) - 1)]) (rest := []) rfl rfl (Nat.le_of_ble_eq_true rfl) u2 (st' := [.int o2.1]) rfl) ?_
  clear SH; have SH := SH2; clear SH2
  by_cases c3 : o2.1 = 0
  · replace hf := (if_pos c3).symm.trans hf
    refine And.imp_left (rs_ifT i_X7_colours_112 (ct_eq c3) (tg := 118) (by decide)) ?_
    exact q_X7_colours_118 hd hh HK61 SH hf
  · replace hf := (if_neg c3).symm.trans hf
    refine And.imp_left (rs_ifF i_X7_colours_112 (cf_eq c3)) ?_
    refine And.imp_left (rs_iinc i_X7_colours_115 rfl (v := v6 + 1) rfl (Nat.le_of_ble_eq_true rfl) (lv' := [some (.ref 16), some (.int d1), some (.int v2), some (.int v3), some (.int v4), some (.int v5), some (.int (v6 + 1)), some (.int v7)]) rfl) ?_
    exact q_X7_colours_118 hd hh HK61 SH hf
noncomputable def g_X7_colours_82 (n : Nat) (K61 : Int32 → Int32 → Int32 → Int32 → Int32 → Int32 → Hp → Option (Int32 × Hp)) (v2 : Int32) (v3 : Int32) (v4 : Int32) (v5 : Int32) (v6 : Int32) (v7 : Int32) (h : Hp) : Option (Int32 × Hp) :=
  if inb v7 16 = true then
  g_X7_colours_96 n K61 v2 v3 v4 (if v5 < (gI h 34 (ix v7)) then (gI h 34 (ix v7)) else v5) v6 v7 h
  else none
set_option maxRecDepth 100000 in
set_option maxHeartbeats 4000000 in
theorem q_X7_colours_82 {X : Nat → Int32} {d : Nat} (hd : 1 ≤ (d + 1)) {L hi : Nat} (hh : 96 ≤ hi) {n : Nat} {K61 : Int32 → Int32 → Int32 → Int32 → Int32 → Int32 → Hp → Option (Int32 × Hp)} (HK61 : ∀ (v2 : Int32) (v3 : Int32) (v4 : Int32) (v5 : Int32) (v6 : Int32) (v7 : Int32) (d1 : Int32) (h : Hp) (o : (Int32 × Hp)), SHP L hi h → K61 v2 v3 v4 v5 v6 v7 h = some o → Run X (d + 1) 98 61 [some (.ref 16), some (.int d1), some (.int v2), some (.int v3), some (.int v4), some (.int v5), some (.int v6), some (.int v7)] [] h (some (.int o.1), o.2) ∧ SHP L hi o.2) {v2 : Int32} {v3 : Int32} {v4 : Int32} {v5 : Int32} {v6 : Int32} {v7 : Int32} {d1 : Int32} {h : Hp} {o : (Int32 × Hp)}  (SH : SHP L hi h) (hf : g_X7_colours_82 n K61 v2 v3 v4 v5 v6 v7 h = some o) : Run X (d + 1) 98 82 [some (.ref 16), some (.int d1), some (.int v2), some (.int v3), some (.int v4), some (.int v5), some (.int v6), some (.int v7)] [] h (some (.int o.1), o.2) ∧ SHP L hi o.2 := by
  unfold g_X7_colours_82 at hf
  refine And.imp_left (rs_iload i_X7_colours_82 rfl) ?_
  refine And.imp_left (rs_aload_n i_X7_colours_84 rfl) ?_
  refine And.imp_left (rs_getR i_X7_colours_85 (by decide) (by decide) (sO7 SH hh) (sR7_10 SH hh)) ?_
  refine And.imp_left (rs_iload i_X7_colours_88 rfl) ?_
  obtain ⟨c1, hf⟩ := ite_some hf
  refine And.imp_left (rs_iald i_X7_colours_90 (mkI (sA SH hh (k := 9) (n := 16) (by decide)) c1)) ?_
  refine And.imp_left (rs_max i_X7_colours_91 (Nat.le_of_ble_eq_true rfl)) ?_
  refine And.imp_left (rs_istore i_X7_colours_94 (Nat.le_of_ble_eq_true rfl) (lv' := [some (.ref 16), some (.int d1), some (.int v2), some (.int v3), some (.int v4), some (.int (if v5 < (gI h 34 (ix v7)) then (gI h 34 (ix v7)) else v5)), some (.int v6), some (.int v7)]) rfl) ?_
  exact q_X7_colours_96 hd hh HK61 SH hf
noncomputable def g_X7_colours_61 (n : Nat) : Nat → Int32 → Int32 → Int32 → Int32 → Int32 → Int32 → Hp → Option (Int32 × Hp)
  | 0, _, _, _, _, _, _, _ => none
  | m + 1, v2, v3, v4, v5, v6, v7, h =>
    if 16 ≤ v7 then
      if v3 ≠ 0 then
        if v3 ≠ 1 then
          some (v6, h)
        else
          some (v5, h)
      else
        some (v4, h)
    else
      if inb v7 16 = true then
      g_X7_colours_82 n (g_X7_colours_61 n m) v2 v3 (if (gI h 34 (ix v7)) < v4 then (gI h 34 (ix v7)) else v4) v5 v6 v7 h
      else none
set_option maxRecDepth 100000 in
set_option maxHeartbeats 4000000 in
theorem q_X7_colours_61 {X : Nat → Int32} {d : Nat} (hd : 1 ≤ (d + 1)) {L hi : Nat} (hh : 96 ≤ hi) {n : Nat} : ∀ (m : Nat) (v2 : Int32) (v3 : Int32) (v4 : Int32) (v5 : Int32) (v6 : Int32) (v7 : Int32) (d1 : Int32) (h : Hp) (o : (Int32 × Hp)), SHP L hi h → g_X7_colours_61 n m v2 v3 v4 v5 v6 v7 h = some o → Run X (d + 1) 98 61 [some (.ref 16), some (.int d1), some (.int v2), some (.int v3), some (.int v4), some (.int v5), some (.int v6), some (.int v7)] [] h (some (.int o.1), o.2) ∧ SHP L hi o.2 := by
  intro m
  induction m with
  | zero => intro v2 v3 v4 v5 v6 v7 d1 h o SH hf; cases hf
  | succ m ih =>
    intro v2 v3 v4 v5 v6 v7 d1 h o SH hf
    rw [g_X7_colours_61] at hf
    refine And.imp_left (rs_iload i_X7_colours_61 rfl) ?_
    refine And.imp_left (rs_bipush i_X7_colours_63 (v := 16) (by decide)) ?_
    by_cases c1 : 16 ≤ v7
    · replace hf := (if_pos c1).symm.trans hf
      refine And.imp_left (rs_icT i_X7_colours_65 (ct_ge c1) (tg := 124) (by decide)) ?_
      refine And.imp_left (rs_iload_n i_X7_colours_124 rfl) ?_
      by_cases c2 : v3 ≠ 0
      · replace hf := (if_pos c2).symm.trans hf
        refine And.imp_left (rs_ifT i_X7_colours_125 (ct_ne c2) (tg := 133) (by decide)) ?_
        refine And.imp_left (rs_iload_n i_X7_colours_133 rfl) ?_
        refine And.imp_left (rs_iconst i_X7_colours_134 (v := 1) (by decide)) ?_
        by_cases c3 : v3 ≠ 1
        · replace hf := (if_pos c3).symm.trans hf
          refine And.imp_left (rs_icT i_X7_colours_135 (ct_ne c3) (tg := 143) (by decide)) ?_
          refine And.imp_left (rs_iload i_X7_colours_143 rfl) ?_
          have hf := Option.some.inj hf
          subst hf
          exact ⟨rs_iret i_X7_colours_145 m_X7_colours rfl, SH⟩
        · replace hf := (if_neg c3).symm.trans hf
          refine And.imp_left (rs_icF i_X7_colours_135 (cf_ne c3)) ?_
          refine And.imp_left (rs_iload i_X7_colours_138 rfl) ?_
          refine And.imp_left (rs_goto i_X7_colours_140 (tg := 145) (by decide)) ?_
          have hf := Option.some.inj hf
          subst hf
          exact ⟨rs_iret i_X7_colours_145 m_X7_colours rfl, SH⟩
      · replace hf := (if_neg c2).symm.trans hf
        refine And.imp_left (rs_ifF i_X7_colours_125 (cf_ne c2)) ?_
        refine And.imp_left (rs_iload i_X7_colours_128 rfl) ?_
        refine And.imp_left (rs_goto i_X7_colours_130 (tg := 145) (by decide)) ?_
        have hf := Option.some.inj hf
        subst hf
        exact ⟨rs_iret i_X7_colours_145 m_X7_colours rfl, SH⟩
    · replace hf := (if_neg c1).symm.trans hf
      refine And.imp_left (rs_icF i_X7_colours_65 (cf_ge c1)) ?_
      refine And.imp_left (rs_iload i_X7_colours_68 rfl) ?_
      refine And.imp_left (rs_aload_n i_X7_colours_70 rfl) ?_
      refine And.imp_left (rs_getR i_X7_colours_71 (by decide) (by decide) (sO7 SH hh) (sR7_10 SH hh)) ?_
      refine And.imp_left (rs_iload i_X7_colours_74 rfl) ?_
      obtain ⟨c4, hf⟩ := ite_some hf
      refine And.imp_left (rs_iald i_X7_colours_76 (mkI (sA SH hh (k := 9) (n := 16) (by decide)) c4)) ?_
      refine And.imp_left (rs_min i_X7_colours_77 (Nat.le_of_ble_eq_true rfl)) ?_
      refine And.imp_left (rs_istore i_X7_colours_80 (Nat.le_of_ble_eq_true rfl) (lv' := [some (.ref 16), some (.int d1), some (.int v2), some (.int v3), some (.int (if (gI h 34 (ix v7)) < v4 then (gI h 34 (ix v7)) else v4)), some (.int v5), some (.int v6), some (.int v7)]) rfl) ?_
      exact q_X7_colours_82 hd hh ih SH hf
noncomputable def g_X7_colours_0 (n : Nat) (v1 : Int32) (v2 : Int32) (v3 : Int32) (h : Hp) : Option (Int32 × Hp) :=
  (g_X7_within v1 0 65535 h).bind fun o1 =>
  if o1.1 = 0 then
    some ((-2), o1.2)
  else
    (g_X7_within v2 0 10 o1.2).bind fun o3 =>
    if o3.1 = 0 then
      some ((-2), o3.2)
    else
      (g_X7_within v3 0 2 o3.2).bind fun o5 =>
      if o5.1 ≠ 0 then
        (g_X7_colour n v1 v2 o5.2).bind fun o7 =>
        g_X7_colours_61 n n v2 v3 (gI o7 34 (ix 0)) (gI o7 34 (ix 0)) 0 0 o7
      else
        some ((-2), o5.2)
set_option maxRecDepth 100000 in
set_option maxHeartbeats 4000000 in
theorem q_X7_colours_0 {X : Nat → Int32} {d : Nat} (hd : 1 ≤ (d + 1)) {L hi : Nat} (hh : 96 ≤ hi) {n : Nat} {v1 : Int32} {v2 : Int32} {v3 : Int32} {h : Hp} {o : (Int32 × Hp)}  (SH : SHP L hi h) (hf : g_X7_colours_0 n v1 v2 v3 h = some o) : Run X (d + 1) 98 0 [some (.ref 16), some (.int v1), some (.int v2), some (.int v3), none, none, none, none] [] h (some (.int o.1), o.2) ∧ SHP L hi o.2 := by
  unfold g_X7_colours_0 at hf
  refine And.imp_left (rs_iload_n i_X7_colours_0 rfl) ?_
  refine And.imp_left (rs_iconst i_X7_colours_1 (v := 0) (by decide)) ?_
  refine And.imp_left (rs_ldcw i_X7_colours_2 (v := 65535) (by decide)) ?_
  obtain ⟨o1, e1, hf⟩ := bind_some hf
  obtain ⟨u1, SH2⟩ := k_X7_within (X := X) (d := d) (by omega) (by omega) SH e1
  refine And.imp_left (rs_inS i_X7_colours_5 (by decide) m_X7_within rfl (As := [.int v1, .int 0, .int 65535]) (rest := []) rfl rfl (Nat.le_of_ble_eq_true rfl) u1 (st' := [.int o1.1]) rfl) ?_
  clear SH; have SH := SH2; clear SH2
  by_cases c2 : o1.1 = 0
  · replace hf := (if_pos c2).symm.trans hf
    refine And.imp_left (rs_ifT i_X7_colours_8 (ct_eq c2) (tg := 30) (by decide)) ?_
    refine And.imp_left (rs_bipush i_X7_colours_30 (v := (-2)) (by decide)) ?_
    have hf := Option.some.inj hf
    subst hf
    exact ⟨rs_iret i_X7_colours_32 m_X7_colours rfl, SH⟩
  · replace hf := (if_neg c2).symm.trans hf
    refine And.imp_left (rs_ifF i_X7_colours_8 (cf_eq c2)) ?_
    refine And.imp_left (rs_iload_n i_X7_colours_11 rfl) ?_
    refine And.imp_left (rs_iconst i_X7_colours_12 (v := 0) (by decide)) ?_
    refine And.imp_left (rs_bipush i_X7_colours_13 (v := 10) (by decide)) ?_
    obtain ⟨o3, e3, hf⟩ := bind_some hf
    obtain ⟨u3, SH2⟩ := k_X7_within (X := X) (d := d) (by omega) (by omega) SH e3
    refine And.imp_left (rs_inS i_X7_colours_15 (by decide) m_X7_within rfl (As := [.int v2, .int 0, .int 10]) (rest := []) rfl rfl (Nat.le_of_ble_eq_true rfl) u3 (st' := [.int o3.1]) rfl) ?_
    clear SH; have SH := SH2; clear SH2
    by_cases c4 : o3.1 = 0
    · replace hf := (if_pos c4).symm.trans hf
      refine And.imp_left (rs_ifT i_X7_colours_18 (ct_eq c4) (tg := 30) (by decide)) ?_
      refine And.imp_left (rs_bipush i_X7_colours_30 (v := (-2)) (by decide)) ?_
      have hf := Option.some.inj hf
      subst hf
      exact ⟨rs_iret i_X7_colours_32 m_X7_colours rfl, SH⟩
    · replace hf := (if_neg c4).symm.trans hf
      refine And.imp_left (rs_ifF i_X7_colours_18 (cf_eq c4)) ?_
      refine And.imp_left (rs_iload_n i_X7_colours_21 rfl) ?_
      refine And.imp_left (rs_iconst i_X7_colours_22 (v := 0) (by decide)) ?_
      refine And.imp_left (rs_iconst i_X7_colours_23 (v := 2) (by decide)) ?_
      obtain ⟨o5, e5, hf⟩ := bind_some hf
      obtain ⟨u5, SH2⟩ := k_X7_within (X := X) (d := d) (by omega) (by omega) SH e5
      refine And.imp_left (rs_inS i_X7_colours_24 (by decide) m_X7_within rfl (As := [.int v3, .int 0, .int 2]) (rest := []) rfl rfl (Nat.le_of_ble_eq_true rfl) u5 (st' := [.int o5.1]) rfl) ?_
      clear SH; have SH := SH2; clear SH2
      by_cases c6 : o5.1 ≠ 0
      · replace hf := (if_pos c6).symm.trans hf
        refine And.imp_left (rs_ifT i_X7_colours_27 (ct_ne c6) (tg := 33) (by decide)) ?_
        refine And.imp_left (rs_aload_n i_X7_colours_33 rfl) ?_
        refine And.imp_left (rs_iload_n i_X7_colours_34 rfl) ?_
        refine And.imp_left (rs_iload_n i_X7_colours_35 rfl) ?_
        obtain ⟨o7, e7, hf⟩ := bind_some hf
        obtain ⟨u7, SH2⟩ := k_X7_colour (X := X) (d := d) (by omega) (by omega) SH e7
        refine And.imp_left (rs_inV i_X7_colours_36 m_X7_colour rfl (As := [.int v1, .int v2]) (rest := []) rfl rfl (Nat.le_of_ble_eq_true rfl) (sO7 SH hh) u7 (st' := []) rfl) ?_
        clear SH; have SH := SH2; clear SH2
        refine And.imp_left (rs_aload_n i_X7_colours_39 rfl) ?_
        refine And.imp_left (rs_getR i_X7_colours_40 (by decide) (by decide) (sO7 SH hh) (sR7_10 SH hh)) ?_
        refine And.imp_left (rs_iconst i_X7_colours_43 (v := 0) (by decide)) ?_
        refine And.imp_left (rs_iald i_X7_colours_44 (mkI (sA SH hh (k := 9) (n := 16) (by decide)) (by decide))) ?_
        refine And.imp_left (rs_istore i_X7_colours_45 (Nat.le_of_ble_eq_true rfl) (lv' := [some (.ref 16), some (.int v1), some (.int v2), some (.int v3), some (.int (gI o7 34 (ix 0))), none, none, none]) rfl) ?_
        refine And.imp_left (rs_aload_n i_X7_colours_47 rfl) ?_
        refine And.imp_left (rs_getR i_X7_colours_48 (by decide) (by decide) (sO7 SH hh) (sR7_10 SH hh)) ?_
        refine And.imp_left (rs_iconst i_X7_colours_51 (v := 0) (by decide)) ?_
        refine And.imp_left (rs_iald i_X7_colours_52 (mkI (sA SH hh (k := 9) (n := 16) (by decide)) (by decide))) ?_
        refine And.imp_left (rs_istore i_X7_colours_53 (Nat.le_of_ble_eq_true rfl) (lv' := [some (.ref 16), some (.int v1), some (.int v2), some (.int v3), some (.int (gI o7 34 (ix 0))), some (.int (gI o7 34 (ix 0))), none, none]) rfl) ?_
        refine And.imp_left (rs_iconst i_X7_colours_55 (v := 0) (by decide)) ?_
        refine And.imp_left (rs_istore i_X7_colours_56 (Nat.le_of_ble_eq_true rfl) (lv' := [some (.ref 16), some (.int v1), some (.int v2), some (.int v3), some (.int (gI o7 34 (ix 0))), some (.int (gI o7 34 (ix 0))), some (.int 0), none]) rfl) ?_
        refine And.imp_left (rs_iconst i_X7_colours_58 (v := 0) (by decide)) ?_
        refine And.imp_left (rs_istore i_X7_colours_59 (Nat.le_of_ble_eq_true rfl) (lv' := [some (.ref 16), some (.int v1), some (.int v2), some (.int v3), some (.int (gI o7 34 (ix 0))), some (.int (gI o7 34 (ix 0))), some (.int 0), some (.int 0)]) rfl) ?_
        exact q_X7_colours_61 hd hh _ _ _ _ _ _ _ _ _ _ SH hf
      · replace hf := (if_neg c6).symm.trans hf
        refine And.imp_left (rs_ifF i_X7_colours_27 (cf_ne c6)) ?_
        refine And.imp_left (rs_bipush i_X7_colours_30 (v := (-2)) (by decide)) ?_
        have hf := Option.some.inj hf
        subst hf
        exact ⟨rs_iret i_X7_colours_32 m_X7_colours rfl, SH⟩
noncomputable def g_X7_colours (n : Nat) (v1 : Int32) (v2 : Int32) (v3 : Int32) (h : Hp) : Option (Int32 × Hp) := g_X7_colours_0 n v1 v2 v3 h
theorem k_X7_colours {X : Nat → Int32} {d : Nat} (hd : 1 ≤ d) {L hi : Nat} (hh : 96 ≤ hi) {n : Nat} {v1 : Int32} {v2 : Int32} {v3 : Int32} {h : Hp} {o : (Int32 × Hp)}  (SH : SHP L hi h) (hf : g_X7_colours n v1 v2 v3 h = some o) : Calls X d 98 [.ref 16, .int v1, .int v2, .int v3] h (some (.int o.1), o.2) ∧ SHP L hi o.2 := by
  obtain ⟨d, rfl⟩ : ∃ z, d = z + 1 := ⟨d - 1, by omega⟩
  obtain ⟨r, S2⟩ := q_X7_colours_0 hd hh SH hf
  exact ⟨⟨_, rfl, r⟩, S2⟩
noncomputable def g_X7_inLowestTerms_55 (n : Nat) (v5 : Int64) (s0 : Int64) (h : Hp) : Option (Int64 × Hp) :=
  (g_X7_quotient s0 v5 h).bind fun o1 =>
  some (o1.1, o1.2)
set_option maxRecDepth 100000 in
set_option maxHeartbeats 4000000 in
theorem q_X7_inLowestTerms_55 {X : Nat → Int32} {d : Nat} (hd : 1 ≤ (d + 1)) {L hi : Nat} (hh : 96 ≤ hi) {n : Nat} {v5 : Int64} {s0 : Int64} {d0 : Int64} {d2 : Int64} {d4 : Int32} {d7 : Int64} {d9 : Int32} {w10 : Option Value} {w11 : Option Value} {h : Hp} {o : (Int64 × Hp)}  (SH : SHP L hi h) (hf : g_X7_inLowestTerms_55 n v5 s0 h = some o) : Run X (d + 1) 124 55 [some (.long d0), none, some (.long d2), none, some (.int d4), some (.long v5), none, some (.long d7), none, some (.int d9), w10, w11] [.long s0] h (some (.long o.1), o.2) ∧ SHP L hi o.2 := by
  unfold g_X7_inLowestTerms_55 at hf
  refine And.imp_left (rs_lload i_X7_inLowestTerms_55 rfl) ?_
  obtain ⟨o1, e1, hf⟩ := bind_some hf
  obtain ⟨u1, SH2⟩ := k_X7_quotient (X := X) (d := d) (by omega) (by omega) SH e1
  refine And.imp_left (rs_inS i_X7_inLowestTerms_57 (by decide) m_X7_quotient rfl (As := [.long s0, .long v5]) (rest := []) rfl rfl (Nat.le_of_ble_eq_true rfl) u1 (st' := [.long o1.1]) rfl) ?_
  clear SH; have SH := SH2; clear SH2
  have hf := Option.some.inj hf
  subst hf
  exact ⟨rs_lret i_X7_inLowestTerms_60 m_X7_inLowestTerms rfl, SH⟩
noncomputable def g_X7_inLowestTerms_45 (n : Nat) (v0 : Int64) (v2 : Int64) (v4 : Int32) (v5 : Int64) (h : Hp) : Option (Int64 × Hp) :=
  if v4 ≠ 0 then
    g_X7_inLowestTerms_55 n v5 v2 h
  else
    g_X7_inLowestTerms_55 n v5 v0 h
set_option maxRecDepth 100000 in
set_option maxHeartbeats 4000000 in
theorem q_X7_inLowestTerms_45 {X : Nat → Int32} {d : Nat} (hd : 1 ≤ (d + 1)) {L hi : Nat} (hh : 96 ≤ hi) {n : Nat} {v0 : Int64} {v2 : Int64} {v4 : Int32} {v5 : Int64} {d7 : Int64} {d9 : Int32} {w10 : Option Value} {w11 : Option Value} {h : Hp} {o : (Int64 × Hp)}  (SH : SHP L hi h) (hf : g_X7_inLowestTerms_45 n v0 v2 v4 v5 h = some o) : Run X (d + 1) 124 45 [some (.long v0), none, some (.long v2), none, some (.int v4), some (.long v5), none, some (.long d7), none, some (.int d9), w10, w11] [] h (some (.long o.1), o.2) ∧ SHP L hi o.2 := by
  unfold g_X7_inLowestTerms_45 at hf
  refine And.imp_left (rs_iload i_X7_inLowestTerms_45 rfl) ?_
  by_cases c1 : v4 ≠ 0
  · replace hf := (if_pos c1).symm.trans hf
    refine And.imp_left (rs_ifT i_X7_inLowestTerms_47 (ct_ne c1) (tg := 54) (by decide)) ?_
    refine And.imp_left (rs_lload_n i_X7_inLowestTerms_54 rfl) ?_
    exact q_X7_inLowestTerms_55 hd hh SH hf
  · replace hf := (if_neg c1).symm.trans hf
    refine And.imp_left (rs_ifF i_X7_inLowestTerms_47 (cf_ne c1)) ?_
    refine And.imp_left (rs_lload_n i_X7_inLowestTerms_50 rfl) ?_
    refine And.imp_left (rs_goto i_X7_inLowestTerms_51 (tg := 55) (by decide)) ?_
    exact q_X7_inLowestTerms_55 hd hh SH hf
noncomputable def g_X7_inLowestTerms_9 (n : Nat) : Nat → Int64 → Int64 → Int32 → Int64 → Int64 → Int32 → Hp → Option (Int64 × Hp)
  | 0, _, _, _, _, _, _, _ => none
  | m + 1, v0, v2, v4, v5, v7, v9, h =>
    if 200 ≤ v9 then
      g_X7_inLowestTerms_45 n v0 v2 v4 v5 h
    else
      if v7 = 0 then
        g_X7_inLowestTerms_45 n v0 v2 v4 v5 h
      else
        if ¬ v7 = 0 then
        (g_X7_inLowestTerms_9 n m) v0 v2 v4 v7 (v5 - v5 / v7 * v7) (v9 + 1) h
        else none
set_option maxRecDepth 100000 in
set_option maxHeartbeats 4000000 in
theorem q_X7_inLowestTerms_9 {X : Nat → Int32} {d : Nat} (hd : 1 ≤ (d + 1)) {L hi : Nat} (hh : 96 ≤ hi) {n : Nat} : ∀ (m : Nat) (v0 : Int64) (v2 : Int64) (v4 : Int32) (v5 : Int64) (v7 : Int64) (v9 : Int32) (w10 : Option Value) (w11 : Option Value) (h : Hp) (o : (Int64 × Hp)), SHP L hi h → g_X7_inLowestTerms_9 n m v0 v2 v4 v5 v7 v9 h = some o → Run X (d + 1) 124 9 [some (.long v0), none, some (.long v2), none, some (.int v4), some (.long v5), none, some (.long v7), none, some (.int v9), w10, w11] [] h (some (.long o.1), o.2) ∧ SHP L hi o.2 := by
  intro m
  induction m with
  | zero => intro v0 v2 v4 v5 v7 v9 w10 w11 h o SH hf; cases hf
  | succ m ih =>
    intro v0 v2 v4 v5 v7 v9 w10 w11 h o SH hf
    rw [g_X7_inLowestTerms_9] at hf
    refine And.imp_left (rs_iload i_X7_inLowestTerms_9 rfl) ?_
    refine And.imp_left (rs_sipush i_X7_inLowestTerms_11 (v := 200) (by decide)) ?_
    by_cases c1 : 200 ≤ v9
    · replace hf := (if_pos c1).symm.trans hf
      refine And.imp_left (rs_icT i_X7_inLowestTerms_14 (ct_ge c1) (tg := 45) (by decide)) ?_
      exact q_X7_inLowestTerms_45 hd hh SH hf
    · replace hf := (if_neg c1).symm.trans hf
      refine And.imp_left (rs_icF i_X7_inLowestTerms_14 (cf_ge c1)) ?_
      refine And.imp_left (rs_lload i_X7_inLowestTerms_17 rfl) ?_
      refine And.imp_left (rs_lconst i_X7_inLowestTerms_19 (v := 0) (by decide)) ?_
      refine And.imp_left (rs_lcmp i_X7_inLowestTerms_20) ?_
      by_cases c2 : v7 = 0
      · replace hf := (if_pos c2).symm.trans hf
        refine And.imp_left (rs_ifT i_X7_inLowestTerms_21 (by rw [lc_eq]; exact decide_eq_true c2) (tg := 45) (by decide)) ?_
        exact q_X7_inLowestTerms_45 hd hh SH hf
      · replace hf := (if_neg c2).symm.trans hf
        refine And.imp_left (rs_ifF i_X7_inLowestTerms_21 (by rw [lc_eq]; exact decide_eq_false c2)) ?_
        refine And.imp_left (rs_lload i_X7_inLowestTerms_24 rfl) ?_
        refine And.imp_left (rs_lload i_X7_inLowestTerms_26 rfl) ?_
        obtain ⟨c3, hf⟩ := ite_some hf
        refine And.imp_left (rs_lrem i_X7_inLowestTerms_28 c3) ?_
        refine And.imp_left (rs_lstore i_X7_inLowestTerms_29 (Nat.le_of_ble_eq_true rfl) (lv' := [some (.long v0), none, some (.long v2), none, some (.int v4), some (.long v5), none, some (.long v7), none, some (.int v9), some (.long (v5 - v5 / v7 * v7)), none]) rfl) ?_
        refine And.imp_left (rs_lload i_X7_inLowestTerms_31 rfl) ?_
        refine And.imp_left (rs_lstore i_X7_inLowestTerms_33 (Nat.le_of_ble_eq_true rfl) (lv' := [some (.long v0), none, some (.long v2), none, some (.int v4), some (.long v7), none, some (.long v7), none, some (.int v9), some (.long (v5 - v5 / v7 * v7)), none]) rfl) ?_
        refine And.imp_left (rs_lload i_X7_inLowestTerms_35 rfl) ?_
        refine And.imp_left (rs_lstore i_X7_inLowestTerms_37 (Nat.le_of_ble_eq_true rfl) (lv' := [some (.long v0), none, some (.long v2), none, some (.int v4), some (.long v7), none, some (.long (v5 - v5 / v7 * v7)), none, some (.int v9), some (.long (v5 - v5 / v7 * v7)), none]) rfl) ?_
        refine And.imp_left (rs_iinc i_X7_inLowestTerms_39 rfl (v := v9 + 1) rfl (Nat.le_of_ble_eq_true rfl) (lv' := [some (.long v0), none, some (.long v2), none, some (.int v4), some (.long v7), none, some (.long (v5 - v5 / v7 * v7)), none, some (.int (v9 + 1)), some (.long (v5 - v5 / v7 * v7)), none]) rfl) ?_
        refine And.imp_left (rs_goto i_X7_inLowestTerms_42 (tg := 9) (by decide)) ?_
        exact ih _ _ _ _ _ _ _ _ _ _ SH hf
noncomputable def g_X7_inLowestTerms_0 (n : Nat) (v0 : Int64) (v2 : Int64) (v4 : Int32) (h : Hp) : Option (Int64 × Hp) :=
  g_X7_inLowestTerms_9 n n v0 v2 v4 v0 v2 0 h
set_option maxRecDepth 100000 in
set_option maxHeartbeats 4000000 in
theorem q_X7_inLowestTerms_0 {X : Nat → Int32} {d : Nat} (hd : 1 ≤ (d + 1)) {L hi : Nat} (hh : 96 ≤ hi) {n : Nat} {v0 : Int64} {v2 : Int64} {v4 : Int32} {h : Hp} {o : (Int64 × Hp)}  (SH : SHP L hi h) (hf : g_X7_inLowestTerms_0 n v0 v2 v4 h = some o) : Run X (d + 1) 124 0 [some (.long v0), none, some (.long v2), none, some (.int v4), none, none, none, none, none, none, none] [] h (some (.long o.1), o.2) ∧ SHP L hi o.2 := by
  unfold g_X7_inLowestTerms_0 at hf
  refine And.imp_left (rs_lload_n i_X7_inLowestTerms_0 rfl) ?_
  refine And.imp_left (rs_lstore i_X7_inLowestTerms_1 (Nat.le_of_ble_eq_true rfl) (lv' := [some (.long v0), none, some (.long v2), none, some (.int v4), some (.long v0), none, none, none, none, none, none]) rfl) ?_
  refine And.imp_left (rs_lload_n i_X7_inLowestTerms_3 rfl) ?_
  refine And.imp_left (rs_lstore i_X7_inLowestTerms_4 (Nat.le_of_ble_eq_true rfl) (lv' := [some (.long v0), none, some (.long v2), none, some (.int v4), some (.long v0), none, some (.long v2), none, none, none, none]) rfl) ?_
  refine And.imp_left (rs_iconst i_X7_inLowestTerms_6 (v := 0) (by decide)) ?_
  refine And.imp_left (rs_istore i_X7_inLowestTerms_7 (Nat.le_of_ble_eq_true rfl) (lv' := [some (.long v0), none, some (.long v2), none, some (.int v4), some (.long v0), none, some (.long v2), none, some (.int 0), none, none]) rfl) ?_
  exact q_X7_inLowestTerms_9 hd hh _ _ _ _ _ _ _ _ _ _ _ SH hf
noncomputable def g_X7_inLowestTerms (n : Nat) (v0 : Int64) (v2 : Int64) (v4 : Int32) (h : Hp) : Option (Int64 × Hp) := g_X7_inLowestTerms_0 n v0 v2 v4 h
theorem k_X7_inLowestTerms {X : Nat → Int32} {d : Nat} (hd : 1 ≤ d) {L hi : Nat} (hh : 96 ≤ hi) {n : Nat} {v0 : Int64} {v2 : Int64} {v4 : Int32} {h : Hp} {o : (Int64 × Hp)}  (SH : SHP L hi h) (hf : g_X7_inLowestTerms n v0 v2 v4 h = some o) : Calls X d 124 [.long v0, .long v2, .int v4] h (some (.long o.1), o.2) ∧ SHP L hi o.2 := by
  obtain ⟨d, rfl⟩ : ∃ z, d = z + 1 := ⟨d - 1, by omega⟩
  obtain ⟨r, S2⟩ := q_X7_inLowestTerms_0 hd hh SH hf
  exact ⟨⟨_, rfl, r⟩, S2⟩
noncomputable def g_X7_thin_0 (n : Nat) (v1 : Int32) (v2 : Int32) (v3 : Int32) (h : Hp) : Option (Int64 × Hp) :=
  (g_X7_within v1 1 999999 h).bind fun o1 =>
  if o1.1 = 0 then
    some ((-4611686018427387904), o1.2)
  else
    (g_X7_within v2 0 30 o1.2).bind fun o3 =>
    if o3.1 = 0 then
      some ((-4611686018427387904), o3.2)
    else
      (g_X7_within v3 0 1 o3.2).bind fun o5 =>
      if o5.1 ≠ 0 then
        (g_X7_inLowestTerms n (Int32.toInt64 v1) (1 <<< (Int32.toInt64 v2 &&& 63)) v3 o5.2).bind fun o7 =>
        some (o7.1, o7.2)
      else
        some ((-4611686018427387904), o5.2)
set_option maxRecDepth 100000 in
set_option maxHeartbeats 4000000 in
theorem q_X7_thin_0 {X : Nat → Int32} {d : Nat} (hd : 2 ≤ (d + 1)) {L hi : Nat} (hh : 96 ≤ hi) {n : Nat} {v1 : Int32} {v2 : Int32} {v3 : Int32} {h : Hp} {o : (Int64 × Hp)}  (SH : SHP L hi h) (hf : g_X7_thin_0 n v1 v2 v3 h = some o) : Run X (d + 1) 99 0 [some (.ref 16), some (.int v1), some (.int v2), some (.int v3)] [] h (some (.long o.1), o.2) ∧ SHP L hi o.2 := by
  unfold g_X7_thin_0 at hf
  refine And.imp_left (rs_iload_n i_X7_thin_0 rfl) ?_
  refine And.imp_left (rs_iconst i_X7_thin_1 (v := 1) (by decide)) ?_
  refine And.imp_left (rs_ldcw i_X7_thin_2 (v := 999999) (by decide)) ?_
  obtain ⟨o1, e1, hf⟩ := bind_some hf
  obtain ⟨u1, SH2⟩ := k_X7_within (X := X) (d := d) (by omega) (by omega) SH e1
  refine And.imp_left (rs_inS i_X7_thin_5 (by decide) m_X7_within rfl (As := [.int v1, .int 1, .int 999999]) (rest := []) rfl rfl (Nat.le_of_ble_eq_true rfl) u1 (st' := [.int o1.1]) rfl) ?_
  clear SH; have SH := SH2; clear SH2
  by_cases c2 : o1.1 = 0
  · replace hf := (if_pos c2).symm.trans hf
    refine And.imp_left (rs_ifT i_X7_thin_8 (ct_eq c2) (tg := 30) (by decide)) ?_
    refine And.imp_left (rs_ldc2 i_X7_thin_30 (v := (-4611686018427387904)) (by decide)) ?_
    have hf := Option.some.inj hf
    subst hf
    exact ⟨rs_lret i_X7_thin_33 m_X7_thin rfl, SH⟩
  · replace hf := (if_neg c2).symm.trans hf
    refine And.imp_left (rs_ifF i_X7_thin_8 (cf_eq c2)) ?_
    refine And.imp_left (rs_iload_n i_X7_thin_11 rfl) ?_
    refine And.imp_left (rs_iconst i_X7_thin_12 (v := 0) (by decide)) ?_
    refine And.imp_left (rs_bipush i_X7_thin_13 (v := 30) (by decide)) ?_
    obtain ⟨o3, e3, hf⟩ := bind_some hf
    obtain ⟨u3, SH2⟩ := k_X7_within (X := X) (d := d) (by omega) (by omega) SH e3
    refine And.imp_left (rs_inS i_X7_thin_15 (by decide) m_X7_within rfl (As := [.int v2, .int 0, .int 30]) (rest := []) rfl rfl (Nat.le_of_ble_eq_true rfl) u3 (st' := [.int o3.1]) rfl) ?_
    clear SH; have SH := SH2; clear SH2
    by_cases c4 : o3.1 = 0
    · replace hf := (if_pos c4).symm.trans hf
      refine And.imp_left (rs_ifT i_X7_thin_18 (ct_eq c4) (tg := 30) (by decide)) ?_
      refine And.imp_left (rs_ldc2 i_X7_thin_30 (v := (-4611686018427387904)) (by decide)) ?_
      have hf := Option.some.inj hf
      subst hf
      exact ⟨rs_lret i_X7_thin_33 m_X7_thin rfl, SH⟩
    · replace hf := (if_neg c4).symm.trans hf
      refine And.imp_left (rs_ifF i_X7_thin_18 (cf_eq c4)) ?_
      refine And.imp_left (rs_iload_n i_X7_thin_21 rfl) ?_
      refine And.imp_left (rs_iconst i_X7_thin_22 (v := 0) (by decide)) ?_
      refine And.imp_left (rs_iconst i_X7_thin_23 (v := 1) (by decide)) ?_
      obtain ⟨o5, e5, hf⟩ := bind_some hf
      obtain ⟨u5, SH2⟩ := k_X7_within (X := X) (d := d) (by omega) (by omega) SH e5
      refine And.imp_left (rs_inS i_X7_thin_24 (by decide) m_X7_within rfl (As := [.int v3, .int 0, .int 1]) (rest := []) rfl rfl (Nat.le_of_ble_eq_true rfl) u5 (st' := [.int o5.1]) rfl) ?_
      clear SH; have SH := SH2; clear SH2
      by_cases c6 : o5.1 ≠ 0
      · replace hf := (if_pos c6).symm.trans hf
        refine And.imp_left (rs_ifT i_X7_thin_27 (ct_ne c6) (tg := 34) (by decide)) ?_
        refine And.imp_left (rs_iload_n i_X7_thin_34 rfl) ?_
        refine And.imp_left (rs_i2l i_X7_thin_35) ?_
        refine And.imp_left (rs_lconst i_X7_thin_36 (v := 1) (by decide)) ?_
        refine And.imp_left (rs_iload_n i_X7_thin_37 rfl) ?_
        refine And.imp_left (rs_lshl i_X7_thin_38) ?_
        refine And.imp_left (rs_iload_n i_X7_thin_39 rfl) ?_
        obtain ⟨o7, e7, hf⟩ := bind_some hf
        obtain ⟨u7, SH2⟩ := k_X7_inLowestTerms (X := X) (d := d) (by omega) (by omega) SH e7
        refine And.imp_left (rs_inS i_X7_thin_40 (by decide) m_X7_inLowestTerms rfl (As := [.long (Int32.toInt64 v1), .long (1 <<< (Int32.toInt64 v2 &&& 63)), .int v3]) (rest := []) rfl rfl (Nat.le_of_ble_eq_true rfl) u7 (st' := [.long o7.1]) rfl) ?_
        clear SH; have SH := SH2; clear SH2
        have hf := Option.some.inj hf
        subst hf
        exact ⟨rs_lret i_X7_thin_43 m_X7_thin rfl, SH⟩
      · replace hf := (if_neg c6).symm.trans hf
        refine And.imp_left (rs_ifF i_X7_thin_27 (cf_ne c6)) ?_
        refine And.imp_left (rs_ldc2 i_X7_thin_30 (v := (-4611686018427387904)) (by decide)) ?_
        have hf := Option.some.inj hf
        subst hf
        exact ⟨rs_lret i_X7_thin_33 m_X7_thin rfl, SH⟩
noncomputable def g_X7_thin (n : Nat) (v1 : Int32) (v2 : Int32) (v3 : Int32) (h : Hp) : Option (Int64 × Hp) := g_X7_thin_0 n v1 v2 v3 h
theorem k_X7_thin {X : Nat → Int32} {d : Nat} (hd : 2 ≤ d) {L hi : Nat} (hh : 96 ≤ hi) {n : Nat} {v1 : Int32} {v2 : Int32} {v3 : Int32} {h : Hp} {o : (Int64 × Hp)}  (SH : SHP L hi h) (hf : g_X7_thin n v1 v2 v3 h = some o) : Calls X d 99 [.ref 16, .int v1, .int v2, .int v3] h (some (.long o.1), o.2) ∧ SHP L hi o.2 := by
  obtain ⟨d, rfl⟩ : ∃ z, d = z + 1 := ⟨d - 1, by omega⟩
  obtain ⟨r, S2⟩ := q_X7_thin_0 hd hh SH hf
  exact ⟨⟨_, rfl, r⟩, S2⟩
