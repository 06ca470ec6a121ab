noncomputable def g_X3_cutEnd_40 (v0 : Nat) (v1 : Int32) (v2 : Int32) (h : Hp) : Option Hp :=
  if inb v1 12 = true then
  some (hsi h (v0 + 2) (ix v1) (if 1 < ((gI h (v0 + 2) (ix v1)) - (((gI h (v0 + 2) (ix v1)) * v2) / 10)) then ((gI h (v0 + 2) (ix v1)) - (((gI h (v0 + 2) (ix v1)) * v2) / 10)) else 1))
  else none
set_option maxRecDepth 100000 in
set_option maxHeartbeats 4000000 in
theorem q_X3_cutEnd_40 {X : Nat → Int32} {d : Nat} (hd : 0 ≤ d) {L hi : Nat} (hh : 96 ≤ hi) {v0 : Nat} {v1 : Int32} {v2 : Int32} {d3 : Int32} {h : Hp} {o : Hp} (hv0 : OB3 v0) (SH : SHP L hi h) (hf : g_X3_cutEnd_40 v0 v1 v2 h = some o) : Run X d 38 40 [some (.ref v0), some (.int v1), some (.int v2), some (.int d3)] [] h (none, o) ∧ SHP L hi o := by
  unfold g_X3_cutEnd_40 at hf
  refine And.imp_left (rs_aload_n i_X3_cutEnd_40 rfl) ?_
  refine And.imp_left (rs_getR i_X3_cutEnd_41 (by decide) (by decide) (sO3 SH hh hv0) (sR3_1 SH hh hv0)) ?_
  refine And.imp_left (rs_iload_n i_X3_cutEnd_44 rfl) ?_
  refine And.imp_left (rs_iconst i_X3_cutEnd_45 (v := 1) (by decide)) ?_
  refine And.imp_left (rs_aload_n i_X3_cutEnd_46 rfl) ?_
  refine And.imp_left (rs_getR i_X3_cutEnd_47 (by decide) (by decide) (sO3 SH hh hv0) (sR3_1 SH hh hv0)) ?_
  refine And.imp_left (rs_iload_n i_X3_cutEnd_50 rfl) ?_
  obtain ⟨c1, hf⟩ := ite_some hf
  refine And.imp_left (rs_iald i_X3_cutEnd_51 (mkI (sA SH hh (k := 9) (n := 12) (aR3_1 hv0)) c1)) ?_
  refine And.imp_left (rs_aload_n i_X3_cutEnd_52 rfl) ?_
  refine And.imp_left (rs_getR i_X3_cutEnd_53 (by decide) (by decide) (sO3 SH hh hv0) (sR3_1 SH hh hv0)) ?_
  refine And.imp_left (rs_iload_n i_X3_cutEnd_56 rfl) ?_
  refine And.imp_left (rs_iald i_X3_cutEnd_57 (mkI (sA SH hh (k := 9) (n := 12) (aR3_1 hv0)) c1)) ?_
  refine And.imp_left (rs_iload_n i_X3_cutEnd_58 rfl) ?_
  refine And.imp_left (rs_imul i_X3_cutEnd_59) ?_
  refine And.imp_left (rs_bipush i_X3_cutEnd_60 (v := 10) (by decide)) ?_
  refine And.imp_left (rs_idiv i_X3_cutEnd_62 (by decide)) ?_
  refine And.imp_left (rs_isub i_X3_cutEnd_63) ?_
  refine And.imp_left (rs_max i_X3_cutEnd_64 (Nat.le_of_ble_eq_true rfl)) ?_
  refine And.imp_left (rs_iast i_X3_cutEnd_67 (mkI (sA SH hh (k := 9) (n := 12) (aR3_1 hv0)) c1)) ?_
  have SH := shi SH (v0 + 2) (ix v1) (if 1 < ((gI h (v0 + 2) (ix v1)) - (((gI h (v0 + 2) (ix v1)) * v2) / 10)) then ((gI h (v0 + 2) (ix v1)) - (((gI h (v0 + 2) (ix v1)) * v2) / 10)) else 1)
  have hf := Option.some.inj hf
  subst hf
  exact ⟨rs_vret i_X3_cutEnd_68 m_X3_cutEnd rfl, SH⟩
noncomputable def g_X3_cutEnd_22 (v0 : Nat) (v1 : Int32) (v2 : Int32) (v3 : Int32) (h : Hp) : Option Hp :=
  if inb v1 12 = true then
  g_X3_cutEnd_40 v0 v1 v2 (hsi h (v0 + 1) (ix v1) (if 1 < ((gI h (v0 + 1) (ix v1)) - v3) then ((gI h (v0 + 1) (ix v1)) - v3) else 1))
  else none
set_option maxRecDepth 100000 in
set_option maxHeartbeats 4000000 in
theorem q_X3_cutEnd_22 {X : Nat → Int32} {d : Nat} (hd : 0 ≤ d) {L hi : Nat} (hh : 96 ≤ hi) {v0 : Nat} {v1 : Int32} {v2 : Int32} {v3 : Int32} {h : Hp} {o : Hp} (hv0 : OB3 v0) (SH : SHP L hi h) (hf : g_X3_cutEnd_22 v0 v1 v2 v3 h = some o) : Run X d 38 22 [some (.ref v0), some (.int v1), some (.int v2), some (.int v3)] [] h (none, o) ∧ SHP L hi o := by
  unfold g_X3_cutEnd_22 at hf
  refine And.imp_left (rs_aload_n i_X3_cutEnd_22 rfl) ?_
  refine And.imp_left (rs_getR i_X3_cutEnd_23 (by decide) (by decide) (sO3 SH hh hv0) (sR3_0 SH hh hv0)) ?_
  refine And.imp_left (rs_iload_n i_X3_cutEnd_26 rfl) ?_
  refine And.imp_left (rs_iconst i_X3_cutEnd_27 (v := 1) (by decide)) ?_
  refine And.imp_left (rs_aload_n i_X3_cutEnd_28 rfl) ?_
  refine And.imp_left (rs_getR i_X3_cutEnd_29 (by decide) (by decide) (sO3 SH hh hv0) (sR3_0 SH hh hv0)) ?_
  refine And.imp_left (rs_iload_n i_X3_cutEnd_32 rfl) ?_
  obtain ⟨c1, hf⟩ := ite_some hf
  refine And.imp_left (rs_iald i_X3_cutEnd_33 (mkI (sA SH hh (k := 9) (n := 12) (aR3_0 hv0)) c1)) ?_
  refine And.imp_left (rs_iload_n i_X3_cutEnd_34 rfl) ?_
  refine And.imp_left (rs_isub i_X3_cutEnd_35) ?_
  refine And.imp_left (rs_max i_X3_cutEnd_36 (Nat.le_of_ble_eq_true rfl)) ?_
  refine And.imp_left (rs_iast i_X3_cutEnd_39 (mkI (sA SH hh (k := 9) (n := 12) (aR3_0 hv0)) c1)) ?_
  have SH := shi SH (v0 + 1) (ix v1) (if 1 < ((gI h (v0 + 1) (ix v1)) - v3) then ((gI h (v0 + 1) (ix v1)) - v3) else 1)
  exact q_X3_cutEnd_40 hd hh hv0 SH hf
noncomputable def g_X3_cutEnd_0 (v0 : Nat) (v1 : Int32) (v2 : Int32) (h : Hp) : Option Hp :=
  if inb v1 12 = true then
  g_X3_cutEnd_22 v0 v1 v2 (((gI h (v0 + 1) (ix v1)) * v2) / 10) (hsi h v0 9 ((gI h v0 9) + (((gI h (v0 + 1) (ix v1)) * v2) / 10)))
  else none
set_option maxRecDepth 100000 in
set_option maxHeartbeats 4000000 in
theorem q_X3_cutEnd_0 {X : Nat → Int32} {d : Nat} (hd : 0 ≤ d) {L hi : Nat} (hh : 96 ≤ hi) {v0 : Nat} {v1 : Int32} {v2 : Int32} {h : Hp} {o : Hp} (hv0 : OB3 v0) (SH : SHP L hi h) (hf : g_X3_cutEnd_0 v0 v1 v2 h = some o) : Run X d 38 0 [some (.ref v0), some (.int v1), some (.int v2), none] [] h (none, o) ∧ SHP L hi o := by
  unfold g_X3_cutEnd_0 at hf
  refine And.imp_left (rs_aload_n i_X3_cutEnd_0 rfl) ?_
  refine And.imp_left (rs_getR i_X3_cutEnd_1 (by decide) (by decide) (sO3 SH hh hv0) (sR3_0 SH hh hv0)) ?_
  refine And.imp_left (rs_iload_n i_X3_cutEnd_4 rfl) ?_
  obtain ⟨c1, hf⟩ := ite_some hf
  refine And.imp_left (rs_iald i_X3_cutEnd_5 (mkI (sA SH hh (k := 9) (n := 12) (aR3_0 hv0)) c1)) ?_
  refine And.imp_left (rs_iload_n i_X3_cutEnd_6 rfl) ?_
  refine And.imp_left (rs_imul i_X3_cutEnd_7) ?_
  refine And.imp_left (rs_bipush i_X3_cutEnd_8 (v := 10) (by decide)) ?_
  refine And.imp_left (rs_idiv i_X3_cutEnd_10 (by decide)) ?_
  refine And.imp_left (rs_istore_n i_X3_cutEnd_11 (Nat.le_of_ble_eq_true rfl) (lv' := [some (.ref v0), some (.int v1), some (.int v2), some (.int (((gI h (v0 + 1) (ix v1)) * v2) / 10))]) rfl) ?_
  refine And.imp_left (rs_aload_n i_X3_cutEnd_12 rfl) ?_
  refine And.imp_left (rs_dup i_X3_cutEnd_13 rfl) ?_
  refine And.imp_left (rs_getI i_X3_cutEnd_14 (by decide) (by decide) (sO3 SH hh hv0)) ?_
  refine And.imp_left (rs_iload_n i_X3_cutEnd_17 rfl) ?_
  refine And.imp_left (rs_iadd i_X3_cutEnd_18) ?_
  refine And.imp_left (rs_putI i_X3_cutEnd_19 (by decide) (sO3 SH hh hv0)) ?_
  have SH := shi SH v0 9 ((gI h v0 9) + (((gI h (v0 + 1) (ix v1)) * v2) / 10))
  exact q_X3_cutEnd_22 hd hh hv0 SH hf
noncomputable def g_X3_cutEnd (v0 : Nat) (v1 : Int32) (v2 : Int32) (h : Hp) : Option Hp := g_X3_cutEnd_0 v0 v1 v2 h
theorem k_X3_cutEnd {X : Nat → Int32} {d : Nat} (hd : 0 ≤ d) {L hi : Nat} (hh : 96 ≤ hi) {v0 : Nat} {v1 : Int32} {v2 : Int32} {h : Hp} {o : Hp} (hv0 : OB3 v0) (SH : SHP L hi h) (hf : g_X3_cutEnd v0 v1 v2 h = some o) : Calls X d 38 [.ref v0, .int v1, .int v2] h (none, o) ∧ SHP L hi o := by
  obtain ⟨r, S2⟩ := q_X3_cutEnd_0 hd hh hv0 SH hf
  exact ⟨⟨_, rfl, r⟩, S2⟩
noncomputable def g_X7_quotient_0 (v0 : Int64) (v2 : Int64) (h : Hp) : Option (Int64 × Hp) :=
  if v2 ≤ 0 then
    some (0, h)
  else
    if ¬ v2 = 0 then
    some ((v0 / v2), h)
    else none
set_option maxRecDepth 100000 in
set_option maxHeartbeats 4000000 in
theorem q_X7_quotient_0 {X : Nat → Int32} {d : Nat} (hd : 0 ≤ d) {L hi : Nat} (hh : 96 ≤ hi) {v0 : Int64} {v2 : Int64} {h : Hp} {o : (Int64 × Hp)}  (SH : SHP L hi h) (hf : g_X7_quotient_0 v0 v2 h = some o) : Run X d 111 0 [some (.long v0), none, some (.long v2), none] [] h (some (.long o.1), o.2) ∧ SHP L hi o.2 := by
  unfold g_X7_quotient_0 at hf
  refine And.imp_left (rs_lload_n i_X7_quotient_0 rfl) ?_
  refine And.imp_left (rs_lconst i_X7_quotient_1 (v := 0) (by decide)) ?_
  refine And.imp_left (rs_lcmp i_X7_quotient_2) ?_
  by_cases c1 : v2 ≤ 0
  · replace hf := (if_pos c1).symm.trans hf
    refine And.imp_left (rs_ifT i_X7_quotient_3 (by rw [lc_le]; exact decide_eq_true c1) (tg := 12) (by decide)) ?_
    refine And.imp_left (rs_lconst i_X7_quotient_12 (v := 0) (by decide)) ?_
    have hf := Option.some.inj hf
    subst hf
    exact ⟨rs_lret i_X7_quotient_13 m_X7_quotient rfl, SH⟩
  · replace hf := (if_neg c1).symm.trans hf
    refine And.imp_left (rs_ifF i_X7_quotient_3 (by rw [lc_le]; exact decide_eq_false c1)) ?_
    refine And.imp_left (rs_lload_n i_X7_quotient_6 rfl) ?_
    refine And.imp_left (rs_lload_n i_X7_quotient_7 rfl) ?_
    obtain ⟨c2, hf⟩ := ite_some hf
    refine And.imp_left (rs_ldiv i_X7_quotient_8 c2) ?_
    refine And.imp_left (rs_goto i_X7_quotient_9 (tg := 13) (by decide)) ?_
    have hf := Option.some.inj hf
    subst hf
    exact ⟨rs_lret i_X7_quotient_13 m_X7_quotient rfl, SH⟩
noncomputable def g_X7_quotient (v0 : Int64) (v2 : Int64) (h : Hp) : Option (Int64 × Hp) := g_X7_quotient_0 v0 v2 h
theorem k_X7_quotient {X : Nat → Int32} {d : Nat} (hd : 0 ≤ d) {L hi : Nat} (hh : 96 ≤ hi) {v0 : Int64} {v2 : Int64} {h : Hp} {o : (Int64 × Hp)}  (SH : SHP L hi h) (hf : g_X7_quotient v0 v2 h = some o) : Calls X d 111 [.long v0, .long v2] h (some (.long o.1), o.2) ∧ SHP L hi o.2 := by
  obtain ⟨r, S2⟩ := q_X7_quotient_0 hd hh SH hf
  exact ⟨⟨_, rfl, r⟩, S2⟩
noncomputable def g_X3_lengthen_22 (v0 : Nat) (v1 : Int32) (v2 : Int64) (v4 : Int32) (h : Hp) : Option Hp :=
  if inb v1 12 = true then
  (g_X7_quotient ((v2 * (Int32.toInt64 v4)) * 10) (Int32.toInt64 (gI h (v0 + 2) (ix v1))) h).bind fun o2 =>
  some (hsi o2.2 (v0 + 3) (ix v1) (Int64.toInt32 (if ((Int32.toInt64 (gI h (v0 + 3) (ix v1))) + o2.1) < 99 then ((Int32.toInt64 (gI h (v0 + 3) (ix v1))) + o2.1) else 99)))
  else none
set_option maxRecDepth 100000 in
set_option maxHeartbeats 4000000 in
theorem q_X3_lengthen_22 {X : Nat → Int32} {d : Nat} (hd : 1 ≤ (d + 1)) {L hi : Nat} (hh : 96 ≤ hi) {v0 : Nat} {v1 : Int32} {v2 : Int64} {v4 : Int32} {h : Hp} {o : Hp} (hv0 : OB3 v0) (SH : SHP L hi h) (hf : g_X3_lengthen_22 v0 v1 v2 v4 h = some o) : Run X (d + 1) 33 22 [some (.ref v0), some (.int v1), some (.long v2), none, some (.int v4)] [] h (none, o) ∧ SHP L hi o := by
  unfold g_X3_lengthen_22 at hf
  refine And.imp_left (rs_aload_n i_X3_lengthen_22 rfl) ?_
  refine And.imp_left (rs_getR i_X3_lengthen_23 (by decide) (by decide) (sO3 SH hh hv0) (sR3_2 SH hh hv0)) ?_
  refine And.imp_left (rs_iload_n i_X3_lengthen_26 rfl) ?_
  refine And.imp_left (rs_ldc2 i_X3_lengthen_27 (v := 99) (by decide)) ?_
  refine And.imp_left (rs_aload_n i_X3_lengthen_30 rfl) ?_
  refine And.imp_left (rs_getR i_X3_lengthen_31 (by decide) (by decide) (sO3 SH hh hv0) (sR3_2 SH hh hv0)) ?_
  refine And.imp_left (rs_iload_n i_X3_lengthen_34 rfl) ?_
  obtain ⟨c1, hf⟩ := ite_some hf
  refine And.imp_left (rs_iald i_X3_lengthen_35 (mkI (sA SH hh (k := 9) (n := 12) (aR3_2 hv0)) c1)) ?_
  refine And.imp_left (rs_i2l i_X3_lengthen_36) ?_
  refine And.imp_left (rs_lload_n i_X3_lengthen_37 rfl) ?_
  refine And.imp_left (rs_iload i_X3_lengthen_38 rfl) ?_
  refine And.imp_left (rs_i2l i_X3_lengthen_40) ?_
  refine And.imp_left (rs_lmul i_X3_lengthen_41) ?_
  refine And.imp_left (rs_ldc2 i_X3_lengthen_42 (v := 10) (by decide)) ?_
  refine And.imp_left (rs_lmul i_X3_lengthen_45) ?_
  refine And.imp_left (rs_aload_n i_X3_lengthen_46 rfl) ?_
  refine And.imp_left (rs_getR i_X3_lengthen_47 (by decide) (by decide) (sO3 SH hh hv0) (sR3_1 SH hh hv0)) ?_
  refine And.imp_left (rs_iload_n i_X3_lengthen_50 rfl) ?_
  refine And.imp_left (rs_iald i_X3_lengthen_51 (mkI (sA SH hh (k := 9) (n := 12) (aR3_1 hv0)) c1)) ?_
  refine And.imp_left (rs_i2l i_X3_lengthen_52) ?_
  obtain ⟨o2, e2, hf⟩ := bind_some hf
  obtain ⟨u2, SH2⟩ := k_X7_quotient (X := X) (d := d) (by omega) (by omega) SH e2
  refine And.imp_left (rs_inS i_X3_lengthen_53 (by decide) m_X7_quotient rfl (As := [.long ((v2 * (Int32.toInt64 v4)) * 10), .long (Int32.toInt64 (gI h (v0 + 2) (ix v1)))]) (rest := [.long (Int32.toInt64 (gI h (v0 + 3) (ix v1))), .long 99, .int v1, .ref (v0 + 3)]) rfl rfl (Nat.le_of_ble_eq_true rfl) u2 (st' := [.long o2.1, .long (Int32.toInt64 (gI h (v0 + 3) (ix v1))), .long 99, .int v1, .ref (v0 + 3)]) rfl) ?_
  clear SH; have SH := SH2; clear SH2
  refine And.imp_left (rs_ladd i_X3_lengthen_56) ?_
  refine And.imp_left (rs_minl i_X3_lengthen_57 (Nat.le_of_ble_eq_true rfl)) ?_
  refine And.imp_left (rs_l2i i_X3_lengthen_60) ?_
  refine And.imp_left (rs_iast i_X3_lengthen_61 (mkI (sA SH hh (k := 9) (n := 12) (aR3_2 hv0)) c1)) ?_
  have SH := shi SH (v0 + 3) (ix v1) (Int64.toInt32 (if ((Int32.toInt64 (gI h (v0 + 3) (ix v1))) + o2.1) < 99 then ((Int32.toInt64 (gI h (v0 + 3) (ix v1))) + o2.1) else 99))
  have hf := Option.some.inj hf
  subst hf
  exact ⟨rs_vret i_X3_lengthen_62 m_X3_lengthen rfl, SH⟩
noncomputable def g_X3_lengthen_0 (v0 : Nat) (v1 : Int32) (v2 : Int64) (v4 : Int32) (h : Hp) : Option Hp :=
  if inb v1 12 = true then
  g_X3_lengthen_22 v0 v1 v2 v4 (hsi h (v0 + 2) (ix v1) (Int64.toInt32 (if ((Int32.toInt64 (gI h (v0 + 2) (ix v1))) + v2) < 1000000 then ((Int32.toInt64 (gI h (v0 + 2) (ix v1))) + v2) else 1000000)))
  else none
set_option maxRecDepth 100000 in
set_option maxHeartbeats 4000000 in
theorem q_X3_lengthen_0 {X : Nat → Int32} {d : Nat} (hd : 1 ≤ (d + 1)) {L hi : Nat} (hh : 96 ≤ hi) {v0 : Nat} {v1 : Int32} {v2 : Int64} {v4 : Int32} {h : Hp} {o : Hp} (hv0 : OB3 v0) (SH : SHP L hi h) (hf : g_X3_lengthen_0 v0 v1 v2 v4 h = some o) : Run X (d + 1) 33 0 [some (.ref v0), some (.int v1), some (.long v2), none, some (.int v4)] [] h (none, o) ∧ SHP L hi o := by
  unfold g_X3_lengthen_0 at hf
  refine And.imp_left (rs_aload_n i_X3_lengthen_0 rfl) ?_
  refine And.imp_left (rs_getR i_X3_lengthen_1 (by decide) (by decide) (sO3 SH hh hv0) (sR3_1 SH hh hv0)) ?_
  refine And.imp_left (rs_iload_n i_X3_lengthen_4 rfl) ?_
  refine And.imp_left (rs_ldc2 i_X3_lengthen_5 (v := 1000000) (by decide)) ?_
  refine And.imp_left (rs_aload_n i_X3_lengthen_8 rfl) ?_
  refine And.imp_left (rs_getR i_X3_lengthen_9 (by decide) (by decide) (sO3 SH hh hv0) (sR3_1 SH hh hv0)) ?_
  refine And.imp_left (rs_iload_n i_X3_lengthen_12 rfl) ?_
  obtain ⟨c1, hf⟩ := ite_some hf
  refine And.imp_left (rs_iald i_X3_lengthen_13 (mkI (sA SH hh (k := 9) (n := 12) (aR3_1 hv0)) c1)) ?_
  refine And.imp_left (rs_i2l i_X3_lengthen_14) ?_
  refine And.imp_left (rs_lload_n i_X3_lengthen_15 rfl) ?_
  refine And.imp_left (rs_ladd i_X3_lengthen_16) ?_
  refine And.imp_left (rs_minl i_X3_lengthen_17 (Nat.le_of_ble_eq_true rfl)) ?_
  refine And.imp_left (rs_l2i i_X3_lengthen_20) ?_
  refine And.imp_left (rs_iast i_X3_lengthen_21 (mkI (sA SH hh (k := 9) (n := 12) (aR3_1 hv0)) c1)) ?_
  have SH := shi SH (v0 + 2) (ix v1) (Int64.toInt32 (if ((Int32.toInt64 (gI h (v0 + 2) (ix v1))) + v2) < 1000000 then ((Int32.toInt64 (gI h (v0 + 2) (ix v1))) + v2) else 1000000))
  exact q_X3_lengthen_22 hd hh hv0 SH hf
noncomputable def g_X3_lengthen (v0 : Nat) (v1 : Int32) (v2 : Int64) (v4 : Int32) (h : Hp) : Option Hp := g_X3_lengthen_0 v0 v1 v2 v4 h
theorem k_X3_lengthen {X : Nat → Int32} {d : Nat} (hd : 1 ≤ d) {L hi : Nat} (hh : 96 ≤ hi) {v0 : Nat} {v1 : Int32} {v2 : Int64} {v4 : Int32} {h : Hp} {o : Hp} (hv0 : OB3 v0) (SH : SHP L hi h) (hf : g_X3_lengthen v0 v1 v2 v4 h = some o) : Calls X d 33 [.ref v0, .int v1, .long v2, .int v4] h (none, o) ∧ SHP L hi o := by
  obtain ⟨d, rfl⟩ : ∃ z, d = z + 1 := ⟨d - 1, by omega⟩
  obtain ⟨r, S2⟩ := q_X3_lengthen_0 hd hh hv0 SH hf
  exact ⟨⟨_, rfl, r⟩, S2⟩
noncomputable def g_X3_draw_157 (n : Nat) : Nat → Nat → Int32 → Int32 → Hp → Option Hp
  | 0, _, _, _, _ => none
  | m + 1, v0, v3, v8, h =>
    if 12 ≤ v8 then
      some h
    else
      (g_X1_tears n v0 v8 v3 h).bind fun o2 =>
      (g_X3_draw_157 n m) v0 v3 (v8 + 1) (hsl o2.2 v0 10 (((gL' h v0 10) * (Int32.toInt64 (100 - o2.1))) / 100))
set_option maxRecDepth 100000 in
set_option maxHeartbeats 4000000 in
theorem q_X3_draw_157 {X : Nat → Int32} {d : Nat} (hd : 4 ≤ (d + 1)) {L hi : Nat} (hh : 96 ≤ hi) {n : Nat} : ∀ (m : Nat) (v0 : Nat) (v3 : Int32) (v8 : Int32) (d1 : Int64) (d4 : Int64) (d6 : Int64) (hv0 : OB3 v0) (h : Hp) (o : Hp), SHP L hi h → g_X3_draw_157 n m v0 v3 v8 h = some o → Run X (d + 1) 32 157 [some (.ref v0), some (.long d1), none, some (.int v3), some (.long d4), none, some (.long d6), none, some (.int v8)] [] h (none, o) ∧ SHP L hi o := by
  intro m
  induction m with
  | zero => intro v0 v3 v8 d1 d4 d6 hv0 h o SH hf; cases hf
  | succ m ih =>
    intro v0 v3 v8 d1 d4 d6 hv0 h o SH hf
    rw [g_X3_draw_157] at hf
    refine And.imp_left (rs_iload i_X3_draw_157 rfl) ?_
    refine And.imp_left (rs_bipush i_X3_draw_159 (v := 12) (by decide)) ?_
    by_cases c1 : 12 ≤ v8
    · replace hf := (if_pos c1).symm.trans hf
      refine And.imp_left (rs_icT i_X3_draw_161 (ct_ge c1) (tg := 198) (by decide)) ?_
      have hf := Option.some.inj hf
      subst hf
      exact ⟨rs_vret i_X3_draw_198 m_X3_draw rfl, SH⟩
    · replace hf := (if_neg c1).symm.trans hf
      refine And.imp_left (rs_icF i_X3_draw_161 (cf_ge c1)) ?_
      refine And.imp_left (rs_aload_n i_X3_draw_164 rfl) ?_
      refine And.imp_left (rs_aload_n i_X3_draw_165 rfl) ?_
      refine And.imp_left (rs_getL i_X3_draw_166 (by decide) (by decide) (sO3 SH hh hv0)) ?_
      refine And.imp_left (rs_bipush i_X3_draw_169 (v := 100) (by decide)) ?_
      refine And.imp_left (rs_aload_n i_X3_draw_171 rfl) ?_
      refine And.imp_left (rs_getR i_X3_draw_172 (by decide) (by decide) (sO3 SH hh hv0) (sR3_6 SH hh hv0)) ?_
      refine And.imp_left (rs_aload_n i_X3_draw_175 rfl) ?_
      refine And.imp_left (rs_iload i_X3_draw_176 rfl) ?_
      refine And.imp_left (rs_iload_n i_X3_draw_178 rfl) ?_
      obtain ⟨o2, e2, hf⟩ := bind_some hf
      obtain ⟨u2, SH2⟩ := k_X1_tears (X := X) (d := d) (by omega) (by omega) hv0 SH e2
      refine And.imp_left (rs_inV i_X3_draw_179 m_X1_tears rfl (As := [.ref v0, .int v8, .int v3]) (rest := [.int 100, .long (gL' h v0 10), .ref v0]) rfl rfl (Nat.le_of_ble_eq_true rfl) (sO1 SH hh) u2 (st' := [.int o2.1, .int 100, .long (gL' h v0 10), .ref v0]) rfl) ?_
      clear SH; have SH := SH2; clear SH2
      refine And.imp_left (rs_isub i_X3_draw_182) ?_
      refine And.imp_left (rs_i2l i_X3_draw_183) ?_
      refine And.imp_left (rs_lmul i_X3_draw_184) ?_
      refine And.imp_left (rs_ldc2 i_X3_draw_185 (v := 100) (by decide)) ?_
      refine And.imp_left (rs_ldiv i_X3_draw_188 (by decide)) ?_
      refine And.imp_left (rs_putL i_X3_draw_189 (by decide) (sO3 SH hh hv0)) ?_
      have SH := shl SH v0 10 (((gL' h v0 10) * (Int32.toInt64 (100 - o2.1))) / 100)
      refine And.imp_left (rs_iinc i_X3_draw_192 rfl (v := v8 + 1) rfl (Nat.le_of_ble_eq_true rfl) (lv' := [some (.ref v0), some (.long d1), none, some (.int v3), some (.long d4), none, some (.long d6), none, some (.int (v8 + 1))]) rfl) ?_
      refine And.imp_left (rs_goto i_X3_draw_195 (tg := 157) (by decide)) ?_
      exact ih _ _ _ _ _ _ hv0 _ _ SH hf
noncomputable def g_X3_draw_144 (n : Nat) (K106 : Nat → Int32 → Int64 → Int32 → Hp → Option Hp) (v0 : Nat) (v3 : Int32) (v6 : Int64) (v8 : Int32) (s0 : Nat) (s1 : Int32) (s2 : Int64) (h : Hp) : Option Hp :=
  (g_X3_lengthen s0 s1 s2 v3 h).bind fun o1 =>
  K106 v0 v3 v6 (v8 + 1) o1
set_option maxRecDepth 100000 in
set_option maxHeartbeats 4000000 in
theorem q_X3_draw_144 {X : Nat → Int32} {d : Nat} (hd : 4 ≤ (d + 1)) {L hi : Nat} (hh : 96 ≤ hi) {n : Nat} {K106 : Nat → Int32 → Int64 → Int32 → Hp → Option Hp} (HK106 : ∀ (v0 : Nat) (v3 : Int32) (v6 : Int64) (v8 : Int32) (d1 : Int64) (d4 : Int64) (hv0 : OB3 v0) (h : Hp) (o : Hp), SHP L hi h → K106 v0 v3 v6 v8 h = some o → Run X (d + 1) 32 106 [some (.ref v0), some (.long d1), none, some (.int v3), some (.long d4), none, some (.long v6), none, some (.int v8)] [] h (none, o) ∧ SHP L hi o) {v0 : Nat} {v3 : Int32} {v6 : Int64} {v8 : Int32} {s0 : Nat} {s1 : Int32} {s2 : Int64} {d1 : Int64} {d4 : Int64} {h : Hp} {o : Hp} (hv0 : OB3 v0) (hs0 : OB3 s0) (SH : SHP L hi h) (hf : g_X3_draw_144 n K106 v0 v3 v6 v8 s0 s1 s2 h = some o) : Run X (d + 1) 32 144 [some (.ref v0), some (.long d1), none, some (.int v3), some (.long d4), none, some (.long v6), none, some (.int v8)] [.long s2, .int s1, .ref s0] h (none, o) ∧ SHP L hi o := by
  unfold g_X3_draw_144 at hf
  refine And.imp_left (rs_iload_n i_X3_draw_144 rfl) ?_
  obtain ⟨o1, e1, hf⟩ := bind_some hf
  obtain ⟨u1, SH2⟩ := k_X3_lengthen (X := X) (d := d) (by omega) (by omega) hs0 SH e1
  refine And.imp_left (rs_inV i_X3_draw_145 m_X3_lengthen rfl (As := [.int s1, .long s2, .int v3]) (rest := []) rfl rfl (Nat.le_of_ble_eq_true rfl) (sO3 SH hh hs0) u1 (st' := []) rfl) ?_
  clear SH; have SH := SH2; clear SH2
  refine And.imp_left (rs_iinc i_X3_draw_148 rfl (v := v8 + 1) rfl (Nat.le_of_ble_eq_true rfl) (lv' := [some (.ref v0), some (.long d1), none, some (.int v3), some (.long d4), none, some (.long v6), none, some (.int (v8 + 1))]) rfl) ?_
  refine And.imp_left (rs_goto i_X3_draw_151 (tg := 106) (by decide)) ?_
  exact HK106 _ _ _ _ _ _ hv0 _ _ SH hf
noncomputable def g_X3_draw_106 (n : Nat) : Nat → Nat → Int32 → Int64 → Int32 → Hp → Option Hp
  | 0, _, _, _, _, _ => none
  | m + 1, v0, v3, v6, v8, h =>
    if 12 ≤ v8 then
      g_X3_draw_157 n n v0 v3 0 h
    else
      if v6 ≤ (Int32.toInt64 v8) then
        if inb v8 12 = true then
        g_X3_draw_144 n (g_X3_draw_106 n m) v0 v3 v6 v8 v0 v8 (gL' h (v0 + 6) (ix v8)) h
        else none
      else
        if inb v8 12 = true then
        g_X3_draw_144 n (g_X3_draw_106 n m) v0 v3 v6 v8 v0 v8 ((gL' h (v0 + 6) (ix v8)) + 1) h
        else none
set_option maxRecDepth 100000 in
set_option maxHeartbeats 4000000 in
theorem q_X3_draw_106 {X : Nat → Int32} {d : Nat} (hd : 4 ≤ (d + 1)) {L hi : Nat} (hh : 96 ≤ hi) {n : Nat} : ∀ (m : Nat) (v0 : Nat) (v3 : Int32) (v6 : Int64) (v8 : Int32) (d1 : Int64) (d4 : Int64) (hv0 : OB3 v0) (h : Hp) (o : Hp), SHP L hi h → g_X3_draw_106 n m v0 v3 v6 v8 h = some o → Run X (d + 1) 32 106 [some (.ref v0), some (.long d1), none, some (.int v3), some (.long d4), none, some (.long v6), none, some (.int v8)] [] h (none, o) ∧ SHP L hi o := by
  intro m
  induction m with
  | zero => intro v0 v3 v6 v8 d1 d4 hv0 h o SH hf; cases hf
  | succ m ih =>
    intro v0 v3 v6 v8 d1 d4 hv0 h o SH hf
    rw [g_X3_draw_106] at hf
    refine And.imp_left (rs_iload i_X3_draw_106 rfl) ?_
    refine And.imp_left (rs_bipush i_X3_draw_108 (v := 12) (by decide)) ?_
    by_cases c1 : 12 ≤ v8
    · replace hf := (if_pos c1).symm.trans hf
      refine And.imp_left (rs_icT i_X3_draw_110 (ct_ge c1) (tg := 154) (by decide)) ?_
      refine And.imp_left (rs_iconst i_X3_draw_154 (v := 0) (by decide)) ?_
      refine And.imp_left (rs_istore i_X3_draw_155 (Nat.le_of_ble_eq_true rfl) (lv' := [some (.ref v0), some (.long d1), none, some (.int v3), some (.long d4), none, some (.long v6), none, some (.int 0)]) rfl) ?_
      exact q_X3_draw_157 hd hh _ _ _ _ _ _ _ hv0 _ _ SH hf
    · replace hf := (if_neg c1).symm.trans hf
      refine And.imp_left (rs_icF i_X3_draw_110 (cf_ge c1)) ?_
      refine And.imp_left (rs_aload_n i_X3_draw_113 rfl) ?_
      refine And.imp_left (rs_iload i_X3_draw_114 rfl) ?_
      refine And.imp_left (rs_iload i_X3_draw_116 rfl) ?_
      refine And.imp_left (rs_i2l i_X3_draw_118) ?_
      refine And.imp_left (rs_lload i_X3_draw_119 rfl) ?_
      refine And.imp_left (rs_lcmp i_X3_draw_121) ?_
      by_cases c2 : v6 ≤ (Int32.toInt64 v8)
      · replace hf := (if_pos c2).symm.trans hf
        refine And.imp_left (rs_ifT i_X3_draw_122 (by rw [lc_ge]; exact decide_eq_true c2) (tg := 137) (by decide)) ?_
        refine And.imp_left (rs_aload_n i_X3_draw_137 rfl) ?_
        refine And.imp_left (rs_getR i_X3_draw_138 (by decide) (by decide) (sO3 SH hh hv0) (sR3_5 SH hh hv0)) ?_
        refine And.imp_left (rs_iload i_X3_draw_141 rfl) ?_
        obtain ⟨c3, hf⟩ := ite_some hf
        refine And.imp_left (rs_lald i_X3_draw_143 (mkL (sA SH hh (k := 10) (n := 12) (aR3_5 hv0)) c3)) ?_
        exact q_X3_draw_144 hd hh ih hv0 hv0 SH hf
      · replace hf := (if_neg c2).symm.trans hf
        refine And.imp_left (rs_ifF i_X3_draw_122 (by rw [lc_ge]; exact decide_eq_false c2)) ?_
        refine And.imp_left (rs_aload_n i_X3_draw_125 rfl) ?_
        refine And.imp_left (rs_getR i_X3_draw_126 (by decide) (by decide) (sO3 SH hh hv0) (sR3_5 SH hh hv0)) ?_
        refine And.imp_left (rs_iload i_X3_draw_129 rfl) ?_
        obtain ⟨c4, hf⟩ := ite_some hf
        refine And.imp_left (rs_lald i_X3_draw_131 (mkL (sA SH hh (k := 10) (n := 12) (aR3_5 hv0)) c4)) ?_
        refine And.imp_left (rs_lconst i_X3_draw_132 (v := 1) (by decide)) ?_
        refine And.imp_left (rs_ladd i_X3_draw_133) ?_
        refine And.imp_left (rs_goto i_X3_draw_134 (tg := 144) (by decide)) ?_
        exact q_X3_draw_144 hd hh ih hv0 hv0 SH hf
noncomputable def g_X3_draw_85 (n : Nat) (K56 : Nat → Int64 → Int32 → Int64 → Int64 → Int32 → Hp → Option Hp) (v0 : Nat) (v1 : Int64) (v3 : Int32) (v4 : Int64) (v6 : Int64) (v8 : Int32) (h : Hp) : Option Hp :=
  if inb v8 12 = true then
  K56 v0 v1 v3 v4 (v6 - (gL' h (v0 + 6) (ix v8))) (v8 + 1) h
  else none
set_option maxRecDepth 100000 in
set_option maxHeartbeats 4000000 in
theorem q_X3_draw_85 {X : Nat → Int32} {d : Nat} (hd : 4 ≤ (d + 1)) {L hi : Nat} (hh : 96 ≤ hi) {n : Nat} {K56 : Nat → Int64 → Int32 → Int64 → Int64 → Int32 → Hp → Option Hp} (HK56 : ∀ (v0 : Nat) (v1 : Int64) (v3 : Int32) (v4 : Int64) (v6 : Int64) (v8 : Int32) (hv0 : OB3 v0) (h : Hp) (o : Hp), SHP L hi h → K56 v0 v1 v3 v4 v6 v8 h = some o → Run X (d + 1) 32 56 [some (.ref v0), some (.long v1), none, some (.int v3), some (.long v4), none, some (.long v6), none, some (.int v8)] [] h (none, o) ∧ SHP L hi o) {v0 : Nat} {v1 : Int64} {v3 : Int32} {v4 : Int64} {v6 : Int64} {v8 : Int32} {h : Hp} {o : Hp} (hv0 : OB3 v0) (SH : SHP L hi h) (hf : g_X3_draw_85 n K56 v0 v1 v3 v4 v6 v8 h = some o) : Run X (d + 1) 32 85 [some (.ref v0), some (.long v1), none, some (.int v3), some (.long v4), none, some (.long v6), none, some (.int v8)] [] h (none, o) ∧ SHP L hi o := by
  unfold g_X3_draw_85 at hf
  refine And.imp_left (rs_lload i_X3_draw_85 rfl) ?_
  refine And.imp_left (rs_aload_n i_X3_draw_87 rfl) ?_
  refine And.imp_left (rs_getR i_X3_draw_88 (by decide) (by decide) (sO3 SH hh hv0) (sR3_5 SH hh hv0)) ?_
  refine And.imp_left (rs_iload i_X3_draw_91 rfl) ?_
  obtain ⟨c1, hf⟩ := ite_some hf
  refine And.imp_left (rs_lald i_X3_draw_93 (mkL (sA SH hh (k := 10) (n := 12) (aR3_5 hv0)) c1)) ?_
  refine And.imp_left (rs_lsub i_X3_draw_94) ?_
  refine And.imp_left (rs_lstore i_X3_draw_95 (Nat.le_of_ble_eq_true rfl) (lv' := [some (.ref v0), some (.long v1), none, some (.int v3), some (.long v4), none, some (.long (v6 - (gL' h (v0 + 6) (ix v8)))), none, some (.int v8)]) rfl) ?_
  refine And.imp_left (rs_iinc i_X3_draw_97 rfl (v := v8 + 1) rfl (Nat.le_of_ble_eq_true rfl) (lv' := [some (.ref v0), some (.long v1), none, some (.int v3), some (.long v4), none, some (.long (v6 - (gL' h (v0 + 6) (ix v8)))), none, some (.int (v8 + 1))]) rfl) ?_
  refine And.imp_left (rs_goto i_X3_draw_100 (tg := 56) (by decide)) ?_
  exact HK56 _ _ _ _ _ _ hv0 _ _ SH hf
noncomputable def g_X3_draw_56 (n : Nat) : Nat → Nat → Int64 → Int32 → Int64 → Int64 → Int32 → Hp → Option Hp
  | 0, _, _, _, _, _, _, _ => none
  | m + 1, v0, v1, v3, v4, v6, v8, h =>
    if 12 ≤ v8 then
      g_X3_draw_106 n n v0 v3 v6 0 h
    else
      if inb v8 12 = true then
      (g_X7_quotient (v1 * (Int32.toInt64 (gI h (v0 + 4) (ix v8)))) v4 h).bind fun o3 =>
      g_X3_draw_85 n (g_X3_draw_56 n m) v0 v1 v3 v4 v6 v8 (hsl o3.2 (v0 + 6) (ix v8) o3.1)
      else none
set_option maxRecDepth 100000 in
set_option maxHeartbeats 4000000 in
theorem q_X3_draw_56 {X : Nat → Int32} {d : Nat} (hd : 4 ≤ (d + 1)) {L hi : Nat} (hh : 96 ≤ hi) {n : Nat} : ∀ (m : Nat) (v0 : Nat) (v1 : Int64) (v3 : Int32) (v4 : Int64) (v6 : Int64) (v8 : Int32) (hv0 : OB3 v0) (h : Hp) (o : Hp), SHP L hi h → g_X3_draw_56 n m v0 v1 v3 v4 v6 v8 h = some o → Run X (d + 1) 32 56 [some (.ref v0), some (.long v1), none, some (.int v3), some (.long v4), none, some (.long v6), none, some (.int v8)] [] h (none, o) ∧ SHP L hi o := by
  intro m
  induction m with
  | zero => intro v0 v1 v3 v4 v6 v8 hv0 h o SH hf; cases hf
  | succ m ih =>
    intro v0 v1 v3 v4 v6 v8 hv0 h o SH hf
    rw [g_X3_draw_56] at hf
    refine And.imp_left (rs_iload i_X3_draw_56 rfl) ?_
    refine And.imp_left (rs_bipush i_X3_draw_58 (v := 12) (by decide)) ?_
    by_cases c1 : 12 ≤ v8
    · replace hf := (if_pos c1).symm.trans hf
      refine And.imp_left (rs_icT i_X3_draw_60 (ct_ge c1) (tg := 103) (by decide)) ?_
      refine And.imp_left (rs_iconst i_X3_draw_103 (v := 0) (by decide)) ?_
      refine And.imp_left (rs_istore i_X3_draw_104 (Nat.le_of_ble_eq_true rfl) (lv' := [some (.ref v0), some (.long v1), none, some (.int v3), some (.long v4), none, some (.long v6), none, some (.int 0)]) rfl) ?_
      exact q_X3_draw_106 hd hh _ _ _ _ _ _ _ hv0 _ _ SH hf
    · replace hf := (if_neg c1).symm.trans hf
      refine And.imp_left (rs_icF i_X3_draw_60 (cf_ge c1)) ?_
      refine And.imp_left (rs_aload_n i_X3_draw_63 rfl) ?_
      refine And.imp_left (rs_getR i_X3_draw_64 (by decide) (by decide) (sO3 SH hh hv0) (sR3_5 SH hh hv0)) ?_
      refine And.imp_left (rs_iload i_X3_draw_67 rfl) ?_
      refine And.imp_left (rs_lload_n i_X3_draw_69 rfl) ?_
      refine And.imp_left (rs_aload_n i_X3_draw_70 rfl) ?_
      refine And.imp_left (rs_getR i_X3_draw_71 (by decide) (by decide) (sO3 SH hh hv0) (sR3_3 SH hh hv0)) ?_
      refine And.imp_left (rs_iload i_X3_draw_74 rfl) ?_
      obtain ⟨c2, hf⟩ := ite_some hf
      refine And.imp_left (rs_iald i_X3_draw_76 (mkI (sA SH hh (k := 9) (n := 12) (aR3_3 hv0)) c2)) ?_
      refine And.imp_left (rs_i2l i_X3_draw_77) ?_
      refine And.imp_left (rs_lmul i_X3_draw_78) ?_
      refine And.imp_left (rs_lload i_X3_draw_79 rfl) ?_
      obtain ⟨o3, e3, hf⟩ := bind_some hf
      obtain ⟨u3, SH2⟩ := k_X7_quotient (X := X) (d := d) (by omega) (by omega) SH e3
      refine And.imp_left (rs_inS i_X3_draw_81 (by decide) m_X7_quotient rfl (As := [.long (v1 * (Int32.toInt64 (gI h (v0 + 4) (ix v8)))), .long v4]) (rest := [.int v8, .ref (v0 + 6)]) rfl rfl (Nat.le_of_ble_eq_true rfl) u3 (st' := [.long o3.1, .int v8, .ref (v0 + 6)]) rfl) ?_
      clear SH; have SH := SH2; clear SH2
      refine And.imp_left (rs_last i_X3_draw_84 (mkL (sA SH hh (k := 10) (n := 12) (aR3_5 hv0)) c2)) ?_
      have SH := shl SH (v0 + 6) (ix v8) o3.1
      exact q_X3_draw_85 hd hh ih hv0 SH hf
noncomputable def g_X3_draw_44 (n : Nat) (K6 : Nat → Int64 → Int32 → Int64 → Int32 → Hp → Option Hp) (v0 : Nat) (v1 : Int64) (v3 : Int32) (v4 : Int64) (v6 : Int32) (h : Hp) : Option Hp :=
  K6 v0 v1 v3 v4 (v6 + 1) h
set_option maxRecDepth 100000 in
set_option maxHeartbeats 4000000 in
theorem q_X3_draw_44 {X : Nat → Int32} {d : Nat} (hd : 4 ≤ (d + 1)) {L hi : Nat} (hh : 96 ≤ hi) {n : Nat} {K6 : Nat → Int64 → Int32 → Int64 → Int32 → Hp → Option Hp} (HK6 : ∀ (v0 : Nat) (v1 : Int64) (v3 : Int32) (v4 : Int64) (v6 : Int32) (hv0 : OB3 v0) (h : Hp) (o : Hp), SHP L hi h → K6 v0 v1 v3 v4 v6 h = some o → Run X (d + 1) 32 6 [some (.ref v0), some (.long v1), none, some (.int v3), some (.long v4), none, some (.int v6), none, none] [] h (none, o) ∧ SHP L hi o) {v0 : Nat} {v1 : Int64} {v3 : Int32} {v4 : Int64} {v6 : Int32} {h : Hp} {o : Hp} (hv0 : OB3 v0) (SH : SHP L hi h) (hf : g_X3_draw_44 n K6 v0 v1 v3 v4 v6 h = some o) : Run X (d + 1) 32 44 [some (.ref v0), some (.long v1), none, some (.int v3), some (.long v4), none, some (.int v6), none, none] [] h (none, o) ∧ SHP L hi o := by
  unfold g_X3_draw_44 at hf
  refine And.imp_left (rs_iinc i_X3_draw_44 rfl (v := v6 + 1) rfl (Nat.le_of_ble_eq_true rfl) (lv' := [some (.ref v0), some (.long v1), none, some (.int v3), some (.long v4), none, some (.int (v6 + 1)), none, none]) rfl) ?_
  refine And.imp_left (rs_goto i_X3_draw_47 (tg := 6) (by decide)) ?_
  exact HK6 _ _ _ _ _ hv0 _ _ SH hf
noncomputable def g_X3_draw_31 (n : Nat) (K6 : Nat → Int64 → Int32 → Int64 → Int32 → Hp → Option Hp) (v0 : Nat) (v1 : Int64) (v3 : Int32) (v4 : Int64) (v6 : Int32) (h : Hp) : Option Hp :=
  if inb v6 12 = true then
  g_X3_draw_44 n K6 v0 v1 v3 (v4 + (Int32.toInt64 (gI h (v0 + 4) (ix v6)))) v6 h
  else none
set_option maxRecDepth 100000 in
set_option maxHeartbeats 4000000 in
theorem q_X3_draw_31 {X : Nat → Int32} {d : Nat} (hd : 4 ≤ (d + 1)) {L hi : Nat} (hh : 96 ≤ hi) {n : Nat} {K6 : Nat → Int64 → Int32 → Int64 → Int32 → Hp → Option Hp} (HK6 : ∀ (v0 : Nat) (v1 : Int64) (v3 : Int32) (v4 : Int64) (v6 : Int32) (hv0 : OB3 v0) (h : Hp) (o : Hp), SHP L hi h → K6 v0 v1 v3 v4 v6 h = some o → Run X (d + 1) 32 6 [some (.ref v0), some (.long v1), none, some (.int v3), some (.long v4), none, some (.int v6), none, none] [] h (none, o) ∧ SHP L hi o) {v0 : Nat} {v1 : Int64} {v3 : Int32} {v4 : Int64} {v6 : Int32} {h : Hp} {o : Hp} (hv0 : OB3 v0) (SH : SHP L hi h) (hf : g_X3_draw_31 n K6 v0 v1 v3 v4 v6 h = some o) : Run X (d + 1) 32 31 [some (.ref v0), some (.long v1), none, some (.int v3), some (.long v4), none, some (.int v6), none, none] [] h (none, o) ∧ SHP L hi o := by
  unfold g_X3_draw_31 at hf
  refine And.imp_left (rs_lload i_X3_draw_31 rfl) ?_
  refine And.imp_left (rs_aload_n i_X3_draw_33 rfl) ?_
  refine And.imp_left (rs_getR i_X3_draw_34 (by decide) (by decide) (sO3 SH hh hv0) (sR3_3 SH hh hv0)) ?_
  refine And.imp_left (rs_iload i_X3_draw_37 rfl) ?_
  obtain ⟨c1, hf⟩ := ite_some hf
  refine And.imp_left (rs_iald i_X3_draw_39 (mkI (sA SH hh (k := 9) (n := 12) (aR3_3 hv0)) c1)) ?_
  refine And.imp_left (rs_i2l i_X3_draw_40) ?_
  refine And.imp_left (rs_ladd i_X3_draw_41) ?_
  refine And.imp_left (rs_lstore i_X3_draw_42 (Nat.le_of_ble_eq_true rfl) (lv' := [some (.ref v0), some (.long v1), none, some (.int v3), some (.long (v4 + (Int32.toInt64 (gI h (v0 + 4) (ix v6))))), none, some (.int v6), none, none]) rfl) ?_
  exact q_X3_draw_44 hd hh HK6 hv0 SH hf
noncomputable def g_X3_draw_6 (n : Nat) : Nat → Nat → Int64 → Int32 → Int64 → Int32 → Hp → Option Hp
  | 0, _, _, _, _, _, _ => none
  | m + 1, v0, v1, v3, v4, v6, h =>
    if 12 ≤ v6 then
      g_X3_draw_56 n n v0 v1 v3 v4 v1 0 h
    else
      (g_X1_ease n v0 v6 v3 h).bind fun o2 =>
      if inb v6 12 = true then
      g_X3_draw_31 n (g_X3_draw_6 n m) v0 v1 v3 v4 v6 (hsi o2.2 (v0 + 4) (ix v6) o2.1)
      else none
set_option maxRecDepth 100000 in
set_option maxHeartbeats 4000000 in
theorem q_X3_draw_6 {X : Nat → Int32} {d : Nat} (hd : 4 ≤ (d + 1)) {L hi : Nat} (hh : 96 ≤ hi) {n : Nat} : ∀ (m : Nat) (v0 : Nat) (v1 : Int64) (v3 : Int32) (v4 : Int64) (v6 : Int32) (hv0 : OB3 v0) (h : Hp) (o : Hp), SHP L hi h → g_X3_draw_6 n m v0 v1 v3 v4 v6 h = some o → Run X (d + 1) 32 6 [some (.ref v0), some (.long v1), none, some (.int v3), some (.long v4), none, some (.int v6), none, none] [] h (none, o) ∧ SHP L hi o := by
  intro m
  induction m with
  | zero => intro v0 v1 v3 v4 v6 hv0 h o SH hf; cases hf
  | succ m ih =>
    intro v0 v1 v3 v4 v6 hv0 h o SH hf
    rw [g_X3_draw_6] at hf
    refine And.imp_left (rs_iload i_X3_draw_6 rfl) ?_
    refine And.imp_left (rs_bipush i_X3_draw_8 (v := 12) (by decide)) ?_
    by_cases c1 : 12 ≤ v6
    · replace hf := (if_pos c1).symm.trans hf
      refine And.imp_left (rs_icT i_X3_draw_10 (ct_ge c1) (tg := 50) (by decide)) ?_
      refine And.imp_left (rs_lload_n i_X3_draw_50 rfl) ?_
      refine And.imp_left (rs_lstore i_X3_draw_51 (Nat.le_of_ble_eq_true rfl) (lv' := [some (.ref v0), some (.long v1), none, some (.int v3), some (.long v4), none, some (.long v1), none, none]) rfl) ?_
      refine And.imp_left (rs_iconst i_X3_draw_53 (v := 0) (by decide)) ?_
      refine And.imp_left (rs_istore i_X3_draw_54 (Nat.le_of_ble_eq_true rfl) (lv' := [some (.ref v0), some (.long v1), none, some (.int v3), some (.long v4), none, some (.long v1), none, some (.int 0)]) rfl) ?_
      exact q_X3_draw_56 hd hh _ _ _ _ _ _ _ hv0 _ _ SH hf
    · replace hf := (if_neg c1).symm.trans hf
      refine And.imp_left (rs_icF i_X3_draw_10 (cf_ge c1)) ?_
      refine And.imp_left (rs_aload_n i_X3_draw_13 rfl) ?_
      refine And.imp_left (rs_getR i_X3_draw_14 (by decide) (by decide) (sO3 SH hh hv0) (sR3_3 SH hh hv0)) ?_
      refine And.imp_left (rs_iload i_X3_draw_17 rfl) ?_
      refine And.imp_left (rs_aload_n i_X3_draw_19 rfl) ?_
      refine And.imp_left (rs_getR i_X3_draw_20 (by decide) (by decide) (sO3 SH hh hv0) (sR3_6 SH hh hv0)) ?_
      refine And.imp_left (rs_aload_n i_X3_draw_23 rfl) ?_
      refine And.imp_left (rs_iload i_X3_draw_24 rfl) ?_
      refine And.imp_left (rs_iload_n i_X3_draw_26 rfl) ?_
      obtain ⟨o2, e2, hf⟩ := bind_some hf
      obtain ⟨u2, SH2⟩ := k_X1_ease (X := X) (d := d) (by omega) (by omega) hv0 SH e2
      refine And.imp_left (rs_inV i_X3_draw_27 m_X1_ease rfl (As := [.ref v0, .int v6, .int v3]) (rest := [.int v6, .ref (v0 + 4)]) rfl rfl (Nat.le_of_ble_eq_true rfl) (sO1 SH hh) u2 (st' := [.int o2.1, .int v6, .ref (v0 + 4)]) rfl) ?_
      clear SH; have SH := SH2; clear SH2
      obtain ⟨c3, hf⟩ := ite_some hf
      refine And.imp_left (rs_iast i_X3_draw_30 (mkI (sA SH hh (k := 9) (n := 12) (aR3_3 hv0)) c3)) ?_
      have SH := shi SH (v0 + 4) (ix v6) o2.1
      exact q_X3_draw_31 hd hh ih hv0 SH hf
noncomputable def g_X3_draw_0 (n : Nat) (v0 : Nat) (v1 : Int64) (v3 : Int32) (h : Hp) : Option Hp :=
  g_X3_draw_6 n n v0 v1 v3 0 0 h
set_option maxRecDepth 100000 in
set_option maxHeartbeats 4000000 in
theorem q_X3_draw_0 {X : Nat → Int32} {d : Nat} (hd : 4 ≤ (d + 1)) {L hi : Nat} (hh : 96 ≤ hi) {n : Nat} {v0 : Nat} {v1 : Int64} {v3 : Int32} {h : Hp} {o : Hp} (hv0 : OB3 v0) (SH : SHP L hi h) (hf : g_X3_draw_0 n v0 v1 v3 h = some o) : Run X (d + 1) 32 0 [some (.ref v0), some (.long v1), none, some (.int v3), none, none, none, none, none] [] h (none, o) ∧ SHP L hi o := by
  unfold g_X3_draw_0 at hf
  refine And.imp_left (rs_lconst i_X3_draw_0 (v := 0) (by decide)) ?_
  refine And.imp_left (rs_lstore i_X3_draw_1 (Nat.le_of_ble_eq_true rfl) (lv' := [some (.ref v0), some (.long v1), none, some (.int v3), some (.long 0), none, none, none, none]) rfl) ?_
  refine And.imp_left (rs_iconst i_X3_draw_3 (v := 0) (by decide)) ?_
  refine And.imp_left (rs_istore i_X3_draw_4 (Nat.le_of_ble_eq_true rfl) (lv' := [some (.ref v0), some (.long v1), none, some (.int v3), some (.long 0), none, some (.int 0), none, none]) rfl) ?_
  exact q_X3_draw_6 hd hh _ _ _ _ _ _ hv0 _ _ SH hf
noncomputable def g_X3_draw (n : Nat) (v0 : Nat) (v1 : Int64) (v3 : Int32) (h : Hp) : Option Hp := g_X3_draw_0 n v0 v1 v3 h
theorem k_X3_draw {X : Nat → Int32} {d : Nat} (hd : 4 ≤ d) {L hi : Nat} (hh : 96 ≤ hi) {n : Nat} {v0 : Nat} {v1 : Int64} {v3 : Int32} {h : Hp} {o : Hp} (hv0 : OB3 v0) (SH : SHP L hi h) (hf : g_X3_draw n v0 v1 v3 h = some o) : Calls X d 32 [.ref v0, .long v1, .int v3] h (none, o) ∧ SHP L hi o := by
  obtain ⟨d, rfl⟩ : ∃ z, d = z + 1 := ⟨d - 1, by omega⟩
  obtain ⟨r, S2⟩ := q_X3_draw_0 hd hh hv0 SH hf
  exact ⟨⟨_, rfl, r⟩, S2⟩
noncomputable def g_X3_foldRow_53 (n : Nat) : Nat → Nat → Nat → Int32 → Hp → Option Hp
  | 0, _, _, _, _ => none
  | m + 1, v0, v1, v4, h =>
    if 12 ≤ v4 then
      some h
    else
      if inb (v4 / 2) 12 = true then
      if inb v4 12 = true then
      (g_X3_foldRow_53 n m) v0 v1 (v4 + 1) (hsi h v1 (ix v4) (gI h (v0 + 5) (ix (v4 / 2))))
      else none
      else none
set_option maxRecDepth 100000 in
set_option maxHeartbeats 4000000 in
theorem q_X3_foldRow_53 {X : Nat → Int32} {d : Nat} (hd : 1 ≤ (d + 1)) {L hi : Nat} (hh : 96 ≤ hi) {n : Nat} : ∀ (m : Nat) (v0 : Nat) (v1 : Nat) (v4 : Int32) (d2 : Int32) (d3 : Int32) (w5 : Option Value) (hv0 : OB3 v0) (hv1 : ARY 96 v1 9 12) (h : Hp) (o : Hp), SHP L hi h → g_X3_foldRow_53 n m v0 v1 v4 h = some o → Run X (d + 1) 36 53 [some (.ref v0), some (.ref v1), some (.int d2), some (.int d3), some (.int v4), w5] [] h (none, o) ∧ SHP L hi o := by
  intro m
  induction m with
  | zero => intro v0 v1 v4 d2 d3 w5 hv0 hv1 h o SH hf; cases hf
  | succ m ih =>
    intro v0 v1 v4 d2 d3 w5 hv0 hv1 h o SH hf
    rw [g_X3_foldRow_53] at hf
    refine And.imp_left (rs_iload i_X3_foldRow_53 rfl) ?_
    refine And.imp_left (rs_bipush i_X3_foldRow_55 (v := 12) (by decide)) ?_
    by_cases c1 : 12 ≤ v4
    · replace hf := (if_pos c1).symm.trans hf
      refine And.imp_left (rs_icT i_X3_foldRow_57 (ct_ge c1) (tg := 79) (by decide)) ?_
      have hf := Option.some.inj hf
      subst hf
      exact ⟨rs_vret i_X3_foldRow_79 m_X3_foldRow rfl, SH⟩
    · replace hf := (if_neg c1).symm.trans hf
      refine And.imp_left (rs_icF i_X3_foldRow_57 (cf_ge c1)) ?_
      refine And.imp_left (rs_aload_n i_X3_foldRow_60 rfl) ?_
      refine And.imp_left (rs_iload i_X3_foldRow_61 rfl) ?_
      refine And.imp_left (rs_aload_n i_X3_foldRow_63 rfl) ?_
      refine And.imp_left (rs_getR i_X3_foldRow_64 (by decide) (by decide) (sO3 SH hh hv0) (sR3_4 SH hh hv0)) ?_
      refine And.imp_left (rs_iload i_X3_foldRow_67 rfl) ?_
      refine And.imp_left (rs_iconst i_X3_foldRow_69 (v := 2) (by decide)) ?_
      refine And.imp_left (rs_idiv i_X3_foldRow_70 (by decide)) ?_
      obtain ⟨c2, hf⟩ := ite_some hf
      refine And.imp_left (rs_iald i_X3_foldRow_71 (mkI (sA SH hh (k := 9) (n := 12) (aR3_4 hv0)) c2)) ?_
      obtain ⟨c3, hf⟩ := ite_some hf
      refine And.imp_left (rs_iast i_X3_foldRow_72 (mkI (sA SH hh (k := 9) (n := 12) hv1) c3)) ?_
      have SH := shi SH v1 (ix v4) (gI h (v0 + 5) (ix (v4 / 2)))
      refine And.imp_left (rs_iinc i_X3_foldRow_73 rfl (v := v4 + 1) rfl (Nat.le_of_ble_eq_true rfl) (lv' := [some (.ref v0), some (.ref v1), some (.int d2), some (.int d3), some (.int (v4 + 1)), w5]) rfl) ?_
      refine And.imp_left (rs_goto i_X3_foldRow_76 (tg := 53) (by decide)) ?_
      exact ih _ _ _ _ _ _ hv0 hv1 _ _ SH hf
noncomputable def g_X3_foldRow_24 (n : Nat) (K3 : Nat → Nat → Int32 → Int32 → Int32 → Hp → Option Hp) (v0 : Nat) (v1 : Nat) (v2 : Int32) (v3 : Int32) (v4 : Int32) (v5 : Int32) (h : Hp) : Option Hp :=
  (g_X7_quotient (Int32.toInt64 v5) (Int32.toInt64 v2) h).bind fun o1 =>
  if inb v4 12 = true then
  K3 v0 v1 v2 v3 (v4 + 1) (hsi o1.2 (v0 + 5) (ix v4) (if v3 < (Int64.toInt32 o1.1) then (Int64.toInt32 o1.1) else v3))
  else none
set_option maxRecDepth 100000 in
set_option maxHeartbeats 4000000 in
theorem q_X3_foldRow_24 {X : Nat → Int32} {d : Nat} (hd : 1 ≤ (d + 1)) {L hi : Nat} (hh : 96 ≤ hi) {n : Nat} {K3 : Nat → Nat → Int32 → Int32 → Int32 → Hp → Option Hp} (HK3 : ∀ (v0 : Nat) (v1 : Nat) (v2 : Int32) (v3 : Int32) (v4 : Int32) (w5 : Option Value) (hv0 : OB3 v0) (hv1 : ARY 96 v1 9 12) (h : Hp) (o : Hp), SHP L hi h → K3 v0 v1 v2 v3 v4 h = some o → Run X (d + 1) 36 3 [some (.ref v0), some (.ref v1), some (.int v2), some (.int v3), some (.int v4), w5] [] h (none, o) ∧ SHP L hi o) {v0 : Nat} {v1 : Nat} {v2 : Int32} {v3 : Int32} {v4 : Int32} {v5 : Int32} {h : Hp} {o : Hp} (hv0 : OB3 v0) (hv1 : ARY 96 v1 9 12) (SH : SHP L hi h) (hf : g_X3_foldRow_24 n K3 v0 v1 v2 v3 v4 v5 h = some o) : Run X (d + 1) 36 24 [some (.ref v0), some (.ref v1), some (.int v2), some (.int v3), some (.int v4), some (.int v5)] [] h (none, o) ∧ SHP L hi o := by
  unfold g_X3_foldRow_24 at hf
  refine And.imp_left (rs_aload_n i_X3_foldRow_24 rfl) ?_
  refine And.imp_left (rs_getR i_X3_foldRow_25 (by decide) (by decide) (sO3 SH hh hv0) (sR3_4 SH hh hv0)) ?_
  refine And.imp_left (rs_iload i_X3_foldRow_28 rfl) ?_
  refine And.imp_left (rs_iload_n i_X3_foldRow_30 rfl) ?_
  refine And.imp_left (rs_iload i_X3_foldRow_31 rfl) ?_
  refine And.imp_left (rs_i2l i_X3_foldRow_33) ?_
  refine And.imp_left (rs_iload_n i_X3_foldRow_34 rfl) ?_
  refine And.imp_left (rs_i2l i_X3_foldRow_35) ?_
  obtain ⟨o1, e1, hf⟩ := bind_some hf
  obtain ⟨u1, SH2⟩ := k_X7_quotient (X := X) (d := d) (by omega) (by omega) SH e1
  refine And.imp_left (rs_inS i_X3_foldRow_36 (by decide) m_X7_quotient rfl (As := [.long (Int32.toInt64 v5), .long (Int32.toInt64 v2)]) (rest := [.int v3, .int v4, .ref (v0 + 5)]) rfl rfl (Nat.le_of_ble_eq_true rfl) u1 (st' := [.long o1.1, .int v3, .int v4, .ref (v0 + 5)]) rfl) ?_
  clear SH; have SH := SH2; clear SH2
  refine And.imp_left (rs_l2i i_X3_foldRow_39) ?_
  refine And.imp_left (rs_max i_X3_foldRow_40 (Nat.le_of_ble_eq_true rfl)) ?_
  obtain ⟨c2, hf⟩ := ite_some hf
  refine And.imp_left (rs_iast i_X3_foldRow_43 (mkI (sA SH hh (k := 9) (n := 12) (aR3_4 hv0)) c2)) ?_
  have SH := shi SH (v0 + 5) (ix v4) (if v3 < (Int64.toInt32 o1.1) then (Int64.toInt32 o1.1) else v3)
  refine And.imp_left (rs_iinc i_X3_foldRow_44 rfl (v := v4 + 1) rfl (Nat.le_of_ble_eq_true rfl) (lv' := [some (.ref v0), some (.ref v1), some (.int v2), some (.int v3), some (.int (v4 + 1)), some (.int v5)]) rfl) ?_
  refine And.imp_left (rs_goto i_X3_foldRow_47 (tg := 3) (by decide)) ?_
  exact HK3 _ _ _ _ _ _ hv0 hv1 _ _ SH hf
noncomputable def g_X3_foldRow_3 (n : Nat) : Nat → Nat → Nat → Int32 → Int32 → Int32 → Hp → Option Hp
  | 0, _, _, _, _, _, _ => none
  | m + 1, v0, v1, v2, v3, v4, h =>
    if 6 ≤ v4 then
      g_X3_foldRow_53 n n v0 v1 0 h
    else
      if inb v4 12 = true then
      if inb (11 - v4) 12 = true then
      g_X3_foldRow_24 n (g_X3_foldRow_3 n m) v0 v1 v2 v3 v4 ((gI h v1 (ix v4)) + (gI h v1 (ix (11 - v4)))) h
      else none
      else none
set_option maxRecDepth 100000 in
set_option maxHeartbeats 4000000 in
theorem q_X3_foldRow_3 {X : Nat → Int32} {d : Nat} (hd : 1 ≤ (d + 1)) {L hi : Nat} (hh : 96 ≤ hi) {n : Nat} : ∀ (m : Nat) (v0 : Nat) (v1 : Nat) (v2 : Int32) (v3 : Int32) (v4 : Int32) (w5 : Option Value) (hv0 : OB3 v0) (hv1 : ARY 96 v1 9 12) (h : Hp) (o : Hp), SHP L hi h → g_X3_foldRow_3 n m v0 v1 v2 v3 v4 h = some o → Run X (d + 1) 36 3 [some (.ref v0), some (.ref v1), some (.int v2), some (.int v3), some (.int v4), w5] [] h (none, o) ∧ SHP L hi o := by
  intro m
  induction m with
  | zero => intro v0 v1 v2 v3 v4 w5 hv0 hv1 h o SH hf; cases hf
  | succ m ih =>
    intro v0 v1 v2 v3 v4 w5 hv0 hv1 h o SH hf
    rw [g_X3_foldRow_3] at hf
    refine And.imp_left (rs_iload i_X3_foldRow_3 rfl) ?_
    refine And.imp_left (rs_bipush i_X3_foldRow_5 (v := 6) (by decide)) ?_
    by_cases c1 : 6 ≤ v4
    · replace hf := (if_pos c1).symm.trans hf
      refine And.imp_left (rs_icT i_X3_foldRow_7 (ct_ge c1) (tg := 50) (by decide)) ?_
      refine And.imp_left (rs_iconst i_X3_foldRow_50 (v := 0) (by decide)) ?_
      refine And.imp_left (rs_istore i_X3_foldRow_51 (Nat.le_of_ble_eq_true rfl) (lv' := [some (.ref v0), some (.ref v1), some (.int v2), some (.int v3), some (.int 0), w5]) rfl) ?_
      exact q_X3_foldRow_53 hd hh _ _ _ _ _ _ _ hv0 hv1 _ _ SH hf
    · replace hf := (if_neg c1).symm.trans hf
      refine And.imp_left (rs_icF i_X3_foldRow_7 (cf_ge c1)) ?_
      refine And.imp_left (rs_aload_n i_X3_foldRow_10 rfl) ?_
      refine And.imp_left (rs_iload i_X3_foldRow_11 rfl) ?_
      obtain ⟨c2, hf⟩ := ite_some hf
      refine And.imp_left (rs_iald i_X3_foldRow_13 (mkI (sA SH hh (k := 9) (n := 12) hv1) c2)) ?_
      refine And.imp_left (rs_aload_n i_X3_foldRow_14 rfl) ?_
      refine And.imp_left (rs_bipush i_X3_foldRow_15 (v := 11) (by decide)) ?_
      refine And.imp_left (rs_iload i_X3_foldRow_17 rfl) ?_
      refine And.imp_left (rs_isub i_X3_foldRow_19) ?_
      obtain ⟨c3, hf⟩ := ite_some hf
      refine And.imp_left (rs_iald i_X3_foldRow_20 (mkI (sA SH hh (k := 9) (n := 12) hv1) c3)) ?_
      refine And.imp_left (rs_iadd i_X3_foldRow_21) ?_
      refine And.imp_left (rs_istore i_X3_foldRow_22 (Nat.le_of_ble_eq_true rfl) (lv' := [some (.ref v0), some (.ref v1), some (.int v2), some (.int v3), some (.int v4), some (.int ((gI h v1 (ix v4)) + (gI h v1 (ix (11 - v4)))))]) rfl) ?_
      exact q_X3_foldRow_24 hd hh ih hv0 hv1 SH hf
noncomputable def g_X3_foldRow_0 (n : Nat) (v0 : Nat) (v1 : Nat) (v2 : Int32) (v3 : Int32) (h : Hp) : Option Hp :=
  g_X3_foldRow_3 n n v0 v1 v2 v3 0 h
set_option maxRecDepth 100000 in
set_option maxHeartbeats 4000000 in
theorem q_X3_foldRow_0 {X : Nat → Int32} {d : Nat} (hd : 1 ≤ (d + 1)) {L hi : Nat} (hh : 96 ≤ hi) {n : Nat} {v0 : Nat} {v1 : Nat} {v2 : Int32} {v3 : Int32} {h : Hp} {o : Hp} (hv0 : OB3 v0) (hv1 : ARY 96 v1 9 12) (SH : SHP L hi h) (hf : g_X3_foldRow_0 n v0 v1 v2 v3 h = some o) : Run X (d + 1) 36 0 [some (.ref v0), some (.ref v1), some (.int v2), some (.int v3), none, none] [] h (none, o) ∧ SHP L hi o := by
  unfold g_X3_foldRow_0 at hf
  refine And.imp_left (rs_iconst i_X3_foldRow_0 (v := 0) (by decide)) ?_
  refine And.imp_left (rs_istore i_X3_foldRow_1 (Nat.le_of_ble_eq_true rfl) (lv' := [some (.ref v0), some (.ref v1), some (.int v2), some (.int v3), some (.int 0), none]) rfl) ?_
  exact q_X3_foldRow_3 hd hh _ _ _ _ _ _ _ hv0 hv1 _ _ SH hf
noncomputable def g_X3_foldRow (n : Nat) (v0 : Nat) (v1 : Nat) (v2 : Int32) (v3 : Int32) (h : Hp) : Option Hp := g_X3_foldRow_0 n v0 v1 v2 v3 h
theorem k_X3_foldRow {X : Nat → Int32} {d : Nat} (hd : 1 ≤ d) {L hi : Nat} (hh : 96 ≤ hi) {n : Nat} {v0 : Nat} {v1 : Nat} {v2 : Int32} {v3 : Int32} {h : Hp} {o : Hp} (hv0 : OB3 v0) (hv1 : ARY 96 v1 9 12) (SH : SHP L hi h) (hf : g_X3_foldRow n v0 v1 v2 v3 h = some o) : Calls X d 36 [.ref v0, .ref v1, .int v2, .int v3] h (none, o) ∧ SHP L hi o := by
  obtain ⟨d, rfl⟩ : ∃ z, d = z + 1 := ⟨d - 1, by omega⟩
  obtain ⟨r, S2⟩ := q_X3_foldRow_0 hd hh hv0 hv1 SH hf
  exact ⟨⟨_, rfl, r⟩, S2⟩
noncomputable def g_X3_fold_40 (n : Nat) (v0 : Nat) (h : Hp) : Option Hp :=
  (g_X1_sticks n v0 h).bind fun o1 =>
  some (hsl o1.2 v0 11 (((gL' h v0 11) * (Int32.toInt64 (100 - o1.1))) / 100))
set_option maxRecDepth 100000 in
set_option maxHeartbeats 4000000 in
theorem q_X3_fold_40 {X : Nat → Int32} {d : Nat} (hd : 4 ≤ (d + 1)) {L hi : Nat} (hh : 96 ≤ hi) {n : Nat} {v0 : Nat} {h : Hp} {o : Hp} (hv0 : OB3 v0) (SH : SHP L hi h) (hf : g_X3_fold_40 n v0 h = some o) : Run X (d + 1) 35 40 [some (.ref v0)] [] h (none, o) ∧ SHP L hi o := by
  unfold g_X3_fold_40 at hf
  refine And.imp_left (rs_aload_n i_X3_fold_40 rfl) ?_
  refine And.imp_left (rs_aload_n i_X3_fold_41 rfl) ?_
  refine And.imp_left (rs_getL i_X3_fold_42 (by decide) (by decide) (sO3 SH hh hv0)) ?_
  refine And.imp_left (rs_bipush i_X3_fold_45 (v := 100) (by decide)) ?_
  refine And.imp_left (rs_aload_n i_X3_fold_47 rfl) ?_
  refine And.imp_left (rs_getR i_X3_fold_48 (by decide) (by decide) (sO3 SH hh hv0) (sR3_6 SH hh hv0)) ?_
  refine And.imp_left (rs_aload_n i_X3_fold_51 rfl) ?_
  obtain ⟨o1, e1, hf⟩ := bind_some hf
  obtain ⟨u1, SH2⟩ := k_X1_sticks (X := X) (d := d) (by omega) (by omega) hv0 SH e1
  refine And.imp_left (rs_inV i_X3_fold_52 m_X1_sticks rfl (As := [.ref v0]) (rest := [.int 100, .long (gL' h v0 11), .ref v0]) rfl rfl (Nat.le_of_ble_eq_true rfl) (sO1 SH hh) u1 (st' := [.int o1.1, .int 100, .long (gL' h v0 11), .ref v0]) rfl) ?_
  clear SH; have SH := SH2; clear SH2
  refine And.imp_left (rs_isub i_X3_fold_55) ?_
  refine And.imp_left (rs_i2l i_X3_fold_56) ?_
  refine And.imp_left (rs_lmul i_X3_fold_57) ?_
  refine And.imp_left (rs_ldc2 i_X3_fold_58 (v := 100) (by decide)) ?_
  refine And.imp_left (rs_ldiv i_X3_fold_61 (by decide)) ?_
  refine And.imp_left (rs_putL i_X3_fold_62 (by decide) (sO3 SH hh hv0)) ?_
  have SH := shl SH v0 11 (((gL' h v0 11) * (Int32.toInt64 (100 - o1.1))) / 100)
  have hf := Option.some.inj hf
  subst hf
  exact ⟨rs_vret i_X3_fold_65 m_X3_fold rfl, SH⟩
noncomputable def g_X3_fold_0 (n : Nat) (v0 : Nat) (h : Hp) : Option Hp :=
  (g_X3_foldRow n v0 (v0 + 1) 4 0 h).bind fun o1 =>
  (g_X3_foldRow n v0 (v0 + 2) 4 1 o1).bind fun o2 =>
  (g_X3_foldRow n v0 (v0 + 3) 2 0 o2).bind fun o3 =>
  g_X3_fold_40 n v0 (hsi o3 v0 7 ((gI o3 v0 7) + 1))
set_option maxRecDepth 100000 in
set_option maxHeartbeats 4000000 in
theorem q_X3_fold_0 {X : Nat → Int32} {d : Nat} (hd : 4 ≤ (d + 1)) {L hi : Nat} (hh : 96 ≤ hi) {n : Nat} {v0 : Nat} {h : Hp} {o : Hp} (hv0 : OB3 v0) (SH : SHP L hi h) (hf : g_X3_fold_0 n v0 h = some o) : Run X (d + 1) 35 0 [some (.ref v0)] [] h (none, o) ∧ SHP L hi o := by
  unfold g_X3_fold_0 at hf
  refine And.imp_left (rs_aload_n i_X3_fold_0 rfl) ?_
  refine And.imp_left (rs_aload_n i_X3_fold_1 rfl) ?_
  refine And.imp_left (rs_getR i_X3_fold_2 (by decide) (by decide) (sO3 SH hh hv0) (sR3_0 SH hh hv0)) ?_
  refine And.imp_left (rs_iconst i_X3_fold_5 (v := 4) (by decide)) ?_
  refine And.imp_left (rs_iconst i_X3_fold_6 (v := 0) (by decide)) ?_
  obtain ⟨o1, e1, hf⟩ := bind_some hf
  obtain ⟨u1, SH2⟩ := k_X3_foldRow (X := X) (d := d) (by omega) (by omega) hv0 (aR3_0 hv0) SH e1
  refine And.imp_left (rs_inV i_X3_fold_7 m_X3_foldRow rfl (As := [.ref (v0 + 1), .int 4, .int 0]) (rest := []) rfl rfl (Nat.le_of_ble_eq_true rfl) (sO3 SH hh hv0) u1 (st' := []) rfl) ?_
  clear SH; have SH := SH2; clear SH2
  refine And.imp_left (rs_aload_n i_X3_fold_10 rfl) ?_
  refine And.imp_left (rs_aload_n i_X3_fold_11 rfl) ?_
  refine And.imp_left (rs_getR i_X3_fold_12 (by decide) (by decide) (sO3 SH hh hv0) (sR3_1 SH hh hv0)) ?_
  refine And.imp_left (rs_iconst i_X3_fold_15 (v := 4) (by decide)) ?_
  refine And.imp_left (rs_iconst i_X3_fold_16 (v := 1) (by decide)) ?_
  obtain ⟨o2, e2, hf⟩ := bind_some hf
  obtain ⟨u2, SH2⟩ := k_X3_foldRow (X := X) (d := d) (by omega) (by omega) hv0 (aR3_1 hv0) SH e2
  refine And.imp_left (rs_inV i_X3_fold_17 m_X3_foldRow rfl (As := [.ref (v0 + 2), .int 4, .int 1]) (rest := []) rfl rfl (Nat.le_of_ble_eq_true rfl) (sO3 SH hh hv0) u2 (st' := []) rfl) ?_
  clear SH; have SH := SH2; clear SH2
  refine And.imp_left (rs_aload_n i_X3_fold_20 rfl) ?_
  refine And.imp_left (rs_aload_n i_X3_fold_21 rfl) ?_
  refine And.imp_left (rs_getR i_X3_fold_22 (by decide) (by decide) (sO3 SH hh hv0) (sR3_2 SH hh hv0)) ?_
  refine And.imp_left (rs_iconst i_X3_fold_25 (v := 2) (by decide)) ?_
  refine And.imp_left (rs_iconst i_X3_fold_26 (v := 0) (by decide)) ?_
  obtain ⟨o3, e3, hf⟩ := bind_some hf
  obtain ⟨u3, SH2⟩ := k_X3_foldRow (X := X) (d := d) (by omega) (by omega) hv0 (aR3_2 hv0) SH e3
  refine And.imp_left (rs_inV i_X3_fold_27 m_X3_foldRow rfl (As := [.ref (v0 + 3), .int 2, .int 0]) (rest := []) rfl rfl (Nat.le_of_ble_eq_true rfl) (sO3 SH hh hv0) u3 (st' := []) rfl) ?_
  clear SH; have SH := SH2; clear SH2
  refine And.imp_left (rs_aload_n i_X3_fold_30 rfl) ?_
  refine And.imp_left (rs_dup i_X3_fold_31 rfl) ?_
  refine And.imp_left (rs_getI i_X3_fold_32 (by decide) (by decide) (sO3 SH hh hv0)) ?_
  refine And.imp_left (rs_iconst i_X3_fold_35 (v := 1) (by decide)) ?_
  refine And.imp_left (rs_iadd i_X3_fold_36) ?_
  refine And.imp_left (rs_putI i_X3_fold_37 (by decide) (sO3 SH hh hv0)) ?_
  have SH := shi SH v0 7 ((gI o3 v0 7) + 1)
  exact q_X3_fold_40 hd hh hv0 SH hf
noncomputable def g_X3_fold (n : Nat) (v0 : Nat) (h : Hp) : Option Hp := g_X3_fold_0 n v0 h
theorem k_X3_fold {X : Nat → Int32} {d : Nat} (hd : 4 ≤ d) {L hi : Nat} (hh : 96 ≤ hi) {n : Nat} {v0 : Nat} {h : Hp} {o : Hp} (hv0 : OB3 v0) (SH : SHP L hi h) (hf : g_X3_fold n v0 h = some o) : Calls X d 35 [.ref v0] h (none, o) ∧ SHP L hi o := by
  obtain ⟨d, rfl⟩ : ∃ z, d = z + 1 := ⟨d - 1, by omega⟩
  obtain ⟨r, S2⟩ := q_X3_fold_0 hd hh hv0 SH hf
  exact ⟨⟨_, rfl, r⟩, S2⟩
noncomputable def g_X3_powder_0 (v0 : Nat) (v1 : Int32) (h : Hp) : Option Hp :=
  some (hsi h v0 8 (if ((gI h v0 8) + v1) < 99 then ((gI h v0 8) + v1) else 99))
set_option maxRecDepth 100000 in
set_option maxHeartbeats 4000000 in
theorem q_X3_powder_0 {X : Nat → Int32} {d : Nat} (hd : 0 ≤ d) {L hi : Nat} (hh : 96 ≤ hi) {v0 : Nat} {v1 : Int32} {h : Hp} {o : Hp} (hv0 : OB3 v0) (SH : SHP L hi h) (hf : g_X3_powder_0 v0 v1 h = some o) : Run X d 37 0 [some (.ref v0), some (.int v1)] [] h (none, o) ∧ SHP L hi o := by
  unfold g_X3_powder_0 at hf
  refine And.imp_left (rs_aload_n i_X3_powder_0 rfl) ?_
  refine And.imp_left (rs_bipush i_X3_powder_1 (v := 99) (by decide)) ?_
  refine And.imp_left (rs_aload_n i_X3_powder_3 rfl) ?_
  refine And.imp_left (rs_getI i_X3_powder_4 (by decide) (by decide) (sO3 SH hh hv0)) ?_
  refine And.imp_left (rs_iload_n i_X3_powder_7 rfl) ?_
  refine And.imp_left (rs_iadd i_X3_powder_8) ?_
  refine And.imp_left (rs_min i_X3_powder_9 (Nat.le_of_ble_eq_true rfl)) ?_
  refine And.imp_left (rs_putI i_X3_powder_12 (by decide) (sO3 SH hh hv0)) ?_
  have SH := shi SH v0 8 (if ((gI h v0 8) + v1) < 99 then ((gI h v0 8) + v1) else 99)
  have hf := Option.some.inj hf
  subst hf
  exact ⟨rs_vret i_X3_powder_15 m_X3_powder rfl, SH⟩
noncomputable def g_X3_powder (v0 : Nat) (v1 : Int32) (h : Hp) : Option Hp := g_X3_powder_0 v0 v1 h
theorem k_X3_powder {X : Nat → Int32} {d : Nat} (hd : 0 ≤ d) {L hi : Nat} (hh : 96 ≤ hi) {v0 : Nat} {v1 : Int32} {h : Hp} {o : Hp} (hv0 : OB3 v0) (SH : SHP L hi h) (hf : g_X3_powder v0 v1 h = some o) : Calls X d 37 [.ref v0, .int v1] h (none, o) ∧ SHP L hi o := by
  obtain ⟨r, S2⟩ := q_X3_powder_0 hd hh hv0 SH hf
  exact ⟨⟨_, rfl, r⟩, S2⟩
noncomputable def g_X3_relax_2 (n : Nat) : Nat → Nat → Int32 → Int32 → Hp → Option Hp
  | 0, _, _, _, _ => none
  | m + 1, v0, v1, v2, h =>
    if 12 ≤ v2 then
      some h
    else
      if inb v2 12 = true then
      (g_X3_relax_2 n m) v0 v1 (v2 + 1) (hsi h (v0 + 3) (ix v2) (if 0 < ((gI h (v0 + 3) (ix v2)) - (v1 * ((gI h 80 3) + 1))) then ((gI h (v0 + 3) (ix v2)) - (v1 * ((gI h 80 3) + 1))) else 0))
      else none
set_option maxRecDepth 100000 in
set_option maxHeartbeats 4000000 in
theorem q_X3_relax_2 {X : Nat → Int32} {d : Nat} (hd : 0 ≤ d) {L hi : Nat} (hh : 96 ≤ hi) {n : Nat} : ∀ (m : Nat) (v0 : Nat) (v1 : Int32) (v2 : Int32) (hv0 : OB3 v0) (h : Hp) (o : Hp), SHP L hi h → g_X3_relax_2 n m v0 v1 v2 h = some o → Run X d 31 2 [some (.ref v0), some (.int v1), some (.int v2)] [] h (none, o) ∧ SHP L hi o := by
  intro m
  induction m with
  | zero => intro v0 v1 v2 hv0 h o SH hf; cases hf
  | succ m ih =>
    intro v0 v1 v2 hv0 h o SH hf
    rw [g_X3_relax_2] at hf
    refine And.imp_left (rs_iload_n i_X3_relax_2 rfl) ?_
    refine And.imp_left (rs_bipush i_X3_relax_3 (v := 12) (by decide)) ?_
    by_cases c1 : 12 ≤ v2
    · replace hf := (if_pos c1).symm.trans hf
      refine And.imp_left (rs_icT i_X3_relax_5 (ct_ge c1) (tg := 42) (by decide)) ?_
      have hf := Option.some.inj hf
      subst hf
      exact ⟨rs_vret i_X3_relax_42 m_X3_relax rfl, SH⟩
    · replace hf := (if_neg c1).symm.trans hf
      refine And.imp_left (rs_icF i_X3_relax_5 (cf_ge c1)) ?_
      refine And.imp_left (rs_aload_n i_X3_relax_8 rfl) ?_
      refine And.imp_left (rs_getR i_X3_relax_9 (by decide) (by decide) (sO3 SH hh hv0) (sR3_2 SH hh hv0)) ?_
      refine And.imp_left (rs_iload_n i_X3_relax_12 rfl) ?_
      refine And.imp_left (rs_iconst i_X3_relax_13 (v := 0) (by decide)) ?_
      refine And.imp_left (rs_aload_n i_X3_relax_14 rfl) ?_
      refine And.imp_left (rs_getR i_X3_relax_15 (by decide) (by decide) (sO3 SH hh hv0) (sR3_2 SH hh hv0)) ?_
      refine And.imp_left (rs_iload_n i_X3_relax_18 rfl) ?_
      obtain ⟨c2, hf⟩ := ite_some hf
      refine And.imp_left (rs_iald i_X3_relax_19 (mkI (sA SH hh (k := 9) (n := 12) (aR3_2 hv0)) c2)) ?_
      refine And.imp_left (rs_iload_n i_X3_relax_20 rfl) ?_
      refine And.imp_left (rs_aload_n i_X3_relax_21 rfl) ?_
      refine And.imp_left (rs_getR i_X3_relax_22 (by decide) (by decide) (sO3 SH hh hv0) (sR3_6 SH hh hv0)) ?_
      refine And.imp_left (rs_getI i_X3_relax_25 (by decide) (by decide) (sO1 SH hh)) ?_
      refine And.imp_left (rs_iconst i_X3_relax_28 (v := 1) (by decide)) ?_
      refine And.imp_left (rs_iadd i_X3_relax_29) ?_
      refine And.imp_left (rs_imul i_X3_relax_30) ?_
      refine And.imp_left (rs_isub i_X3_relax_31) ?_
      refine And.imp_left (rs_max i_X3_relax_32 (Nat.le_of_ble_eq_true rfl)) ?_
      refine And.imp_left (rs_iast i_X3_relax_35 (mkI (sA SH hh (k := 9) (n := 12) (aR3_2 hv0)) c2)) ?_
      have SH := shi SH (v0 + 3) (ix v2) (if 0 < ((gI h (v0 + 3) (ix v2)) - (v1 * ((gI h 80 3) + 1))) then ((gI h (v0 + 3) (ix v2)) - (v1 * ((gI h 80 3) + 1))) else 0)
      refine And.imp_left (rs_iinc i_X3_relax_36 rfl (v := v2 + 1) rfl (Nat.le_of_ble_eq_true rfl) (lv' := [some (.ref v0), some (.int v1), some (.int (v2 + 1))]) rfl) ?_
      refine And.imp_left (rs_goto i_X3_relax_39 (tg := 2) (by decide)) ?_
      exact ih _ _ _ hv0 _ _ SH hf
noncomputable def g_X3_relax_0 (n : Nat) (v0 : Nat) (v1 : Int32) (h : Hp) : Option Hp :=
  g_X3_relax_2 n n v0 v1 0 h
set_option maxRecDepth 100000 in
set_option maxHeartbeats 4000000 in
theorem q_X3_relax_0 {X : Nat → Int32} {d : Nat} (hd : 0 ≤ d) {L hi : Nat} (hh : 96 ≤ hi) {n : Nat} {v0 : Nat} {v1 : Int32} {h : Hp} {o : Hp} (hv0 : OB3 v0) (SH : SHP L hi h) (hf : g_X3_relax_0 n v0 v1 h = some o) : Run X d 31 0 [some (.ref v0), some (.int v1), none] [] h (none, o) ∧ SHP L hi o := by
  unfold g_X3_relax_0 at hf
  refine And.imp_left (rs_iconst i_X3_relax_0 (v := 0) (by decide)) ?_
  refine And.imp_left (rs_istore_n i_X3_relax_1 (Nat.le_of_ble_eq_true rfl) (lv' := [some (.ref v0), some (.int v1), some (.int 0)]) rfl) ?_
  exact q_X3_relax_2 hd hh _ _ _ _ hv0 _ _ SH hf
noncomputable def g_X3_relax (n : Nat) (v0 : Nat) (v1 : Int32) (h : Hp) : Option Hp := g_X3_relax_0 n v0 v1 h
theorem k_X3_relax {X : Nat → Int32} {d : Nat} (hd : 0 ≤ d) {L hi : Nat} (hh : 96 ≤ hi) {n : Nat} {v0 : Nat} {v1 : Int32} {h : Hp} {o : Hp} (hv0 : OB3 v0) (SH : SHP L hi h) (hf : g_X3_relax n v0 v1 h = some o) : Calls X d 31 [.ref v0, .int v1] h (none, o) ∧ SHP L hi o := by
  obtain ⟨r, S2⟩ := q_X3_relax_0 hd hh hv0 SH hf
  exact ⟨⟨_, rfl, r⟩, S2⟩
noncomputable def g_X3_allLength_20 (n : Nat) (K4 : Nat → Int64 → Int32 → Hp → Option (Int64 × Hp)) (v0 : Nat) (v1 : Int64) (v3 : Int32) (h : Hp) : Option (Int64 × Hp) :=
  K4 v0 v1 (v3 + 1) h
set_option maxRecDepth 100000 in
set_option maxHeartbeats 4000000 in
theorem q_X3_allLength_20 {X : Nat → Int32} {d : Nat} (hd : 0 ≤ d) {L hi : Nat} (hh : 96 ≤ hi) {n : Nat} {K4 : Nat → Int64 → Int32 → Hp → Option (Int64 × Hp)} (HK4 : ∀ (v0 : Nat) (v1 : Int64) (v3 : Int32) (hv0 : OB3 v0) (h : Hp) (o : (Int64 × Hp)), SHP L hi h → K4 v0 v1 v3 h = some o → Run X d 44 4 [some (.ref v0), some (.long v1), none, some (.int v3)] [] h (some (.long o.1), o.2) ∧ SHP L hi o.2) {v0 : Nat} {v1 : Int64} {v3 : Int32} {h : Hp} {o : (Int64 × Hp)} (hv0 : OB3 v0) (SH : SHP L hi h) (hf : g_X3_allLength_20 n K4 v0 v1 v3 h = some o) : Run X d 44 20 [some (.ref v0), some (.long v1), none, some (.int v3)] [] h (some (.long o.1), o.2) ∧ SHP L hi o.2 := by
  unfold g_X3_allLength_20 at hf
  refine And.imp_left (rs_iinc i_X3_allLength_20 rfl (v := v3 + 1) rfl (Nat.le_of_ble_eq_true rfl) (lv' := [some (.ref v0), some (.long v1), none, some (.int (v3 + 1))]) rfl) ?_
  refine And.imp_left (rs_goto i_X3_allLength_23 (tg := 4) (by decide)) ?_
  exact HK4 _ _ _ hv0 _ _ SH hf
noncomputable def g_X3_allLength_4 (n : Nat) : Nat → Nat → Int64 → Int32 → Hp → Option (Int64 × Hp)
  | 0, _, _, _, _ => none
  | m + 1, v0, v1, v3, h =>
    if 12 ≤ v3 then
      some (v1, h)
    else
      if inb v3 12 = true then
      g_X3_allLength_20 n (g_X3_allLength_4 n m) v0 (v1 + (Int32.toInt64 (gI h (v0 + 2) (ix v3)))) v3 h
      else none
set_option maxRecDepth 100000 in
set_option maxHeartbeats 4000000 in
theorem q_X3_allLength_4 {X : Nat → Int32} {d : Nat} (hd : 0 ≤ d) {L hi : Nat} (hh : 96 ≤ hi) {n : Nat} : ∀ (m : Nat) (v0 : Nat) (v1 : Int64) (v3 : Int32) (hv0 : OB3 v0) (h : Hp) (o : (Int64 × Hp)), SHP L hi h → g_X3_allLength_4 n m v0 v1 v3 h = some o → Run X d 44 4 [some (.ref v0), some (.long v1), none, some (.int v3)] [] h (some (.long o.1), o.2) ∧ SHP L hi o.2 := by
  intro m
  induction m with
  | zero => intro v0 v1 v3 hv0 h o SH hf; cases hf
  | succ m ih =>
    intro v0 v1 v3 hv0 h o SH hf
    rw [g_X3_allLength_4] at hf
    refine And.imp_left (rs_iload_n i_X3_allLength_4 rfl) ?_
    refine And.imp_left (rs_bipush i_X3_allLength_5 (v := 12) (by decide)) ?_
    by_cases c1 : 12 ≤ v3
    · replace hf := (if_pos c1).symm.trans hf
      refine And.imp_left (rs_icT i_X3_allLength_7 (ct_ge c1) (tg := 26) (by decide)) ?_
      refine And.imp_left (rs_lload_n i_X3_allLength_26 rfl) ?_
      have hf := Option.some.inj hf
      subst hf
      exact ⟨rs_lret i_X3_allLength_27 m_X3_allLength rfl, SH⟩
    · replace hf := (if_neg c1).symm.trans hf
      refine And.imp_left (rs_icF i_X3_allLength_7 (cf_ge c1)) ?_
      refine And.imp_left (rs_lload_n i_X3_allLength_10 rfl) ?_
      refine And.imp_left (rs_aload_n i_X3_allLength_11 rfl) ?_
      refine And.imp_left (rs_getR i_X3_allLength_12 (by decide) (by decide) (sO3 SH hh hv0) (sR3_1 SH hh hv0)) ?_
      refine And.imp_left (rs_iload_n i_X3_allLength_15 rfl) ?_
      obtain ⟨c2, hf⟩ := ite_some hf
      refine And.imp_left (rs_iald i_X3_allLength_16 (mkI (sA SH hh (k := 9) (n := 12) (aR3_1 hv0)) c2)) ?_
      refine And.imp_left (rs_i2l i_X3_allLength_17) ?_
      refine And.imp_left (rs_ladd i_X3_allLength_18) ?_
      refine And.imp_left (rs_lstore_n i_X3_allLength_19 (Nat.le_of_ble_eq_true rfl) (lv' := [some (.ref v0), some (.long (v1 + (Int32.toInt64 (gI h (v0 + 2) (ix v3))))), none, some (.int v3)]) rfl) ?_
      exact q_X3_allLength_20 hd hh ih hv0 SH hf
noncomputable def g_X3_allLength_0 (n : Nat) (v0 : Nat) (h : Hp) : Option (Int64 × Hp) :=
  g_X3_allLength_4 n n v0 0 0 h
set_option maxRecDepth 100000 in
set_option maxHeartbeats 4000000 in
theorem q_X3_allLength_0 {X : Nat → Int32} {d : Nat} (hd : 0 ≤ d) {L hi : Nat} (hh : 96 ≤ hi) {n : Nat} {v0 : Nat} {h : Hp} {o : (Int64 × Hp)} (hv0 : OB3 v0) (SH : SHP L hi h) (hf : g_X3_allLength_0 n v0 h = some o) : Run X d 44 0 [some (.ref v0), none, none, none] [] h (some (.long o.1), o.2) ∧ SHP L hi o.2 := by
  unfold g_X3_allLength_0 at hf
  refine And.imp_left (rs_lconst i_X3_allLength_0 (v := 0) (by decide)) ?_
  refine And.imp_left (rs_lstore_n i_X3_allLength_1 (Nat.le_of_ble_eq_true rfl) (lv' := [some (.ref v0), some (.long 0), none, none]) rfl) ?_
  refine And.imp_left (rs_iconst i_X3_allLength_2 (v := 0) (by decide)) ?_
  refine And.imp_left (rs_istore_n i_X3_allLength_3 (Nat.le_of_ble_eq_true rfl) (lv' := [some (.ref v0), some (.long 0), none, some (.int 0)]) rfl) ?_
  exact q_X3_allLength_4 hd hh _ _ _ _ hv0 _ _ SH hf
noncomputable def g_X3_allLength (n : Nat) (v0 : Nat) (h : Hp) : Option (Int64 × Hp) := g_X3_allLength_0 n v0 h
theorem k_X3_allLength {X : Nat → Int32} {d : Nat} (hd : 0 ≤ d) {L hi : Nat} (hh : 96 ≤ hi) {n : Nat} {v0 : Nat} {h : Hp} {o : (Int64 × Hp)} (hv0 : OB3 v0) (SH : SHP L hi h) (hf : g_X3_allLength n v0 h = some o) : Calls X d 44 [.ref v0] h (some (.long o.1), o.2) ∧ SHP L hi o.2 := by
  obtain ⟨r, S2⟩ := q_X3_allLength_0 hd hh hv0 SH hf
  exact ⟨⟨_, rfl, r⟩, S2⟩
noncomputable def g_X3_tenths_0 (n : Nat) (v0 : Nat) (v1 : Int32) (h : Hp) : Option (Int64 × Hp) :=
  (g_X3_allLength n v0 h).bind fun o1 =>
  some (((o1.1 * (Int32.toInt64 v1)) / 10), o1.2)
set_option maxRecDepth 100000 in
set_option maxHeartbeats 4000000 in
theorem q_X3_tenths_0 {X : Nat → Int32} {d : Nat} (hd : 1 ≤ (d + 1)) {L hi : Nat} (hh : 96 ≤ hi) {n : Nat} {v0 : Nat} {v1 : Int32} {h : Hp} {o : (Int64 × Hp)} (hv0 : OB3 v0) (SH : SHP L hi h) (hf : g_X3_tenths_0 n v0 v1 h = some o) : Run X (d + 1) 45 0 [some (.ref v0), some (.int v1)] [] h (some (.long o.1), o.2) ∧ SHP L hi o.2 := by
  unfold g_X3_tenths_0 at hf
  refine And.imp_left (rs_aload_n i_X3_tenths_0 rfl) ?_
  obtain ⟨o1, e1, hf⟩ := bind_some hf
  obtain ⟨u1, SH2⟩ := k_X3_allLength (X := X) (d := d) (by omega) (by omega) hv0 SH e1
  refine And.imp_left (rs_inV i_X3_tenths_1 m_X3_allLength rfl (As := []) (rest := []) rfl rfl (Nat.le_of_ble_eq_true rfl) (sO3 SH hh hv0) u1 (st' := [.long o1.1]) rfl) ?_
  clear SH; have SH := SH2; clear SH2
  refine And.imp_left (rs_iload_n i_X3_tenths_4 rfl) ?_
  refine And.imp_left (rs_i2l i_X3_tenths_5) ?_
  refine And.imp_left (rs_lmul i_X3_tenths_6) ?_
  refine And.imp_left (rs_ldc2 i_X3_tenths_7 (v := 10) (by decide)) ?_
  refine And.imp_left (rs_ldiv i_X3_tenths_10 (by decide)) ?_
  have hf := Option.some.inj hf
  subst hf
  exact ⟨rs_lret i_X3_tenths_11 m_X3_tenths rfl, SH⟩
noncomputable def g_X3_tenths (n : Nat) (v0 : Nat) (v1 : Int32) (h : Hp) : Option (Int64 × Hp) := g_X3_tenths_0 n v0 v1 h
theorem k_X3_tenths {X : Nat → Int32} {d : Nat} (hd : 1 ≤ d) {L hi : Nat} (hh : 96 ≤ hi) {n : Nat} {v0 : Nat} {v1 : Int32} {h : Hp} {o : (Int64 × Hp)} (hv0 : OB3 v0) (SH : SHP L hi h) (hf : g_X3_tenths n v0 v1 h = some o) : Calls X d 45 [.ref v0, .int v1] h (some (.long o.1), o.2) ∧ SHP L hi o.2 := by
  obtain ⟨d, rfl⟩ : ∃ z, d = z + 1 := ⟨d - 1, by omega⟩
  obtain ⟨r, S2⟩ := q_X3_tenths_0 hd hh hv0 SH hf
  exact ⟨⟨_, rfl, r⟩, S2⟩
noncomputable def g_X3_make_0 (n : Nat) (v0 : Nat) (v1 : Nat) (h : Hp) : Option Hp :=
  if (gI h v1 0) = 1 then
    (g_X3_tenths n v0 (gI h v1 1) h).bind fun o15 =>
    (g_X3_draw n v0 o15.1 (gI o15.2 v1 2) o15.2).bind fun o16 =>
    some o16
  else
    if (gI h v1 0) = 2 then
      (g_X3_tenths n v0 (gI h v1 1) h).bind fun o12 =>
      (g_X3_draw n v0 o12.1 (gI o12.2 v1 2) o12.2).bind fun o13 =>
      (g_X3_bounce n v0 o13).bind fun o14 =>
      some o14
    else
      if (gI h v1 0) = 3 then
        (g_X3_fold n v0 h).bind fun o11 =>
        some o11
      else
        if (gI h v1 0) = 4 then
          (g_X3_powder v0 (gI h v1 1) h).bind fun o10 =>
          some o10
        else
          if (gI h v1 0) = 5 then
            (g_X3_fold n v0 h).bind fun o7 =>
            (g_X3_cutEnd v0 0 (gI o7 v1 1) o7).bind fun o8 =>
            (g_X3_cutEnd v0 11 (gI o8 v1 1) o8).bind fun o9 =>
            some o9
          else
            (g_X3_relax n v0 (gI h v1 1) h).bind fun o6 =>
            some o6
set_option maxRecDepth 100000 in
set_option maxHeartbeats 4000000 in
theorem q_X3_make_0 {X : Nat → Int32} {d : Nat} (hd : 5 ≤ (d + 1)) {L hi : Nat} (hh : 96 ≤ hi) {n : Nat} {v0 : Nat} {v1 : Nat} {h : Hp} {o : Hp} (hv0 : OB3 v0) (hv1 : OB5 v1) (SH : SHP L hi h) (hf : g_X3_make_0 n v0 v1 h = some o) : Run X (d + 1) 30 0 [some (.ref v0), some (.ref v1)] [] h (none, o) ∧ SHP L hi o := by
  unfold g_X3_make_0 at hf
  refine And.imp_left (rs_aload_n i_X3_make_0 rfl) ?_
  refine And.imp_left (rs_getI i_X3_make_1 (by decide) (by decide) (sO5 SH hh hv1)) ?_
  by_cases c1 : (gI h v1 0) = 1
  · replace hf := (if_pos c1).symm.trans hf
    refine And.imp_left (rs_tsw i_X3_make_4 (off := 36) (by rw [c1]; decide) (tg := 40) (by decide)) ?_
    refine And.imp_left (rs_aload_n i_X3_make_40 rfl) ?_
    refine And.imp_left (rs_aload_n i_X3_make_41 rfl) ?_
    refine And.imp_left (rs_aload_n i_X3_make_42 rfl) ?_
    refine And.imp_left (rs_getI i_X3_make_43 (by decide) (by decide) (sO5 SH hh hv1)) ?_
    obtain ⟨o15, e15, hf⟩ := bind_some hf
    obtain ⟨u15, SH2⟩ := k_X3_tenths (X := X) (d := d) (by omega) (by omega) hv0 SH e15
    refine And.imp_left (rs_inV i_X3_make_46 m_X3_tenths rfl (As := [.int (gI h v1 1)]) (rest := [.ref v0]) rfl rfl (Nat.le_of_ble_eq_true rfl) (sO3 SH hh hv0) u15 (st' := [.long o15.1, .ref v0]) rfl) ?_
    clear SH; have SH := SH2; clear SH2
    refine And.imp_left (rs_aload_n i_X3_make_49 rfl) ?_
    refine And.imp_left (rs_getI i_X3_make_50 (by decide) (by decide) (sO5 SH hh hv1)) ?_
    obtain ⟨o16, e16, hf⟩ := bind_some hf
    obtain ⟨u16, SH2⟩ := k_X3_draw (X := X) (d := d) (by omega) (by omega) hv0 SH e16
    refine And.imp_left (rs_inV i_X3_make_53 m_X3_draw rfl (As := [.long o15.1, .int (gI o15.2 v1 2)]) (rest := []) rfl rfl (Nat.le_of_ble_eq_true rfl) (sO3 SH hh hv0) u16 (st' := []) rfl) ?_
    clear SH; have SH := SH2; clear SH2
    refine And.imp_left (rs_goto i_X3_make_56 (tg := 134) (by decide)) ?_
    have hf := Option.some.inj hf
    subst hf
    exact ⟨rs_vret i_X3_make_134 m_X3_make rfl, SH⟩
  · replace hf := (if_neg c1).symm.trans hf
    by_cases c2 : (gI h v1 0) = 2
    · replace hf := (if_pos c2).symm.trans hf
      refine And.imp_left (rs_tsw i_X3_make_4 (off := 55) (by rw [c2]; decide) (tg := 59) (by decide)) ?_
      refine And.imp_left (rs_aload_n i_X3_make_59 rfl) ?_
      refine And.imp_left (rs_aload_n i_X3_make_60 rfl) ?_
      refine And.imp_left (rs_aload_n i_X3_make_61 rfl) ?_
      refine And.imp_left (rs_getI i_X3_make_62 (by decide) (by decide) (sO5 SH hh hv1)) ?_
      obtain ⟨o12, e12, hf⟩ := bind_some hf
      obtain ⟨u12, SH2⟩ := k_X3_tenths (X := X) (d := d) (by omega) (by omega) hv0 SH e12
      refine And.imp_left (rs_inV i_X3_make_65 m_X3_tenths rfl (As := [.int (gI h v1 1)]) (rest := [.ref v0]) rfl rfl (Nat.le_of_ble_eq_true rfl) (sO3 SH hh hv0) u12 (st' := [.long o12.1, .ref v0]) rfl) ?_
      clear SH; have SH := SH2; clear SH2
      refine And.imp_left (rs_aload_n i_X3_make_68 rfl) ?_
      refine And.imp_left (rs_getI i_X3_make_69 (by decide) (by decide) (sO5 SH hh hv1)) ?_
      obtain ⟨o13, e13, hf⟩ := bind_some hf
      obtain ⟨u13, SH2⟩ := k_X3_draw (X := X) (d := d) (by omega) (by omega) hv0 SH e13
      refine And.imp_left (rs_inV i_X3_make_72 m_X3_draw rfl (As := [.long o12.1, .int (gI o12.2 v1 2)]) (rest := []) rfl rfl (Nat.le_of_ble_eq_true rfl) (sO3 SH hh hv0) u13 (st' := []) rfl) ?_
      clear SH; have SH := SH2; clear SH2
      refine And.imp_left (rs_aload_n i_X3_make_75 rfl) ?_
      obtain ⟨o14, e14, hf⟩ := bind_some hf
      obtain ⟨u14, SH2⟩ := k_X3_bounce (X := X) (d := d) (by omega) (by omega) hv0 SH e14
      refine And.imp_left (rs_inV i_X3_make_76 m_X3_bounce rfl (As := []) (rest := []) rfl rfl (Nat.le_of_ble_eq_true rfl) (sO3 SH hh hv0) u14 (st' := []) rfl) ?_
      clear SH; have SH := SH2; clear SH2
      refine And.imp_left (rs_goto i_X3_make_79 (tg := 134) (by decide)) ?_
      have hf := Option.some.inj hf
      subst hf
      exact ⟨rs_vret i_X3_make_134 m_X3_make rfl, SH⟩
    · replace hf := (if_neg c2).symm.trans hf
      by_cases c3 : (gI h v1 0) = 3
      · replace hf := (if_pos c3).symm.trans hf
        refine And.imp_left (rs_tsw i_X3_make_4 (off := 78) (by rw [c3]; decide) (tg := 82) (by decide)) ?_
        refine And.imp_left (rs_aload_n i_X3_make_82 rfl) ?_
        obtain ⟨o11, e11, hf⟩ := bind_some hf
        obtain ⟨u11, SH2⟩ := k_X3_fold (X := X) (d := d) (by omega) (by omega) hv0 SH e11
        refine And.imp_left (rs_inV i_X3_make_83 m_X3_fold rfl (As := []) (rest := []) rfl rfl (Nat.le_of_ble_eq_true rfl) (sO3 SH hh hv0) u11 (st' := []) rfl) ?_
        clear SH; have SH := SH2; clear SH2
        refine And.imp_left (rs_goto i_X3_make_86 (tg := 134) (by decide)) ?_
        have hf := Option.some.inj hf
        subst hf
        exact ⟨rs_vret i_X3_make_134 m_X3_make rfl, SH⟩
      · replace hf := (if_neg c3).symm.trans hf
        by_cases c4 : (gI h v1 0) = 4
        · replace hf := (if_pos c4).symm.trans hf
          refine And.imp_left (rs_tsw i_X3_make_4 (off := 85) (by rw [c4]; decide) (tg := 89) (by decide)) ?_
          refine And.imp_left (rs_aload_n i_X3_make_89 rfl) ?_
          refine And.imp_left (rs_aload_n i_X3_make_90 rfl) ?_
          refine And.imp_left (rs_getI i_X3_make_91 (by decide) (by decide) (sO5 SH hh hv1)) ?_
          obtain ⟨o10, e10, hf⟩ := bind_some hf
          obtain ⟨u10, SH2⟩ := k_X3_powder (X := X) (d := d) (by omega) (by omega) hv0 SH e10
          refine And.imp_left (rs_inV i_X3_make_94 m_X3_powder rfl (As := [.int (gI h v1 1)]) (rest := []) rfl rfl (Nat.le_of_ble_eq_true rfl) (sO3 SH hh hv0) u10 (st' := []) rfl) ?_
          clear SH; have SH := SH2; clear SH2
          refine And.imp_left (rs_goto i_X3_make_97 (tg := 134) (by decide)) ?_
          have hf := Option.some.inj hf
          subst hf
          exact ⟨rs_vret i_X3_make_134 m_X3_make rfl, SH⟩
        · replace hf := (if_neg c4).symm.trans hf
          by_cases c5 : (gI h v1 0) = 5
          · replace hf := (if_pos c5).symm.trans hf
            refine And.imp_left (rs_tsw i_X3_make_4 (off := 96) (by rw [c5]; decide) (tg := 100) (by decide)) ?_
            refine And.imp_left (rs_aload_n i_X3_make_100 rfl) ?_
            obtain ⟨o7, e7, hf⟩ := bind_some hf
            obtain ⟨u7, SH2⟩ := k_X3_fold (X := X) (d := d) (by omega) (by omega) hv0 SH e7
            refine And.imp_left (rs_inV i_X3_make_101 m_X3_fold rfl (As := []) (rest := []) rfl rfl (Nat.le_of_ble_eq_true rfl) (sO3 SH hh hv0) u7 (st' := []) rfl) ?_
            clear SH; have SH := SH2; clear SH2
            refine And.imp_left (rs_aload_n i_X3_make_104 rfl) ?_
            refine And.imp_left (rs_iconst i_X3_make_105 (v := 0) (by decide)) ?_
            refine And.imp_left (rs_aload_n i_X3_make_106 rfl) ?_
            refine And.imp_left (rs_getI i_X3_make_107 (by decide) (by decide) (sO5 SH hh hv1)) ?_
            obtain ⟨o8, e8, hf⟩ := bind_some hf
            obtain ⟨u8, SH2⟩ := k_X3_cutEnd (X := X) (d := d) (by omega) (by omega) hv0 SH e8
            refine And.imp_left (rs_inV i_X3_make_110 m_X3_cutEnd rfl (As := [.int 0, .int (gI o7 v1 1)]) (rest := []) rfl rfl (Nat.le_of_ble_eq_true rfl) (sO3 SH hh hv0) u8 (st' := []) rfl) ?_
            clear SH; have SH := SH2; clear SH2
            refine And.imp_left (rs_aload_n i_X3_make_113 rfl) ?_
            refine And.imp_left (rs_bipush i_X3_make_114 (v := 11) (by decide)) ?_
            refine And.imp_left (rs_aload_n i_X3_make_116 rfl) ?_
            refine And.imp_left (rs_getI i_X3_make_117 (by decide) (by decide) (sO5 SH hh hv1)) ?_
            obtain ⟨o9, e9, hf⟩ := bind_some hf
            obtain ⟨u9, SH2⟩ := k_X3_cutEnd (X := X) (d := d) (by omega) (by omega) hv0 SH e9
            refine And.imp_left (rs_inV i_X3_make_120 m_X3_cutEnd rfl (As := [.int 11, .int (gI o8 v1 1)]) (rest := []) rfl rfl (Nat.le_of_ble_eq_true rfl) (sO3 SH hh hv0) u9 (st' := []) rfl) ?_
            clear SH; have SH := SH2; clear SH2
            refine And.imp_left (rs_goto i_X3_make_123 (tg := 134) (by decide)) ?_
            have hf := Option.some.inj hf
            subst hf
            exact ⟨rs_vret i_X3_make_134 m_X3_make rfl, SH⟩
          · replace hf := (if_neg c5).symm.trans hf
            refine And.imp_left (rs_tsw i_X3_make_4 (off := 122) (swt_df (by have z0 := ne_ti c1; rw [show (1 : Int32).toInt = 1 from by decide] at z0; have z1 := ne_ti c2; rw [show (2 : Int32).toInt = 2 from by decide] at z1; have z2 := ne_ti c3; rw [show (3 : Int32).toInt = 3 from by decide] at z2; have z3 := ne_ti c4; rw [show (4 : Int32).toInt = 4 from by decide] at z3; have z4 := ne_ti c5; rw [show (5 : Int32).toInt = 5 from by decide] at z4; omega)) (tg := 126) (by decide)) ?_
            refine And.imp_left (rs_aload_n i_X3_make_126 rfl) ?_
            refine And.imp_left (rs_aload_n i_X3_make_127 rfl) ?_
            refine And.imp_left (rs_getI i_X3_make_128 (by decide) (by decide) (sO5 SH hh hv1)) ?_
            obtain ⟨o6, e6, hf⟩ := bind_some hf
            obtain ⟨u6, SH2⟩ := k_X3_relax (X := X) (d := d) (by omega) (by omega) hv0 SH e6
            refine And.imp_left (rs_inV i_X3_make_131 m_X3_relax rfl (As := [.int (gI h v1 1)]) (rest := []) rfl rfl (Nat.le_of_ble_eq_true rfl) (sO3 SH hh hv0) u6 (st' := []) rfl) ?_
            clear SH; have SH := SH2; clear SH2
            have hf := Option.some.inj hf
            subst hf
            exact ⟨rs_vret i_X3_make_134 m_X3_make rfl, SH⟩
noncomputable def g_X3_make (n : Nat) (v0 : Nat) (v1 : Nat) (h : Hp) : Option Hp := g_X3_make_0 n v0 v1 h
theorem k_X3_make {X : Nat → Int32} {d : Nat} (hd : 5 ≤ d) {L hi : Nat} (hh : 96 ≤ hi) {n : Nat} {v0 : Nat} {v1 : Nat} {h : Hp} {o : Hp} (hv0 : OB3 v0) (hv1 : OB5 v1) (SH : SHP L hi h) (hf : g_X3_make n v0 v1 h = some o) : Calls X d 30 [.ref v0, .ref v1] h (none, o) ∧ SHP L hi o := by
  obtain ⟨d, rfl⟩ : ∃ z, d = z + 1 := ⟨d - 1, by omega⟩
  obtain ⟨r, S2⟩ := q_X3_make_0 hd hh hv0 hv1 SH hf
  exact ⟨⟨_, rfl, r⟩, S2⟩
noncomputable def g_X3_thinnest_25 (n : Nat) (K4 : Nat → Int32 → Int32 → Hp → Option (Int32 × Hp)) (v0 : Nat) (v1 : Int32) (v2 : Int32) (h : Hp) : Option (Int32 × Hp) :=
  K4 v0 v1 (v2 + 1) h
set_option maxRecDepth 100000 in
set_option maxHeartbeats 4000000 in
theorem q_X3_thinnest_25 {X : Nat → Int32} {d : Nat} (hd : 1 ≤ (d + 1)) {L hi : Nat} (hh : 96 ≤ hi) {n : Nat} {K4 : Nat → Int32 → Int32 → Hp → Option (Int32 × Hp)} (HK4 : ∀ (v0 : Nat) (v1 : Int32) (v2 : Int32) (hv0 : OB3 v0) (h : Hp) (o : (Int32 × Hp)), SHP L hi h → K4 v0 v1 v2 h = some o → Run X (d + 1) 40 4 [some (.ref v0), some (.int v1), some (.int v2)] [] h (some (.int o.1), o.2) ∧ SHP L hi o.2) {v0 : Nat} {v1 : Int32} {v2 : Int32} {h : Hp} {o : (Int32 × Hp)} (hv0 : OB3 v0) (SH : SHP L hi h) (hf : g_X3_thinnest_25 n K4 v0 v1 v2 h = some o) : Run X (d + 1) 40 25 [some (.ref v0), some (.int v1), some (.int v2)] [] h (some (.int o.1), o.2) ∧ SHP L hi o.2 := by
  unfold g_X3_thinnest_25 at hf
  refine And.imp_left (rs_iinc i_X3_thinnest_25 rfl (v := v2 + 1) rfl (Nat.le_of_ble_eq_true rfl) (lv' := [some (.ref v0), some (.int v1), some (.int (v2 + 1))]) rfl) ?_
  refine And.imp_left (rs_goto i_X3_thinnest_28 (tg := 4) (by decide)) ?_
  exact HK4 _ _ _ hv0 _ _ SH hf
noncomputable def g_X3_thinnest_4 (n : Nat) : Nat → Nat → Int32 → Int32 → Hp → Option (Int32 × Hp)
  | 0, _, _, _, _ => none
  | m + 1, v0, v1, v2, h =>
    if 12 ≤ v2 then
      some (v1, h)
    else
      (g_X3_thick v0 v2 h).bind fun o2 =>
      (g_X3_thick v0 v1 o2.2).bind fun o3 =>
      if o3.1 ≤ o2.1 then
        g_X3_thinnest_25 n (g_X3_thinnest_4 n m) v0 v1 v2 o3.2
      else
        g_X3_thinnest_25 n (g_X3_thinnest_4 n m) v0 v2 v2 o3.2
set_option maxRecDepth 100000 in
set_option maxHeartbeats 4000000 in
theorem q_X3_thinnest_4 {X : Nat → Int32} {d : Nat} (hd : 1 ≤ (d + 1)) {L hi : Nat} (hh : 96 ≤ hi) {n : Nat} : ∀ (m : Nat) (v0 : Nat) (v1 : Int32) (v2 : Int32) (hv0 : OB3 v0) (h : Hp) (o : (Int32 × Hp)), SHP L hi h → g_X3_thinnest_4 n m v0 v1 v2 h = some o → Run X (d + 1) 40 4 [some (.ref v0), some (.int v1), some (.int v2)] [] h (some (.int o.1), o.2) ∧ SHP L hi o.2 := by
  intro m
  induction m with
  | zero => intro v0 v1 v2 hv0 h o SH hf; cases hf
  | succ m ih =>
    intro v0 v1 v2 hv0 h o SH hf
    rw [g_X3_thinnest_4] at hf
    refine And.imp_left (rs_iload_n i_X3_thinnest_4 rfl) ?_
    refine And.imp_left (rs_bipush i_X3_thinnest_5 (v := 12) (by decide)) ?_
    by_cases c1 : 12 ≤ v2
    · replace hf := (if_pos c1).symm.trans hf
      refine And.imp_left (rs_icT i_X3_thinnest_7 (ct_ge c1) (tg := 31) (by decide)) ?_
      refine And.imp_left (rs_iload_n i_X3_thinnest_31 rfl) ?_
      have hf := Option.some.inj hf
      subst hf
      exact ⟨rs_iret i_X3_thinnest_32 m_X3_thinnest rfl, SH⟩
    · replace hf := (if_neg c1).symm.trans hf
      refine And.imp_left (rs_icF i_X3_thinnest_7 (cf_ge c1)) ?_
      refine And.imp_left (rs_aload_n i_X3_thinnest_10 rfl) ?_
      refine And.imp_left (rs_iload_n i_X3_thinnest_11 rfl) ?_
      obtain ⟨o2, e2, hf⟩ := bind_some hf
      obtain ⟨u2, SH2⟩ := k_X3_thick (X := X) (d := d) (by omega) (by omega) hv0 SH e2
      refine And.imp_left (rs_inV i_X3_thinnest_12 m_X3_thick rfl (As := [.int v2]) (rest := []) rfl rfl (Nat.le_of_ble_eq_true rfl) (sO3 SH hh hv0) u2 (st' := [.int o2.1]) rfl) ?_
      clear SH; have SH := SH2; clear SH2
      refine And.imp_left (rs_aload_n i_X3_thinnest_15 rfl) ?_
      refine And.imp_left (rs_iload_n i_X3_thinnest_16 rfl) ?_
      obtain ⟨o3, e3, hf⟩ := bind_some hf
      obtain ⟨u3, SH2⟩ := k_X3_thick (X := X) (d := d) (by omega) (by omega) hv0 SH e3
      refine And.imp_left (rs_inV i_X3_thinnest_17 m_X3_thick rfl (As := [.int v1]) (rest := [.int o2.1]) rfl rfl (Nat.le_of_ble_eq_true rfl) (sO3 SH hh hv0) u3 (st' := [.int o3.1, .int o2.1]) rfl) ?_
      clear SH; have SH := SH2; clear SH2
      by_cases c4 : o3.1 ≤ o2.1
      · replace hf := (if_pos c4).symm.trans hf
        refine And.imp_left (rs_icT i_X3_thinnest_20 (ct_ge c4) (tg := 25) (by decide)) ?_
        exact q_X3_thinnest_25 hd hh ih hv0 SH hf
      · replace hf := (if_neg c4).symm.trans hf
        refine And.imp_left (rs_icF i_X3_thinnest_20 (cf_ge c4)) ?_
        refine And.imp_left (rs_iload_n i_X3_thinnest_23 rfl) ?_
        refine And.imp_left (rs_istore_n i_X3_thinnest_24 (Nat.le_of_ble_eq_true rfl) (lv' := [some (.ref v0), some (.int v2), some (.int v2)]) rfl) ?_
        exact q_X3_thinnest_25 hd hh ih hv0 SH hf
noncomputable def g_X3_thinnest_0 (n : Nat) (v0 : Nat) (h : Hp) : Option (Int32 × Hp) :=
  g_X3_thinnest_4 n n v0 0 1 h
set_option maxRecDepth 100000 in
set_option maxHeartbeats 4000000 in
theorem q_X3_thinnest_0 {X : Nat → Int32} {d : Nat} (hd : 1 ≤ (d + 1)) {L hi : Nat} (hh : 96 ≤ hi) {n : Nat} {v0 : Nat} {h : Hp} {o : (Int32 × Hp)} (hv0 : OB3 v0) (SH : SHP L hi h) (hf : g_X3_thinnest_0 n v0 h = some o) : Run X (d + 1) 40 0 [some (.ref v0), none, none] [] h (some (.int o.1), o.2) ∧ SHP L hi o.2 := by
  unfold g_X3_thinnest_0 at hf
  refine And.imp_left (rs_iconst i_X3_thinnest_0 (v := 0) (by decide)) ?_
  refine And.imp_left (rs_istore_n i_X3_thinnest_1 (Nat.le_of_ble_eq_true rfl) (lv' := [some (.ref v0), some (.int 0), none]) rfl) ?_
  refine And.imp_left (rs_iconst i_X3_thinnest_2 (v := 1) (by decide)) ?_
  refine And.imp_left (rs_istore_n i_X3_thinnest_3 (Nat.le_of_ble_eq_true rfl) (lv' := [some (.ref v0), some (.int 0), some (.int 1)]) rfl) ?_
  exact q_X3_thinnest_4 hd hh _ _ _ _ hv0 _ _ SH hf
noncomputable def g_X3_thinnest (n : Nat) (v0 : Nat) (h : Hp) : Option (Int32 × Hp) := g_X3_thinnest_0 n v0 h
theorem k_X3_thinnest {X : Nat → Int32} {d : Nat} (hd : 1 ≤ d) {L hi : Nat} (hh : 96 ≤ hi) {n : Nat} {v0 : Nat} {h : Hp} {o : (Int32 × Hp)} (hv0 : OB3 v0) (SH : SHP L hi h) (hf : g_X3_thinnest n v0 h = some o) : Calls X d 40 [.ref v0] h (some (.int o.1), o.2) ∧ SHP L hi o.2 := by
  obtain ⟨d, rfl⟩ : ∃ z, d = z + 1 := ⟨d - 1, by omega⟩
  obtain ⟨r, S2⟩ := q_X3_thinnest_0 hd hh hv0 SH hf
  exact ⟨⟨_, rfl, r⟩, S2⟩
noncomputable def g_X3_thickest_25 (n : Nat) (K4 : Nat → Int32 → Int32 → Hp → Option (Int32 × Hp)) (v0 : Nat) (v1 : Int32) (v2 : Int32) (h : Hp) : Option (Int32 × Hp) :=
  K4 v0 v1 (v2 + 1) h
set_option maxRecDepth 100000 in
set_option maxHeartbeats 4000000 in
theorem q_X3_thickest_25 {X : Nat → Int32} {d : Nat} (hd : 1 ≤ (d + 1)) {L hi : Nat} (hh : 96 ≤ hi) {n : Nat} {K4 : Nat → Int32 → Int32 → Hp → Option (Int32 × Hp)} (HK4 : ∀ (v0 : Nat) (v1 : Int32) (v2 : Int32) (hv0 : OB3 v0) (h : Hp) (o : (Int32 × Hp)), SHP L hi h → K4 v0 v1 v2 h = some o → Run X (d + 1) 41 4 [some (.ref v0), some (.int v1), some (.int v2)] [] h (some (.int o.1), o.2) ∧ SHP L hi o.2) {v0 : Nat} {v1 : Int32} {v2 : Int32} {h : Hp} {o : (Int32 × Hp)} (hv0 : OB3 v0) (SH : SHP L hi h) (hf : g_X3_thickest_25 n K4 v0 v1 v2 h = some o) : Run X (d + 1) 41 25 [some (.ref v0), some (.int v1), some (.int v2)] [] h (some (.int o.1), o.2) ∧ SHP L hi o.2 := by
  unfold g_X3_thickest_25 at hf
  refine And.imp_left (rs_iinc i_X3_thickest_25 rfl (v := v2 + 1) rfl (Nat.le_of_ble_eq_true rfl) (lv' := [some (.ref v0), some (.int v1), some (.int (v2 + 1))]) rfl) ?_
  refine And.imp_left (rs_goto i_X3_thickest_28 (tg := 4) (by decide)) ?_
  exact HK4 _ _ _ hv0 _ _ SH hf
noncomputable def g_X3_thickest_4 (n : Nat) : Nat → Nat → Int32 → Int32 → Hp → Option (Int32 × Hp)
  | 0, _, _, _, _ => none
  | m + 1, v0, v1, v2, h =>
    if 12 ≤ v2 then
      some (v1, h)
    else
      (g_X3_thick v0 v2 h).bind fun o2 =>
      (g_X3_thick v0 v1 o2.2).bind fun o3 =>
      if o2.1 ≤ o3.1 then
        g_X3_thickest_25 n (g_X3_thickest_4 n m) v0 v1 v2 o3.2
      else
        g_X3_thickest_25 n (g_X3_thickest_4 n m) v0 v2 v2 o3.2
set_option maxRecDepth 100000 in
set_option maxHeartbeats 4000000 in
theorem q_X3_thickest_4 {X : Nat → Int32} {d : Nat} (hd : 1 ≤ (d + 1)) {L hi : Nat} (hh : 96 ≤ hi) {n : Nat} : ∀ (m : Nat) (v0 : Nat) (v1 : Int32) (v2 : Int32) (hv0 : OB3 v0) (h : Hp) (o : (Int32 × Hp)), SHP L hi h → g_X3_thickest_4 n m v0 v1 v2 h = some o → Run X (d + 1) 41 4 [some (.ref v0), some (.int v1), some (.int v2)] [] h (some (.int o.1), o.2) ∧ SHP L hi o.2 := by
  intro m
  induction m with
  | zero => intro v0 v1 v2 hv0 h o SH hf; cases hf
  | succ m ih =>
    intro v0 v1 v2 hv0 h o SH hf
    rw [g_X3_thickest_4] at hf
    refine And.imp_left (rs_iload_n i_X3_thickest_4 rfl) ?_
    refine And.imp_left (rs_bipush i_X3_thickest_5 (v := 12) (by decide)) ?_
    by_cases c1 : 12 ≤ v2
    · replace hf := (if_pos c1).symm.trans hf
      refine And.imp_left (rs_icT i_X3_thickest_7 (ct_ge c1) (tg := 31) (by decide)) ?_
      refine And.imp_left (rs_iload_n i_X3_thickest_31 rfl) ?_
      have hf := Option.some.inj hf
      subst hf
      exact ⟨rs_iret i_X3_thickest_32 m_X3_thickest rfl, SH⟩
    · replace hf := (if_neg c1).symm.trans hf
      refine And.imp_left (rs_icF i_X3_thickest_7 (cf_ge c1)) ?_
      refine And.imp_left (rs_aload_n i_X3_thickest_10 rfl) ?_
      refine And.imp_left (rs_iload_n i_X3_thickest_11 rfl) ?_
      obtain ⟨o2, e2, hf⟩ := bind_some hf
      obtain ⟨u2, SH2⟩ := k_X3_thick (X := X) (d := d) (by omega) (by omega) hv0 SH e2
      refine And.imp_left (rs_inV i_X3_thickest_12 m_X3_thick rfl (As := [.int v2]) (rest := []) rfl rfl (Nat.le_of_ble_eq_true rfl) (sO3 SH hh hv0) u2 (st' := [.int o2.1]) rfl) ?_
      clear SH; have SH := SH2; clear SH2
      refine And.imp_left (rs_aload_n i_X3_thickest_15 rfl) ?_
      refine And.imp_left (rs_iload_n i_X3_thickest_16 rfl) ?_
      obtain ⟨o3, e3, hf⟩ := bind_some hf
      obtain ⟨u3, SH2⟩ := k_X3_thick (X := X) (d := d) (by omega) (by omega) hv0 SH e3
      refine And.imp_left (rs_inV i_X3_thickest_17 m_X3_thick rfl (As := [.int v1]) (rest := [.int o2.1]) rfl rfl (Nat.le_of_ble_eq_true rfl) (sO3 SH hh hv0) u3 (st' := [.int o3.1, .int o2.1]) rfl) ?_
      clear SH; have SH := SH2; clear SH2
      by_cases c4 : o2.1 ≤ o3.1
      · replace hf := (if_pos c4).symm.trans hf
        refine And.imp_left (rs_icT i_X3_thickest_20 (ct_le c4) (tg := 25) (by decide)) ?_
        exact q_X3_thickest_25 hd hh ih hv0 SH hf
      · replace hf := (if_neg c4).symm.trans hf
        refine And.imp_left (rs_icF i_X3_thickest_20 (cf_le c4)) ?_
        refine And.imp_left (rs_iload_n i_X3_thickest_23 rfl) ?_
        refine And.imp_left (rs_istore_n i_X3_thickest_24 (Nat.le_of_ble_eq_true rfl) (lv' := [some (.ref v0), some (.int v2), some (.int v2)]) rfl) ?_
        exact q_X3_thickest_25 hd hh ih hv0 SH hf
noncomputable def g_X3_thickest_0 (n : Nat) (v0 : Nat) (h : Hp) : Option (Int32 × Hp) :=
  g_X3_thickest_4 n n v0 0 1 h
set_option maxRecDepth 100000 in
set_option maxHeartbeats 4000000 in
theorem q_X3_thickest_0 {X : Nat → Int32} {d : Nat} (hd : 1 ≤ (d + 1)) {L hi : Nat} (hh : 96 ≤ hi) {n : Nat} {v0 : Nat} {h : Hp} {o : (Int32 × Hp)} (hv0 : OB3 v0) (SH : SHP L hi h) (hf : g_X3_thickest_0 n v0 h = some o) : Run X (d + 1) 41 0 [some (.ref v0), none, none] [] h (some (.int o.1), o.2) ∧ SHP L hi o.2 := by
  unfold g_X3_thickest_0 at hf
  refine And.imp_left (rs_iconst i_X3_thickest_0 (v := 0) (by decide)) ?_
  refine And.imp_left (rs_istore_n i_X3_thickest_1 (Nat.le_of_ble_eq_true rfl) (lv' := [some (.ref v0), some (.int 0), none]) rfl) ?_
  refine And.imp_left (rs_iconst i_X3_thickest_2 (v := 1) (by decide)) ?_
  refine And.imp_left (rs_istore_n i_X3_thickest_3 (Nat.le_of_ble_eq_true rfl) (lv' := [some (.ref v0), some (.int 0), some (.int 1)]) rfl) ?_
  exact q_X3_thickest_4 hd hh _ _ _ _ hv0 _ _ SH hf
noncomputable def g_X3_thickest (n : Nat) (v0 : Nat) (h : Hp) : Option (Int32 × Hp) := g_X3_thickest_0 n v0 h
theorem k_X3_thickest {X : Nat → Int32} {d : Nat} (hd : 1 ≤ d) {L hi : Nat} (hh : 96 ≤ hi) {n : Nat} {v0 : Nat} {h : Hp} {o : (Int32 × Hp)} (hv0 : OB3 v0) (SH : SHP L hi h) (hf : g_X3_thickest n v0 h = some o) : Calls X d 41 [.ref v0] h (some (.int o.1), o.2) ∧ SHP L hi o.2 := by
  obtain ⟨d, rfl⟩ : ∃ z, d = z + 1 := ⟨d - 1, by omega⟩
  obtain ⟨r, S2⟩ := q_X3_thickest_0 hd hh hv0 SH hf
  exact ⟨⟨_, rfl, r⟩, S2⟩
noncomputable def g_X3_spread_0 (n : Nat) (v0 : Nat) (h : Hp) : Option (Int32 × Hp) :=
  (g_X3_thickest n v0 h).bind fun o1 =>
  (g_X3_thick v0 o1.1 o1.2).bind fun o2 =>
  (g_X3_thinnest n v0 o2.2).bind fun o3 =>
  (g_X3_thick v0 o3.1 o3.2).bind fun o4 =>
  some ((o2.1 - o4.1), o4.2)
set_option maxRecDepth 100000 in
set_option maxHeartbeats 4000000 in
theorem q_X3_spread_0 {X : Nat → Int32} {d : Nat} (hd : 2 ≤ (d + 1)) {L hi : Nat} (hh : 96 ≤ hi) {n : Nat} {v0 : Nat} {h : Hp} {o : (Int32 × Hp)} (hv0 : OB3 v0) (SH : SHP L hi h) (hf : g_X3_spread_0 n v0 h = some o) : Run X (d + 1) 42 0 [some (.ref v0)] [] h (some (.int o.1), o.2) ∧ SHP L hi o.2 := by
  unfold g_X3_spread_0 at hf
  refine And.imp_left (rs_aload_n i_X3_spread_0 rfl) ?_
  refine And.imp_left (rs_aload_n i_X3_spread_1 rfl) ?_
  obtain ⟨o1, e1, hf⟩ := bind_some hf
  obtain ⟨u1, SH2⟩ := k_X3_thickest (X := X) (d := d) (by omega) (by omega) hv0 SH e1
  refine And.imp_left (rs_inV i_X3_spread_2 m_X3_thickest rfl (As := []) (rest := [.ref v0]) rfl rfl (Nat.le_of_ble_eq_true rfl) (sO3 SH hh hv0) u1 (st' := [.int o1.1, .ref v0]) rfl) ?_
  clear SH; have SH := SH2; clear SH2
  obtain ⟨o2, e2, hf⟩ := bind_some hf
  obtain ⟨u2, SH2⟩ := k_X3_thick (X := X) (d := d) (by omega) (by omega) hv0 SH e2
  refine And.imp_left (rs_inV i_X3_spread_5 m_X3_thick rfl (As := [.int o1.1]) (rest := []) rfl rfl (Nat.le_of_ble_eq_true rfl) (sO3 SH hh hv0) u2 (st' := [.int o2.1]) rfl) ?_
  clear SH; have SH := SH2; clear SH2
  refine And.imp_left (rs_aload_n i_X3_spread_8 rfl) ?_
  refine And.imp_left (rs_aload_n i_X3_spread_9 rfl) ?_
  obtain ⟨o3, e3, hf⟩ := bind_some hf
  obtain ⟨u3, SH2⟩ := k_X3_thinnest (X := X) (d := d) (by omega) (by omega) hv0 SH e3
  refine And.imp_left (rs_inV i_X3_spread_10 m_X3_thinnest rfl (As := []) (rest := [.ref v0, .int o2.1]) rfl rfl (Nat.le_of_ble_eq_true rfl) (sO3 SH hh hv0) u3 (st' := [.int o3.1, .ref v0, .int o2.1]) rfl) ?_
  clear SH; have SH := SH2; clear SH2
  obtain ⟨o4, e4, hf⟩ := bind_some hf
  obtain ⟨u4, SH2⟩ := k_X3_thick (X := X) (d := d) (by omega) (by omega) hv0 SH e4
  refine And.imp_left (rs_inV i_X3_spread_13 m_X3_thick rfl (As := [.int o3.1]) (rest := [.int o2.1]) rfl rfl (Nat.le_of_ble_eq_true rfl) (sO3 SH hh hv0) u4 (st' := [.int o4.1, .int o2.1]) rfl) ?_
  clear SH; have SH := SH2; clear SH2
  refine And.imp_left (rs_isub i_X3_spread_16) ?_
  have hf := Option.some.inj hf
  subst hf
  exact ⟨rs_iret i_X3_spread_17 m_X3_spread rfl, SH⟩
noncomputable def g_X3_spread (n : Nat) (v0 : Nat) (h : Hp) : Option (Int32 × Hp) := g_X3_spread_0 n v0 h
theorem k_X3_spread {X : Nat → Int32} {d : Nat} (hd : 2 ≤ d) {L hi : Nat} (hh : 96 ≤ hi) {n : Nat} {v0 : Nat} {h : Hp} {o : (Int32 × Hp)} (hv0 : OB3 v0) (SH : SHP L hi h) (hf : g_X3_spread n v0 h = some o) : Calls X d 42 [.ref v0] h (some (.int o.1), o.2) ∧ SHP L hi o.2 := by
  obtain ⟨d, rfl⟩ : ∃ z, d = z + 1 := ⟨d - 1, by omega⟩
  obtain ⟨r, S2⟩ := q_X3_spread_0 hd hh hv0 SH hf
  exact ⟨⟨_, rfl, r⟩, S2⟩
noncomputable def g_X3_isMoreEvenThan_49 (n : Nat) (v2 : Int64) (v4 : Int64) (h : Hp) : Option (Int32 × Hp) :=
  if v4 ≤ v2 then
    some (0, h)
  else
    some (1, h)
set_option maxRecDepth 100000 in
set_option maxHeartbeats 4000000 in
theorem q_X3_isMoreEvenThan_49 {X : Nat → Int32} {d : Nat} (hd : 2 ≤ (d + 1)) {L hi : Nat} (hh : 96 ≤ hi) {n : Nat} {v2 : Int64} {v4 : Int64} {d0 : Nat} {d1 : Nat} {h : Hp} {o : (Int32 × Hp)}  (SH : SHP L hi h) (hf : g_X3_isMoreEvenThan_49 n v2 v4 h = some o) : Run X (d + 1) 43 49 [some (.ref d0), some (.ref d1), some (.long v2), none, some (.long v4), none] [] h (some (.int o.1), o.2) ∧ SHP L hi o.2 := by
  unfold g_X3_isMoreEvenThan_49 at hf
  refine And.imp_left (rs_lload_n i_X3_isMoreEvenThan_49 rfl) ?_
  refine And.imp_left (rs_lload i_X3_isMoreEvenThan_50 rfl) ?_
  refine And.imp_left (rs_lcmp i_X3_isMoreEvenThan_52) ?_
  by_cases c1 : v4 ≤ v2
  · replace hf := (if_pos c1).symm.trans hf
    refine And.imp_left (rs_ifT i_X3_isMoreEvenThan_53 (by rw [lc_ge]; exact decide_eq_true c1) (tg := 60) (by decide)) ?_
    refine And.imp_left (rs_iconst i_X3_isMoreEvenThan_60 (v := 0) (by decide)) ?_
    have hf := Option.some.inj hf
    subst hf
    exact ⟨rs_iret i_X3_isMoreEvenThan_61 m_X3_isMoreEvenThan (by decide), SH⟩
  · replace hf := (if_neg c1).symm.trans hf
    refine And.imp_left (rs_ifF i_X3_isMoreEvenThan_53 (by rw [lc_ge]; exact decide_eq_false c1)) ?_
    refine And.imp_left (rs_iconst i_X3_isMoreEvenThan_56 (v := 1) (by decide)) ?_
    refine And.imp_left (rs_goto i_X3_isMoreEvenThan_57 (tg := 61) (by decide)) ?_
    have hf := Option.some.inj hf
    subst hf
    exact ⟨rs_iret i_X3_isMoreEvenThan_61 m_X3_isMoreEvenThan (by decide), SH⟩
noncomputable def g_X3_isMoreEvenThan_24 (n : Nat) (v0 : Nat) (v1 : Nat) (v2 : Int64) (h : Hp) : Option (Int32 × Hp) :=
  (g_X3_thickest n v1 h).bind fun o1 =>
  (g_X3_thick v1 o1.1 o1.2).bind fun o2 =>
  (g_X3_thinnest n v0 o2.2).bind fun o3 =>
  (g_X3_thick v0 o3.1 o3.2).bind fun o4 =>
  g_X3_isMoreEvenThan_49 n v2 ((Int32.toInt64 o2.1) * (Int32.toInt64 (if 1 < o4.1 then o4.1 else 1))) o4.2
set_option maxRecDepth 100000 in
set_option maxHeartbeats 4000000 in
theorem q_X3_isMoreEvenThan_24 {X : Nat → Int32} {d : Nat} (hd : 2 ≤ (d + 1)) {L hi : Nat} (hh : 96 ≤ hi) {n : Nat} {v0 : Nat} {v1 : Nat} {v2 : Int64} {h : Hp} {o : (Int32 × Hp)} (hv0 : OB3 v0) (hv1 : OB3 v1) (SH : SHP L hi h) (hf : g_X3_isMoreEvenThan_24 n v0 v1 v2 h = some o) : Run X (d + 1) 43 24 [some (.ref v0), some (.ref v1), some (.long v2), none, none, none] [] h (some (.int o.1), o.2) ∧ SHP L hi o.2 := by
  unfold g_X3_isMoreEvenThan_24 at hf
  refine And.imp_left (rs_aload_n i_X3_isMoreEvenThan_24 rfl) ?_
  refine And.imp_left (rs_aload_n i_X3_isMoreEvenThan_25 rfl) ?_
  obtain ⟨o1, e1, hf⟩ := bind_some hf
  obtain ⟨u1, SH2⟩ := k_X3_thickest (X := X) (d := d) (by omega) (by omega) hv1 SH e1
  refine And.imp_left (rs_inV i_X3_isMoreEvenThan_26 m_X3_thickest rfl (As := []) (rest := [.ref v1]) rfl rfl (Nat.le_of_ble_eq_true rfl) (sO3 SH hh hv1) u1 (st' := [.int o1.1, .ref v1]) rfl) ?_
  clear SH; have SH := SH2; clear SH2
  obtain ⟨o2, e2, hf⟩ := bind_some hf
  obtain ⟨u2, SH2⟩ := k_X3_thick (X := X) (d := d) (by omega) (by omega) hv1 SH e2
  refine And.imp_left (rs_inV i_X3_isMoreEvenThan_29 m_X3_thick rfl (As := [.int o1.1]) (rest := []) rfl rfl (Nat.le_of_ble_eq_true rfl) (sO3 SH hh hv1) u2 (st' := [.int o2.1]) rfl) ?_
  clear SH; have SH := SH2; clear SH2
  refine And.imp_left (rs_i2l i_X3_isMoreEvenThan_32) ?_
  refine And.imp_left (rs_iconst i_X3_isMoreEvenThan_33 (v := 1) (by decide)) ?_
  refine And.imp_left (rs_aload_n i_X3_isMoreEvenThan_34 rfl) ?_
  refine And.imp_left (rs_aload_n i_X3_isMoreEvenThan_35 rfl) ?_
  obtain ⟨o3, e3, hf⟩ := bind_some hf
  obtain ⟨u3, SH2⟩ := k_X3_thinnest (X := X) (d := d) (by omega) (by omega) hv0 SH e3
  refine And.imp_left (rs_inV i_X3_isMoreEvenThan_36 m_X3_thinnest rfl (As := []) (rest := [.ref v0, .int 1, .long (Int32.toInt64 o2.1)]) rfl rfl (Nat.le_of_ble_eq_true rfl) (sO3 SH hh hv0) u3 (st' := [.int o3.1, .ref v0, .int 1, .long (Int32.toInt64 o2.1)]) rfl) ?_
  clear SH; have SH := SH2; clear SH2
  obtain ⟨o4, e4, hf⟩ := bind_some hf
  obtain ⟨u4, SH2⟩ := k_X3_thick (X := X) (d := d) (by omega) (by omega) hv0 SH e4
  refine And.imp_left (rs_inV i_X3_isMoreEvenThan_39 m_X3_thick rfl (As := [.int o3.1]) (rest := [.int 1, .long (Int32.toInt64 o2.1)]) rfl rfl (Nat.le_of_ble_eq_true rfl) (sO3 SH hh hv0) u4 (st' := [.int o4.1, .int 1, .long (Int32.toInt64 o2.1)]) rfl) ?_
  clear SH; have SH := SH2; clear SH2
  refine And.imp_left (rs_max i_X3_isMoreEvenThan_42 (Nat.le_of_ble_eq_true rfl)) ?_
  refine And.imp_left (rs_i2l i_X3_isMoreEvenThan_45) ?_
  refine And.imp_left (rs_lmul i_X3_isMoreEvenThan_46) ?_
  refine And.imp_left (rs_lstore i_X3_isMoreEvenThan_47 (Nat.le_of_ble_eq_true rfl) (lv' := [some (.ref v0), some (.ref v1), some (.long v2), none, some (.long ((Int32.toInt64 o2.1) * (Int32.toInt64 (if 1 < o4.1 then o4.1 else 1)))), none]) rfl) ?_
  exact q_X3_isMoreEvenThan_49 hd hh SH hf
noncomputable def g_X3_isMoreEvenThan_0 (n : Nat) (v0 : Nat) (v1 : Nat) (h : Hp) : Option (Int32 × Hp) :=
  (g_X3_thickest n v0 h).bind fun o1 =>
  (g_X3_thick v0 o1.1 o1.2).bind fun o2 =>
  (g_X3_thinnest n v1 o2.2).bind fun o3 =>
  (g_X3_thick v1 o3.1 o3.2).bind fun o4 =>
  g_X3_isMoreEvenThan_24 n v0 v1 ((Int32.toInt64 o2.1) * (Int32.toInt64 (if 1 < o4.1 then o4.1 else 1))) o4.2
set_option maxRecDepth 100000 in
set_option maxHeartbeats 4000000 in
theorem q_X3_isMoreEvenThan_0 {X : Nat → Int32} {d : Nat} (hd : 2 ≤ (d + 1)) {L hi : Nat} (hh : 96 ≤ hi) {n : Nat} {v0 : Nat} {v1 : Nat} {h : Hp} {o : (Int32 × Hp)} (hv0 : OB3 v0) (hv1 : OB3 v1) (SH : SHP L hi h) (hf : g_X3_isMoreEvenThan_0 n v0 v1 h = some o) : Run X (d + 1) 43 0 [some (.ref v0), some (.ref v1), none, none, none, none] [] h (some (.int o.1), o.2) ∧ SHP L hi o.2 := by
  unfold g_X3_isMoreEvenThan_0 at hf
  refine And.imp_left (rs_aload_n i_X3_isMoreEvenThan_0 rfl) ?_
  refine And.imp_left (rs_aload_n i_X3_isMoreEvenThan_1 rfl) ?_
  obtain ⟨o1, e1, hf⟩ := bind_some hf
  obtain ⟨u1, SH2⟩ := k_X3_thickest (X := X) (d := d) (by omega) (by omega) hv0 SH e1
  refine And.imp_left (rs_inV i_X3_isMoreEvenThan_2 m_X3_thickest rfl (As := []) (rest := [.ref v0]) rfl rfl (Nat.le_of_ble_eq_true rfl) (sO3 SH hh hv0) u1 (st' := [.int o1.1, .ref v0]) rfl) ?_
  clear SH; have SH := SH2; clear SH2
  obtain ⟨o2, e2, hf⟩ := bind_some hf
  obtain ⟨u2, SH2⟩ := k_X3_thick (X := X) (d := d) (by omega) (by omega) hv0 SH e2
  refine And.imp_left (rs_inV i_X3_isMoreEvenThan_5 m_X3_thick rfl (As := [.int o1.1]) (rest := []) rfl rfl (Nat.le_of_ble_eq_true rfl) (sO3 SH hh hv0) u2 (st' := [.int o2.1]) rfl) ?_
  clear SH; have SH := SH2; clear SH2
  refine And.imp_left (rs_i2l i_X3_isMoreEvenThan_8) ?_
  refine And.imp_left (rs_iconst i_X3_isMoreEvenThan_9 (v := 1) (by decide)) ?_
  refine And.imp_left (rs_aload_n i_X3_isMoreEvenThan_10 rfl) ?_
  refine And.imp_left (rs_aload_n i_X3_isMoreEvenThan_11 rfl) ?_
  obtain ⟨o3, e3, hf⟩ := bind_some hf
  obtain ⟨u3, SH2⟩ := k_X3_thinnest (X := X) (d := d) (by omega) (by omega) hv1 SH e3
  refine And.imp_left (rs_inV i_X3_isMoreEvenThan_12 m_X3_thinnest rfl (As := []) (rest := [.ref v1, .int 1, .long (Int32.toInt64 o2.1)]) rfl rfl (Nat.le_of_ble_eq_true rfl) (sO3 SH hh hv1) u3 (st' := [.int o3.1, .ref v1, .int 1, .long (Int32.toInt64 o2.1)]) rfl) ?_
  clear SH; have SH := SH2; clear SH2
  obtain ⟨o4, e4, hf⟩ := bind_some hf
  obtain ⟨u4, SH2⟩ := k_X3_thick (X := X) (d := d) (by omega) (by omega) hv1 SH e4
  refine And.imp_left (rs_inV i_X3_isMoreEvenThan_15 m_X3_thick rfl (As := [.int o3.1]) (rest := [.int 1, .long (Int32.toInt64 o2.1)]) rfl rfl (Nat.le_of_ble_eq_true rfl) (sO3 SH hh hv1) u4 (st' := [.int o4.1, .int 1, .long (Int32.toInt64 o2.1)]) rfl) ?_
  clear SH; have SH := SH2; clear SH2
  refine And.imp_left (rs_max i_X3_isMoreEvenThan_18 (Nat.le_of_ble_eq_true rfl)) ?_
  refine And.imp_left (rs_i2l i_X3_isMoreEvenThan_21) ?_
  refine And.imp_left (rs_lmul i_X3_isMoreEvenThan_22) ?_
  refine And.imp_left (rs_lstore_n i_X3_isMoreEvenThan_23 (Nat.le_of_ble_eq_true rfl) (lv' := [some (.ref v0), some (.ref v1), some (.long ((Int32.toInt64 o2.1) * (Int32.toInt64 (if 1 < o4.1 then o4.1 else 1)))), none, none, none]) rfl) ?_
  exact q_X3_isMoreEvenThan_24 hd hh hv0 hv1 SH hf
noncomputable def g_X3_isMoreEvenThan (n : Nat) (v0 : Nat) (v1 : Nat) (h : Hp) : Option (Int32 × Hp) := g_X3_isMoreEvenThan_0 n v0 v1 h
theorem k_X3_isMoreEvenThan {X : Nat → Int32} {d : Nat} (hd : 2 ≤ d) {L hi : Nat} (hh : 96 ≤ hi) {n : Nat} {v0 : Nat} {v1 : Nat} {h : Hp} {o : (Int32 × Hp)} (hv0 : OB3 v0) (hv1 : OB3 v1) (SH : SHP L hi h) (hf : g_X3_isMoreEvenThan n v0 v1 h = some o) : Calls X d 43 [.ref v0, .ref v1] h (some (.int o.1), o.2) ∧ SHP L hi o.2 := by
  obtain ⟨d, rfl⟩ : ∃ z, d = z + 1 := ⟨d - 1, by omega⟩
  obtain ⟨r, S2⟩ := q_X3_isMoreEvenThan_0 hd hh hv0 hv1 SH hf
  exact ⟨⟨_, rfl, r⟩, S2⟩
noncomputable def g_X3_goodParts_0 (v0 : Nat) (h : Hp) : Option (Int64 × Hp) :=
  some ((((gL' h v0 10) * (gL' h v0 11)) / 1000000000), h)
set_option maxRecDepth 100000 in
set_option maxHeartbeats 4000000 in
theorem q_X3_goodParts_0 {X : Nat → Int32} {d : Nat} (hd : 0 ≤ d) {L hi : Nat} (hh : 96 ≤ hi) {v0 : Nat} {h : Hp} {o : (Int64 × Hp)} (hv0 : OB3 v0) (SH : SHP L hi h) (hf : g_X3_goodParts_0 v0 h = some o) : Run X d 46 0 [some (.ref v0)] [] h (some (.long o.1), o.2) ∧ SHP L hi o.2 := by
  unfold g_X3_goodParts_0 at hf
  refine And.imp_left (rs_aload_n i_X3_goodParts_0 rfl) ?_
  refine And.imp_left (rs_getL i_X3_goodParts_1 (by decide) (by decide) (sO3 SH hh hv0)) ?_
  refine And.imp_left (rs_aload_n i_X3_goodParts_4 rfl) ?_
  refine And.imp_left (rs_getL i_X3_goodParts_5 (by decide) (by decide) (sO3 SH hh hv0)) ?_
  refine And.imp_left (rs_lmul i_X3_goodParts_8) ?_
  refine And.imp_left (rs_ldc2 i_X3_goodParts_9 (v := 1000000000) (by decide)) ?_
  refine And.imp_left (rs_ldiv i_X3_goodParts_12 (by decide)) ?_
  have hf := Option.some.inj hf
  subst hf
  exact ⟨rs_lret i_X3_goodParts_13 m_X3_goodParts rfl, SH⟩
noncomputable def g_X3_goodParts (v0 : Nat) (h : Hp) : Option (Int64 × Hp) := g_X3_goodParts_0 v0 h
theorem k_X3_goodParts {X : Nat → Int32} {d : Nat} (hd : 0 ≤ d) {L hi : Nat} (hh : 96 ≤ hi) {v0 : Nat} {h : Hp} {o : (Int64 × Hp)} (hv0 : OB3 v0) (SH : SHP L hi h) (hf : g_X3_goodParts v0 h = some o) : Calls X d 46 [.ref v0] h (some (.long o.1), o.2) ∧ SHP L hi o.2 := by
  obtain ⟨r, S2⟩ := q_X3_goodParts_0 hd hh hv0 SH hf
  exact ⟨⟨_, rfl, r⟩, S2⟩
noncomputable def g_X3_cooked_54 (n : Nat) (K5 : Nat → Int32 → Int32 → Int32 → Int32 → Hp → Option (Int32 × Hp)) (v0 : Nat) (v1 : Int32) (v2 : Int32) (v3 : Int32) (v4 : Int32) (h : Hp) : Option (Int32 × Hp) :=
  K5 v0 v1 v2 v3 (v4 + 1) h
set_option maxRecDepth 100000 in
set_option maxHeartbeats 4000000 in
theorem q_X3_cooked_54 {X : Nat → Int32} {d : Nat} (hd : 1 ≤ (d + 1)) {L hi : Nat} (hh : 96 ≤ hi) {n : Nat} {K5 : Nat → Int32 → Int32 → Int32 → Int32 → Hp → Option (Int32 × Hp)} (HK5 : ∀ (v0 : Nat) (v1 : Int32) (v2 : Int32) (v3 : Int32) (v4 : Int32) (w5 : Option Value) (hv0 : OB3 v0) (h : Hp) (o : (Int32 × Hp)), SHP L hi h → K5 v0 v1 v2 v3 v4 h = some o → Run X (d + 1) 47 5 [some (.ref v0), some (.int v1), some (.int v2), some (.int v3), some (.int v4), w5] [] h (some (.int o.1), o.2) ∧ SHP L hi o.2) {v0 : Nat} {v1 : Int32} {v2 : Int32} {v3 : Int32} {v4 : Int32} {d5 : Int32} {h : Hp} {o : (Int32 × Hp)} (hv0 : OB3 v0) (SH : SHP L hi h) (hf : g_X3_cooked_54 n K5 v0 v1 v2 v3 v4 h = some o) : Run X (d + 1) 47 54 [some (.ref v0), some (.int v1), some (.int v2), some (.int v3), some (.int v4), some (.int d5)] [] h (some (.int o.1), o.2) ∧ SHP L hi o.2 := by
  unfold g_X3_cooked_54 at hf
  refine And.imp_left (rs_iinc i_X3_cooked_54 rfl (v := v4 + 1) rfl (Nat.le_of_ble_eq_true rfl) (lv' := [some (.ref v0), some (.int v1), some (.int v2), some (.int v3), some (.int (v4 + 1)), some (.int d5)]) rfl) ?_
  refine And.imp_left (rs_goto i_X3_cooked_57 (tg := 5) (by decide)) ?_
  exact HK5 _ _ _ _ _ _ hv0 _ _ SH hf
noncomputable def g_X3_cooked_43 (n : Nat) (K5 : Nat → Int32 → Int32 → Int32 → Int32 → Hp → Option (Int32 × Hp)) (v0 : Nat) (v1 : Int32) (v2 : Int32) (v3 : Int32) (v4 : Int32) (s0 : Int32) (h : Hp) : Option (Int32 × Hp) :=
  if s0 ≠ v2 then
    g_X3_cooked_54 n K5 v0 v1 v2 v3 v4 h
  else
    g_X3_cooked_54 n K5 v0 v1 v2 (v3 + 1) v4 h
set_option maxRecDepth 100000 in
set_option maxHeartbeats 4000000 in
theorem q_X3_cooked_43 {X : Nat → Int32} {d : Nat} (hd : 1 ≤ (d + 1)) {L hi : Nat} (hh : 96 ≤ hi) {n : Nat} {K5 : Nat → Int32 → Int32 → Int32 → Int32 → Hp → Option (Int32 × Hp)} (HK5 : ∀ (v0 : Nat) (v1 : Int32) (v2 : Int32) (v3 : Int32) (v4 : Int32) (w5 : Option Value) (hv0 : OB3 v0) (h : Hp) (o : (Int32 × Hp)), SHP L hi h → K5 v0 v1 v2 v3 v4 h = some o → Run X (d + 1) 47 5 [some (.ref v0), some (.int v1), some (.int v2), some (.int v3), some (.int v4), w5] [] h (some (.int o.1), o.2) ∧ SHP L hi o.2) {v0 : Nat} {v1 : Int32} {v2 : Int32} {v3 : Int32} {v4 : Int32} {s0 : Int32} {w5 : Option Value} {h : Hp} {o : (Int32 × Hp)} (hv0 : OB3 v0) (SH : SHP L hi h) (hf : g_X3_cooked_43 n K5 v0 v1 v2 v3 v4 s0 h = some o) : Run X (d + 1) 47 43 [some (.ref v0), some (.int v1), some (.int v2), some (.int v3), some (.int v4), w5] [.int s0] h (some (.int o.1), o.2) ∧ SHP L hi o.2 := by
  unfold g_X3_cooked_43 at hf
  refine And.imp_left (rs_istore i_X3_cooked_43 (Nat.le_of_ble_eq_true rfl) (lv' := [some (.ref v0), some (.int v1), some (.int v2), some (.int v3), some (.int v4), some (.int s0)]) rfl) ?_
  refine And.imp_left (rs_iload i_X3_cooked_45 rfl) ?_
  refine And.imp_left (rs_iload_n i_X3_cooked_47 rfl) ?_
  by_cases c1 : s0 ≠ v2
  · replace hf := (if_pos c1).symm.trans hf
    refine And.imp_left (rs_icT i_X3_cooked_48 (ct_ne c1) (tg := 54) (by decide)) ?_
    exact q_X3_cooked_54 hd hh HK5 hv0 SH hf
  · replace hf := (if_neg c1).symm.trans hf
    refine And.imp_left (rs_icF i_X3_cooked_48 (cf_ne c1)) ?_
    refine And.imp_left (rs_iinc i_X3_cooked_51 rfl (v := v3 + 1) rfl (Nat.le_of_ble_eq_true rfl) (lv' := [some (.ref v0), some (.int v1), some (.int v2), some (.int (v3 + 1)), some (.int v4), some (.int s0)]) rfl) ?_
    exact q_X3_cooked_54 hd hh HK5 hv0 SH hf
noncomputable def g_X3_cooked_5 (n : Nat) : Nat → Nat → Int32 → Int32 → Int32 → Int32 → Hp → Option (Int32 × Hp)
  | 0, _, _, _, _, _, _ => none
  | m + 1, v0, v1, v2, v3, v4, h =>
    if 12 ≤ v4 then
      some (v3, h)
    else
      (g_X3_thick v0 v4 h).bind fun o2 =>
      if o2.1 ≤ v1 then
        (g_X3_thick v0 v4 o2.2).bind fun o4 =>
        if (2 * o4.1) ≤ v1 then
          g_X3_cooked_43 n (g_X3_cooked_5 n m) v0 v1 v2 v3 v4 2 o4.2
        else
          g_X3_cooked_43 n (g_X3_cooked_5 n m) v0 v1 v2 v3 v4 1 o4.2
      else
        g_X3_cooked_43 n (g_X3_cooked_5 n m) v0 v1 v2 v3 v4 0 o2.2
set_option maxRecDepth 100000 in
set_option maxHeartbeats 4000000 in
theorem q_X3_cooked_5 {X : Nat → Int32} {d : Nat} (hd : 1 ≤ (d + 1)) {L hi : Nat} (hh : 96 ≤ hi) {n : Nat} : ∀ (m : Nat) (v0 : Nat) (v1 : Int32) (v2 : Int32) (v3 : Int32) (v4 : Int32) (w5 : Option Value) (hv0 : OB3 v0) (h : Hp) (o : (Int32 × Hp)), SHP L hi h → g_X3_cooked_5 n m v0 v1 v2 v3 v4 h = some o → Run X (d + 1) 47 5 [some (.ref v0), some (.int v1), some (.int v2), some (.int v3), some (.int v4), w5] [] h (some (.int o.1), o.2) ∧ SHP L hi o.2 := by
  intro m
  induction m with
  | zero => intro v0 v1 v2 v3 v4 w5 hv0 h o SH hf; cases hf
  | succ m ih =>
    intro v0 v1 v2 v3 v4 w5 hv0 h o SH hf
    rw [g_X3_cooked_5] at hf
    refine And.imp_left (rs_iload i_X3_cooked_5 rfl) ?_
    refine And.imp_left (rs_bipush i_X3_cooked_7 (v := 12) (by decide)) ?_
    by_cases c1 : 12 ≤ v4
    · replace hf := (if_pos c1).symm.trans hf
      refine And.imp_left (rs_icT i_X3_cooked_9 (ct_ge c1) (tg := 60) (by decide)) ?_
      refine And.imp_left (rs_iload_n i_X3_cooked_60 rfl) ?_
      have hf := Option.some.inj hf
      subst hf
      exact ⟨rs_iret i_X3_cooked_61 m_X3_cooked rfl, SH⟩
    · replace hf := (if_neg c1).symm.trans hf
      refine And.imp_left (rs_icF i_X3_cooked_9 (cf_ge c1)) ?_
      refine And.imp_left (rs_iload_n i_X3_cooked_12 rfl) ?_
      refine And.imp_left (rs_aload_n i_X3_cooked_13 rfl) ?_
      refine And.imp_left (rs_iload i_X3_cooked_14 rfl) ?_
      obtain ⟨o2, e2, hf⟩ := bind_some hf
      obtain ⟨u2, SH2⟩ := k_X3_thick (X := X) (d := d) (by omega) (by omega) hv0 SH e2
      refine And.imp_left (rs_inV i_X3_cooked_16 m_X3_thick rfl (As := [.int v4]) (rest := [.int v1]) rfl rfl (Nat.le_of_ble_eq_true rfl) (sO3 SH hh hv0) u2 (st' := [.int o2.1, .int v1]) rfl) ?_
      clear SH; have SH := SH2; clear SH2
      by_cases c3 : o2.1 ≤ v1
      · replace hf := (if_pos c3).symm.trans hf
        refine And.imp_left (rs_icT i_X3_cooked_19 (ct_ge c3) (tg := 26) (by decide)) ?_
        refine And.imp_left (rs_iload_n i_X3_cooked_26 rfl) ?_
        refine And.imp_left (rs_iconst i_X3_cooked_27 (v := 2) (by decide)) ?_
        refine And.imp_left (rs_aload_n i_X3_cooked_28 rfl) ?_
        refine And.imp_left (rs_iload i_X3_cooked_29 rfl) ?_
        obtain ⟨o4, e4, hf⟩ := bind_some hf
        obtain ⟨u4, SH2⟩ := k_X3_thick (X := X) (d := d) (by omega) (by omega) hv0 SH e4
        refine And.imp_left (rs_inV i_X3_cooked_31 m_X3_thick rfl (As := [.int v4]) (rest := [.int 2, .int v1]) rfl rfl (Nat.le_of_ble_eq_true rfl) (sO3 SH hh hv0) u4 (st' := [.int o4.1, .int 2, .int v1]) rfl) ?_
        clear SH; have SH := SH2; clear SH2
        refine And.imp_left (rs_imul i_X3_cooked_34) ?_
        by_cases c5 : (2 * o4.1) ≤ v1
        · replace hf := (if_pos c5).symm.trans hf
          refine And.imp_left (rs_icT i_X3_cooked_35 (ct_ge c5) (tg := 42) (by decide)) ?_
          refine And.imp_left (rs_iconst i_X3_cooked_42 (v := 2) (by decide)) ?_
          exact q_X3_cooked_43 hd hh ih hv0 SH hf
        · replace hf := (if_neg c5).symm.trans hf
          refine And.imp_left (rs_icF i_X3_cooked_35 (cf_ge c5)) ?_
          refine And.imp_left (rs_iconst i_X3_cooked_38 (v := 1) (by decide)) ?_
          refine And.imp_left (rs_goto i_X3_cooked_39 (tg := 43) (by decide)) ?_
          exact q_X3_cooked_43 hd hh ih hv0 SH hf
      · replace hf := (if_neg c3).symm.trans hf
        refine And.imp_left (rs_icF i_X3_cooked_19 (cf_ge c3)) ?_
        refine And.imp_left (rs_iconst i_X3_cooked_22 (v := 0) (by decide)) ?_
        refine And.imp_left (rs_goto i_X3_cooked_23 (tg := 43) (by decide)) ?_
        exact q_X3_cooked_43 hd hh ih hv0 SH hf
noncomputable def g_X3_cooked_0 (n : Nat) (v0 : Nat) (v1 : Int32) (v2 : Int32) (h : Hp) : Option (Int32 × Hp) :=
  g_X3_cooked_5 n n v0 v1 v2 0 0 h
set_option maxRecDepth 100000 in
set_option maxHeartbeats 4000000 in
theorem q_X3_cooked_0 {X : Nat → Int32} {d : Nat} (hd : 1 ≤ (d + 1)) {L hi : Nat} (hh : 96 ≤ hi) {n : Nat} {v0 : Nat} {v1 : Int32} {v2 : Int32} {h : Hp} {o : (Int32 × Hp)} (hv0 : OB3 v0) (SH : SHP L hi h) (hf : g_X3_cooked_0 n v0 v1 v2 h = some o) : Run X (d + 1) 47 0 [some (.ref v0), some (.int v1), some (.int v2), none, none, none] [] h (some (.int o.1), o.2) ∧ SHP L hi o.2 := by
  unfold g_X3_cooked_0 at hf
  refine And.imp_left (rs_iconst i_X3_cooked_0 (v := 0) (by decide)) ?_
  refine And.imp_left (rs_istore_n i_X3_cooked_1 (Nat.le_of_ble_eq_true rfl) (lv' := [some (.ref v0), some (.int v1), some (.int v2), some (.int 0), none, none]) rfl) ?_
  refine And.imp_left (rs_iconst i_X3_cooked_2 (v := 0) (by decide)) ?_
  refine And.imp_left (rs_istore i_X3_cooked_3 (Nat.le_of_ble_eq_true rfl) (lv' := [some (.ref v0), some (.int v1), some (.int v2), some (.int 0), some (.int 0), none]) rfl) ?_
  exact q_X3_cooked_5 hd hh _ _ _ _ _ _ _ hv0 _ _ SH hf
noncomputable def g_X3_cooked (n : Nat) (v0 : Nat) (v1 : Int32) (v2 : Int32) (h : Hp) : Option (Int32 × Hp) := g_X3_cooked_0 n v0 v1 v2 h
theorem k_X3_cooked {X : Nat → Int32} {d : Nat} (hd : 1 ≤ d) {L hi : Nat} (hh : 96 ≤ hi) {n : Nat} {v0 : Nat} {v1 : Int32} {v2 : Int32} {h : Hp} {o : (Int32 × Hp)} (hv0 : OB3 v0) (SH : SHP L hi h) (hf : g_X3_cooked n v0 v1 v2 h = some o) : Calls X d 47 [.ref v0, .int v1, .int v2] h (some (.int o.1), o.2) ∧ SHP L hi o.2 := by
  obtain ⟨d, rfl⟩ : ∃ z, d = z + 1 := ⟨d - 1, by omega⟩
  obtain ⟨r, S2⟩ := q_X3_cooked_0 hd hh hv0 SH hf
  exact ⟨⟨_, rfl, r⟩, S2⟩
noncomputable def g_X3_firstOff_24 (n : Nat) (K2 : Nat → Nat → Int32 → Int32 → Hp → Option (Int32 × Hp)) (v0 : Nat) (v1 : Nat) (v2 : Int32) (v3 : Int32) (v4 : Int64) (h : Hp) : Option (Int32 × Hp) :=
  if (Int32.toInt64 v2) < v4 then
    some (v3, h)
  else
    if (Int32.toInt64 (-v2)) ≤ v4 then
      K2 v0 v1 v2 (v3 + 1) h
    else
      some (v3, h)
set_option maxRecDepth 100000 in
set_option maxHeartbeats 4000000 in
theorem q_X3_firstOff_24 {X : Nat → Int32} {d : Nat} (hd : 1 ≤ (d + 1)) {L hi : Nat} (hh : 96 ≤ hi) {n : Nat} {K2 : Nat → Nat → Int32 → Int32 → Hp → Option (Int32 × Hp)} (HK2 : ∀ (v0 : Nat) (v1 : Nat) (v2 : Int32) (v3 : Int32) (w4 : Option Value) (w5 : Option Value) (hv0 : OB3 v0) (hv1 : OB4 v1) (h : Hp) (o : (Int32 × Hp)), SHP L hi h → K2 v0 v1 v2 v3 h = some o → Run X (d + 1) 48 2 [some (.ref v0), some (.ref v1), some (.int v2), some (.int v3), w4, w5] [] h (some (.int o.1), o.2) ∧ SHP L hi o.2) {v0 : Nat} {v1 : Nat} {v2 : Int32} {v3 : Int32} {v4 : Int64} {h : Hp} {o : (Int32 × Hp)} (hv0 : OB3 v0) (hv1 : OB4 v1) (SH : SHP L hi h) (hf : g_X3_firstOff_24 n K2 v0 v1 v2 v3 v4 h = some o) : Run X (d + 1) 48 24 [some (.ref v0), some (.ref v1), some (.int v2), some (.int v3), some (.long v4), none] [] h (some (.int o.1), o.2) ∧ SHP L hi o.2 := by
  unfold g_X3_firstOff_24 at hf
  refine And.imp_left (rs_lload i_X3_firstOff_24 rfl) ?_
  refine And.imp_left (rs_iload_n i_X3_firstOff_26 rfl) ?_
  refine And.imp_left (rs_i2l i_X3_firstOff_27) ?_
  refine And.imp_left (rs_lcmp i_X3_firstOff_28) ?_
  by_cases c1 : (Int32.toInt64 v2) < v4
  · replace hf := (if_pos c1).symm.trans hf
    refine And.imp_left (rs_ifT i_X3_firstOff_29 (by rw [lc_gt]; exact decide_eq_true c1) (tg := 41) (by decide)) ?_
    refine And.imp_left (rs_iload_n i_X3_firstOff_41 rfl) ?_
    have hf := Option.some.inj hf
    subst hf
    exact ⟨rs_iret i_X3_firstOff_42 m_X3_firstOff rfl, SH⟩
  · replace hf := (if_neg c1).symm.trans hf
    refine And.imp_left (rs_ifF i_X3_firstOff_29 (by rw [lc_gt]; exact decide_eq_false c1)) ?_
    refine And.imp_left (rs_lload i_X3_firstOff_32 rfl) ?_
    refine And.imp_left (rs_iload_n i_X3_firstOff_34 rfl) ?_
    refine And.imp_left (rs_ineg i_X3_firstOff_35) ?_
    refine And.imp_left (rs_i2l i_X3_firstOff_36) ?_
    refine And.imp_left (rs_lcmp i_X3_firstOff_37) ?_
    by_cases c2 : (Int32.toInt64 (-v2)) ≤ v4
    · replace hf := (if_pos c2).symm.trans hf
      refine And.imp_left (rs_ifT i_X3_firstOff_38 (by rw [lc_ge]; exact decide_eq_true c2) (tg := 43) (by decide)) ?_
      refine And.imp_left (rs_iinc i_X3_firstOff_43 rfl (v := v3 + 1) rfl (Nat.le_of_ble_eq_true rfl) (lv' := [some (.ref v0), some (.ref v1), some (.int v2), some (.int (v3 + 1)), some (.long v4), none]) rfl) ?_
      refine And.imp_left (rs_goto i_X3_firstOff_46 (tg := 2) (by decide)) ?_
      exact HK2 _ _ _ _ _ _ hv0 hv1 _ _ SH hf
    · replace hf := (if_neg c2).symm.trans hf
      refine And.imp_left (rs_ifF i_X3_firstOff_38 (by rw [lc_ge]; exact decide_eq_false c2)) ?_
      refine And.imp_left (rs_iload_n i_X3_firstOff_41 rfl) ?_
      have hf := Option.some.inj hf
      subst hf
      exact ⟨rs_iret i_X3_firstOff_42 m_X3_firstOff rfl, SH⟩
noncomputable def g_X3_firstOff_2 (n : Nat) : Nat → Nat → Nat → Int32 → Int32 → Hp → Option (Int32 × Hp)
  | 0, _, _, _, _, _ => none
  | m + 1, v0, v1, v2, v3, h =>
    if 12 ≤ v3 then
      some ((-1), h)
    else
      (g_X3_thick v0 v3 h).bind fun o2 =>
      if inb v3 40 = true then
      g_X3_firstOff_24 n (g_X3_firstOff_2 n m) v0 v1 v2 v3 ((Int32.toInt64 o2.1) - (Int32.toInt64 (gI o2.2 (v1 + 1) (ix v3)))) o2.2
      else none
set_option maxRecDepth 100000 in
set_option maxHeartbeats 4000000 in
theorem q_X3_firstOff_2 {X : Nat → Int32} {d : Nat} (hd : 1 ≤ (d + 1)) {L hi : Nat} (hh : 96 ≤ hi) {n : Nat} : ∀ (m : Nat) (v0 : Nat) (v1 : Nat) (v2 : Int32) (v3 : Int32) (w4 : Option Value) (w5 : Option Value) (hv0 : OB3 v0) (hv1 : OB4 v1) (h : Hp) (o : (Int32 × Hp)), SHP L hi h → g_X3_firstOff_2 n m v0 v1 v2 v3 h = some o → Run X (d + 1) 48 2 [some (.ref v0), some (.ref v1), some (.int v2), some (.int v3), w4, w5] [] h (some (.int o.1), o.2) ∧ SHP L hi o.2 := by
  intro m
  induction m with
  | zero => intro v0 v1 v2 v3 w4 w5 hv0 hv1 h o SH hf; cases hf
  | succ m ih =>
    intro v0 v1 v2 v3 w4 w5 hv0 hv1 h o SH hf
    rw [g_X3_firstOff_2] at hf
    refine And.imp_left (rs_iload_n i_X3_firstOff_2 rfl) ?_
    refine And.imp_left (rs_bipush i_X3_firstOff_3 (v := 12) (by decide)) ?_
    by_cases c1 : 12 ≤ v3
    · replace hf := (if_pos c1).symm.trans hf
      refine And.imp_left (rs_icT i_X3_firstOff_5 (ct_ge c1) (tg := 49) (by decide)) ?_
      refine And.imp_left (rs_iconst i_X3_firstOff_49 (v := (-1)) (by decide)) ?_
      have hf := Option.some.inj hf
      subst hf
      exact ⟨rs_iret i_X3_firstOff_50 m_X3_firstOff rfl, SH⟩
    · replace hf := (if_neg c1).symm.trans hf
      refine And.imp_left (rs_icF i_X3_firstOff_5 (cf_ge c1)) ?_
      refine And.imp_left (rs_aload_n i_X3_firstOff_8 rfl) ?_
      refine And.imp_left (rs_iload_n i_X3_firstOff_9 rfl) ?_
      obtain ⟨o2, e2, hf⟩ := bind_some hf
      obtain ⟨u2, SH2⟩ := k_X3_thick (X := X) (d := d) (by omega) (by omega) hv0 SH e2
      refine And.imp_left (rs_inV i_X3_firstOff_10 m_X3_thick rfl (As := [.int v3]) (rest := []) rfl rfl (Nat.le_of_ble_eq_true rfl) (sO3 SH hh hv0) u2 (st' := [.int o2.1]) rfl) ?_
      clear SH; have SH := SH2; clear SH2
      refine And.imp_left (rs_i2l i_X3_firstOff_13) ?_
      refine And.imp_left (rs_aload_n i_X3_firstOff_14 rfl) ?_
      refine And.imp_left (rs_getR i_X3_firstOff_15 (by decide) (by decide) (sO4 SH hh hv1) (sR4_0 SH hh hv1)) ?_
      refine And.imp_left (rs_iload_n i_X3_firstOff_18 rfl) ?_
      obtain ⟨c3, hf⟩ := ite_some hf
      refine And.imp_left (rs_iald i_X3_firstOff_19 (mkI (sA SH hh (k := 9) (n := 40) (aR4_0 hv1)) c3)) ?_
      refine And.imp_left (rs_i2l i_X3_firstOff_20) ?_
      refine And.imp_left (rs_lsub i_X3_firstOff_21) ?_
      refine And.imp_left (rs_lstore i_X3_firstOff_22 (Nat.le_of_ble_eq_true rfl) (lv' := [some (.ref v0), some (.ref v1), some (.int v2), some (.int v3), some (.long ((Int32.toInt64 o2.1) - (Int32.toInt64 (gI o2.2 (v1 + 1) (ix v3))))), none]) rfl) ?_
      exact q_X3_firstOff_24 hd hh ih hv0 hv1 SH hf
noncomputable def g_X3_firstOff_0 (n : Nat) (v0 : Nat) (v1 : Nat) (v2 : Int32) (h : Hp) : Option (Int32 × Hp) :=
  g_X3_firstOff_2 n n v0 v1 v2 0 h
set_option maxRecDepth 100000 in
set_option maxHeartbeats 4000000 in
theorem q_X3_firstOff_0 {X : Nat → Int32} {d : Nat} (hd : 1 ≤ (d + 1)) {L hi : Nat} (hh : 96 ≤ hi) {n : Nat} {v0 : Nat} {v1 : Nat} {v2 : Int32} {h : Hp} {o : (Int32 × Hp)} (hv0 : OB3 v0) (hv1 : OB4 v1) (SH : SHP L hi h) (hf : g_X3_firstOff_0 n v0 v1 v2 h = some o) : Run X (d + 1) 48 0 [some (.ref v0), some (.ref v1), some (.int v2), none, none, none] [] h (some (.int o.1), o.2) ∧ SHP L hi o.2 := by
  unfold g_X3_firstOff_0 at hf
  refine And.imp_left (rs_iconst i_X3_firstOff_0 (v := 0) (by decide)) ?_
  refine And.imp_left (rs_istore_n i_X3_firstOff_1 (Nat.le_of_ble_eq_true rfl) (lv' := [some (.ref v0), some (.ref v1), some (.int v2), some (.int 0), none, none]) rfl) ?_
  exact q_X3_firstOff_2 hd hh _ _ _ _ _ _ _ hv0 hv1 _ _ SH hf
noncomputable def g_X3_firstOff (n : Nat) (v0 : Nat) (v1 : Nat) (v2 : Int32) (h : Hp) : Option (Int32 × Hp) := g_X3_firstOff_0 n v0 v1 v2 h
theorem k_X3_firstOff {X : Nat → Int32} {d : Nat} (hd : 1 ≤ d) {L hi : Nat} (hh : 96 ≤ hi) {n : Nat} {v0 : Nat} {v1 : Nat} {v2 : Int32} {h : Hp} {o : (Int32 × Hp)} (hv0 : OB3 v0) (hv1 : OB4 v1) (SH : SHP L hi h) (hf : g_X3_firstOff n v0 v1 v2 h = some o) : Calls X d 48 [.ref v0, .ref v1, .int v2] h (some (.int o.1), o.2) ∧ SHP L hi o.2 := by
  obtain ⟨d, rfl⟩ : ∃ z, d = z + 1 := ⟨d - 1, by omega⟩
  obtain ⟨r, S2⟩ := q_X3_firstOff_0 hd hh hv0 hv1 SH hf
  exact ⟨⟨_, rfl, r⟩, S2⟩
noncomputable def g_X3_isAsTold_0 (n : Nat) (v0 : Nat) (v1 : Nat) (h : Hp) : Option (Int32 × Hp) :=
  (g_X3_firstOff n v0 v1 0 h).bind fun o1 =>
  if o1.1 ≠ (-1) then
    some (0, o1.2)
  else
    some (1, o1.2)
set_option maxRecDepth 100000 in
set_option maxHeartbeats 4000000 in
theorem q_X3_isAsTold_0 {X : Nat → Int32} {d : Nat} (hd : 2 ≤ (d + 1)) {L hi : Nat} (hh : 96 ≤ hi) {n : Nat} {v0 : Nat} {v1 : Nat} {h : Hp} {o : (Int32 × Hp)} (hv0 : OB3 v0) (hv1 : OB4 v1) (SH : SHP L hi h) (hf : g_X3_isAsTold_0 n v0 v1 h = some o) : Run X (d + 1) 49 0 [some (.ref v0), some (.ref v1)] [] h (some (.int o.1), o.2) ∧ SHP L hi o.2 := by
  unfold g_X3_isAsTold_0 at hf
  refine And.imp_left (rs_aload_n i_X3_isAsTold_0 rfl) ?_
  refine And.imp_left (rs_aload_n i_X3_isAsTold_1 rfl) ?_
  refine And.imp_left (rs_iconst i_X3_isAsTold_2 (v := 0) (by decide)) ?_
  obtain ⟨o1, e1, hf⟩ := bind_some hf
  obtain ⟨u1, SH2⟩ := k_X3_firstOff (X := X) (d := d) (by omega) (by omega) hv0 hv1 SH e1
  refine And.imp_left (rs_inV i_X3_isAsTold_3 m_X3_firstOff rfl (As := [.ref v1, .int 0]) (rest := []) rfl rfl (Nat.le_of_ble_eq_true rfl) (sO3 SH hh hv0) u1 (st' := [.int o1.1]) rfl) ?_
  clear SH; have SH := SH2; clear SH2
  refine And.imp_left (rs_iconst i_X3_isAsTold_6 (v := (-1)) (by decide)) ?_
  by_cases c2 : o1.1 ≠ (-1)
  · replace hf := (if_pos c2).symm.trans hf
    refine And.imp_left (rs_icT i_X3_isAsTold_7 (ct_ne c2) (tg := 14) (by decide)) ?_
    refine And.imp_left (rs_iconst i_X3_isAsTold_14 (v := 0) (by decide)) ?_
    have hf := Option.some.inj hf
    subst hf
    exact ⟨rs_iret i_X3_isAsTold_15 m_X3_isAsTold (by decide), SH⟩
  · replace hf := (if_neg c2).symm.trans hf
    refine And.imp_left (rs_icF i_X3_isAsTold_7 (cf_ne c2)) ?_
    refine And.imp_left (rs_iconst i_X3_isAsTold_10 (v := 1) (by decide)) ?_
    refine And.imp_left (rs_goto i_X3_isAsTold_11 (tg := 15) (by decide)) ?_
    have hf := Option.some.inj hf
    subst hf
    exact ⟨rs_iret i_X3_isAsTold_15 m_X3_isAsTold (by decide), SH⟩
noncomputable def g_X3_isAsTold (n : Nat) (v0 : Nat) (v1 : Nat) (h : Hp) : Option (Int32 × Hp) := g_X3_isAsTold_0 n v0 v1 h
theorem k_X3_isAsTold {X : Nat → Int32} {d : Nat} (hd : 2 ≤ d) {L hi : Nat} (hh : 96 ≤ hi) {n : Nat} {v0 : Nat} {v1 : Nat} {h : Hp} {o : (Int32 × Hp)} (hv0 : OB3 v0) (hv1 : OB4 v1) (SH : SHP L hi h) (hf : g_X3_isAsTold n v0 v1 h = some o) : Calls X d 49 [.ref v0, .ref v1] h (some (.int o.1), o.2) ∧ SHP L hi o.2 := by
  obtain ⟨d, rfl⟩ : ∃ z, d = z + 1 := ⟨d - 1, by omega⟩
  obtain ⟨r, S2⟩ := q_X3_isAsTold_0 hd hh hv0 hv1 SH hf
  exact ⟨⟨_, rfl, r⟩, S2⟩
noncomputable def g_X4_become_21 (n : Nat) : Nat → Nat → Int32 → Hp → Option Hp
  | 0, _, _, _ => none
  | m + 1, v0, v3, h =>
    if 40 ≤ v3 then
      some h
    else
      if inb v3 40 = true then
      (g_X4_become_21 n m) v0 (v3 + 1) (hsi h (v0 + 1) (ix v3) 0)
      else none
set_option maxRecDepth 100000 in
set_option maxHeartbeats 4000000 in
theorem q_X4_become_21 {X : Nat → Int32} {d : Nat} (hd : 0 ≤ d) {L hi : Nat} (hh : 96 ≤ hi) {n : Nat} : ∀ (m : Nat) (v0 : Nat) (v3 : Int32) (d1 : Int32) (d2 : Int32) (hv0 : OB4 v0) (h : Hp) (o : Hp), SHP L hi h → g_X4_become_21 n m v0 v3 h = some o → Run X d 51 21 [some (.ref v0), some (.int d1), some (.int d2), some (.int v3)] [] h (none, o) ∧ SHP L hi o := by
  intro m
  induction m with
  | zero => intro v0 v3 d1 d2 hv0 h o SH hf; cases hf
  | succ m ih =>
    intro v0 v3 d1 d2 hv0 h o SH hf
    rw [g_X4_become_21] at hf
    refine And.imp_left (rs_iload_n i_X4_become_21 rfl) ?_
    refine And.imp_left (rs_bipush i_X4_become_22 (v := 40) (by decide)) ?_
    by_cases c1 : 40 ≤ v3
    · replace hf := (if_pos c1).symm.trans hf
      refine And.imp_left (rs_icT i_X4_become_24 (ct_ge c1) (tg := 40) (by decide)) ?_
      have hf := Option.some.inj hf
      subst hf
      exact ⟨rs_vret i_X4_become_40 m_X4_become rfl, SH⟩
    · replace hf := (if_neg c1).symm.trans hf
      refine And.imp_left (rs_icF i_X4_become_24 (cf_ge c1)) ?_
      refine And.imp_left (rs_aload_n i_X4_become_27 rfl) ?_
      refine And.imp_left (rs_getR i_X4_become_28 (by decide) (by decide) (sO4 SH hh hv0) (sR4_0 SH hh hv0)) ?_
      refine And.imp_left (rs_iload_n i_X4_become_31 rfl) ?_
      refine And.imp_left (rs_iconst i_X4_become_32 (v := 0) (by decide)) ?_
      obtain ⟨c2, hf⟩ := ite_some hf
      refine And.imp_left (rs_iast i_X4_become_33 (mkI (sA SH hh (k := 9) (n := 40) (aR4_0 hv0)) c2)) ?_
      have SH := shi SH (v0 + 1) (ix v3) 0
      refine And.imp_left (rs_iinc i_X4_become_34 rfl (v := v3 + 1) rfl (Nat.le_of_ble_eq_true rfl) (lv' := [some (.ref v0), some (.int d1), some (.int d2), some (.int (v3 + 1))]) rfl) ?_
      refine And.imp_left (rs_goto i_X4_become_37 (tg := 21) (by decide)) ?_
      exact ih _ _ _ _ hv0 _ _ SH hf
noncomputable def g_X4_become_5 (n : Nat) (v0 : Nat) (v2 : Int32) (h : Hp) : Option Hp :=
  g_X4_become_21 n n v0 0 (hsi h v0 2 (if 0 < (if v2 < 40 then v2 else 40) then (if v2 < 40 then v2 else 40) else 0))
set_option maxRecDepth 100000 in
set_option maxHeartbeats 4000000 in
theorem q_X4_become_5 {X : Nat → Int32} {d : Nat} (hd : 0 ≤ d) {L hi : Nat} (hh : 96 ≤ hi) {n : Nat} {v0 : Nat} {v2 : Int32} {d1 : Int32} {h : Hp} {o : Hp} (hv0 : OB4 v0) (SH : SHP L hi h) (hf : g_X4_become_5 n v0 v2 h = some o) : Run X d 51 5 [some (.ref v0), some (.int d1), some (.int v2), none] [] h (none, o) ∧ SHP L hi o := by
  unfold g_X4_become_5 at hf
  refine And.imp_left (rs_aload_n i_X4_become_5 rfl) ?_
  refine And.imp_left (rs_iconst i_X4_become_6 (v := 0) (by decide)) ?_
  refine And.imp_left (rs_bipush i_X4_become_7 (v := 40) (by decide)) ?_
  refine And.imp_left (rs_iload_n i_X4_become_9 rfl) ?_
  refine And.imp_left (rs_min i_X4_become_10 (Nat.le_of_ble_eq_true rfl)) ?_
  refine And.imp_left (rs_max i_X4_become_13 (Nat.le_of_ble_eq_true rfl)) ?_
  refine And.imp_left (rs_putI i_X4_become_16 (by decide) (sO4 SH hh hv0)) ?_
  have SH := shi SH v0 2 (if 0 < (if v2 < 40 then v2 else 40) then (if v2 < 40 then v2 else 40) else 0)
  refine And.imp_left (rs_iconst i_X4_become_19 (v := 0) (by decide)) ?_
  refine And.imp_left (rs_istore_n i_X4_become_20 (Nat.le_of_ble_eq_true rfl) (lv' := [some (.ref v0), some (.int d1), some (.int v2), some (.int 0)]) rfl) ?_
  exact q_X4_become_21 hd hh _ _ _ _ _ hv0 _ _ SH hf
noncomputable def g_X4_become_0 (n : Nat) (v0 : Nat) (v1 : Int32) (v2 : Int32) (h : Hp) : Option Hp :=
  g_X4_become_5 n v0 v2 (hsi h v0 1 v1)
set_option maxRecDepth 100000 in
set_option maxHeartbeats 4000000 in
theorem q_X4_become_0 {X : Nat → Int32} {d : Nat} (hd : 0 ≤ d) {L hi : Nat} (hh : 96 ≤ hi) {n : Nat} {v0 : Nat} {v1 : Int32} {v2 : Int32} {h : Hp} {o : Hp} (hv0 : OB4 v0) (SH : SHP L hi h) (hf : g_X4_become_0 n v0 v1 v2 h = some o) : Run X d 51 0 [some (.ref v0), some (.int v1), some (.int v2), none] [] h (none, o) ∧ SHP L hi o := by
  unfold g_X4_become_0 at hf
  refine And.imp_left (rs_aload_n i_X4_become_0 rfl) ?_
  refine And.imp_left (rs_iload_n i_X4_become_1 rfl) ?_
  refine And.imp_left (rs_putI i_X4_become_2 (by decide) (sO4 SH hh hv0)) ?_
  have SH := shi SH v0 1 v1
  exact q_X4_become_5 hd hh hv0 SH hf
noncomputable def g_X4_become (n : Nat) (v0 : Nat) (v1 : Int32) (v2 : Int32) (h : Hp) : Option Hp := g_X4_become_0 n v0 v1 v2 h
theorem k_X4_become {X : Nat → Int32} {d : Nat} (hd : 0 ≤ d) {L hi : Nat} (hh : 96 ≤ hi) {n : Nat} {v0 : Nat} {v1 : Int32} {v2 : Int32} {h : Hp} {o : Hp} (hv0 : OB4 v0) (SH : SHP L hi h) (hf : g_X4_become n v0 v1 v2 h = some o) : Calls X d 51 [.ref v0, .int v1, .int v2] h (none, o) ∧ SHP L hi o := by
  obtain ⟨r, S2⟩ := q_X4_become_0 hd hh hv0 SH hf
  exact ⟨⟨_, rfl, r⟩, S2⟩
noncomputable def g_X4_has_0 (v0 : Nat) (v1 : Int32) (v2 : Int32) (h : Hp) : Option (Int32 × Hp) :=
  if v1 < 0 then
    some (0, h)
  else
    if v2 < 0 then
      some (0, h)
    else
      if (Int32.toInt64 (gI h v0 2)) < ((Int32.toInt64 v1) + (Int32.toInt64 v2)) then
        some (0, h)
      else
        some (1, h)
set_option maxRecDepth 100000 in
set_option maxHeartbeats 4000000 in
theorem q_X4_has_0 {X : Nat → Int32} {d : Nat} (hd : 0 ≤ d) {L hi : Nat} (hh : 96 ≤ hi) {v0 : Nat} {v1 : Int32} {v2 : Int32} {h : Hp} {o : (Int32 × Hp)} (hv0 : OB4 v0) (SH : SHP L hi h) (hf : g_X4_has_0 v0 v1 v2 h = some o) : Run X d 52 0 [some (.ref v0), some (.int v1), some (.int v2)] [] h (some (.int o.1), o.2) ∧ SHP L hi o.2 := by
  unfold g_X4_has_0 at hf
  refine And.imp_left (rs_iload_n i_X4_has_0 rfl) ?_
  by_cases c1 : v1 < 0
  · replace hf := (if_pos c1).symm.trans hf
    refine And.imp_left (rs_ifT i_X4_has_1 (ct_lt c1) (tg := 26) (by decide)) ?_
    refine And.imp_left (rs_iconst i_X4_has_26 (v := 0) (by decide)) ?_
    have hf := Option.some.inj hf
    subst hf
    exact ⟨rs_iret i_X4_has_27 m_X4_has (by decide), SH⟩
  · replace hf := (if_neg c1).symm.trans hf
    refine And.imp_left (rs_ifF i_X4_has_1 (cf_lt c1)) ?_
    refine And.imp_left (rs_iload_n i_X4_has_4 rfl) ?_
    by_cases c2 : v2 < 0
    · replace hf := (if_pos c2).symm.trans hf
      refine And.imp_left (rs_ifT i_X4_has_5 (ct_lt c2) (tg := 26) (by decide)) ?_
      refine And.imp_left (rs_iconst i_X4_has_26 (v := 0) (by decide)) ?_
      have hf := Option.some.inj hf
      subst hf
      exact ⟨rs_iret i_X4_has_27 m_X4_has (by decide), SH⟩
    · replace hf := (if_neg c2).symm.trans hf
      refine And.imp_left (rs_ifF i_X4_has_5 (cf_lt c2)) ?_
      refine And.imp_left (rs_iload_n i_X4_has_8 rfl) ?_
      refine And.imp_left (rs_i2l i_X4_has_9) ?_
      refine And.imp_left (rs_iload_n i_X4_has_10 rfl) ?_
      refine And.imp_left (rs_i2l i_X4_has_11) ?_
      refine And.imp_left (rs_ladd i_X4_has_12) ?_
      refine And.imp_left (rs_aload_n i_X4_has_13 rfl) ?_
      refine And.imp_left (rs_getI i_X4_has_14 (by decide) (by decide) (sO4 SH hh hv0)) ?_
      refine And.imp_left (rs_i2l i_X4_has_17) ?_
      refine And.imp_left (rs_lcmp i_X4_has_18) ?_
      by_cases c3 : (Int32.toInt64 (gI h v0 2)) < ((Int32.toInt64 v1) + (Int32.toInt64 v2))
      · replace hf := (if_pos c3).symm.trans hf
        refine And.imp_left (rs_ifT i_X4_has_19 (by rw [lc_gt]; exact decide_eq_true c3) (tg := 26) (by decide)) ?_
        refine And.imp_left (rs_iconst i_X4_has_26 (v := 0) (by decide)) ?_
        have hf := Option.some.inj hf
        subst hf
        exact ⟨rs_iret i_X4_has_27 m_X4_has (by decide), SH⟩
      · replace hf := (if_neg c3).symm.trans hf
        refine And.imp_left (rs_ifF i_X4_has_19 (by rw [lc_gt]; exact decide_eq_false c3)) ?_
        refine And.imp_left (rs_iconst i_X4_has_22 (v := 1) (by decide)) ?_
        refine And.imp_left (rs_goto i_X4_has_23 (tg := 27) (by decide)) ?_
        have hf := Option.some.inj hf
        subst hf
        exact ⟨rs_iret i_X4_has_27 m_X4_has (by decide), SH⟩
noncomputable def g_X4_has (v0 : Nat) (v1 : Int32) (v2 : Int32) (h : Hp) : Option (Int32 × Hp) := g_X4_has_0 v0 v1 v2 h
theorem k_X4_has {X : Nat → Int32} {d : Nat} (hd : 0 ≤ d) {L hi : Nat} (hh : 96 ≤ hi) {v0 : Nat} {v1 : Int32} {v2 : Int32} {h : Hp} {o : (Int32 × Hp)} (hv0 : OB4 v0) (SH : SHP L hi h) (hf : g_X4_has v0 v1 v2 h = some o) : Calls X d 52 [.ref v0, .int v1, .int v2] h (some (.int o.1), o.2) ∧ SHP L hi o.2 := by
  obtain ⟨r, S2⟩ := q_X4_has_0 hd hh hv0 SH hf
  exact ⟨⟨_, rfl, r⟩, S2⟩
noncomputable def g_X4_put_40 (s0 : Nat) (s1 : Int32) (s2 : Int32) (h : Hp) : Option Hp :=
  if inb s1 40 = true then
  some (hsi h s0 (ix s1) s2)
  else none
set_option maxRecDepth 100000 in
set_option maxHeartbeats 4000000 in
theorem q_X4_put_40 {X : Nat → Int32} {d : Nat} (hd : 1 ≤ (d + 1)) {L hi : Nat} (hh : 96 ≤ hi) {s0 : Nat} {s1 : Int32} {s2 : Int32} {d0 : Nat} {d1 : Int32} {d2 : Int32} {h : Hp} {o : Hp} (hs0 : ARY 96 s0 9 40) (SH : SHP L hi h) (hf : g_X4_put_40 s0 s1 s2 h = some o) : Run X (d + 1) 53 40 [some (.ref d0), some (.int d1), some (.int d2)] [.int s2, .int s1, .ref s0] h (none, o) ∧ SHP L hi o := by
  unfold g_X4_put_40 at hf
  obtain ⟨c1, hf⟩ := ite_some hf
  refine And.imp_left (rs_iast i_X4_put_40 (mkI (sA SH hh (k := 9) (n := 40) hs0) c1)) ?_
  have SH := shi SH s0 (ix s1) s2
  have hf := Option.some.inj hf
  subst hf
  exact ⟨rs_vret i_X4_put_41 m_X4_put rfl, SH⟩
noncomputable def g_X4_put_0 (v0 : Nat) (v1 : Int32) (v2 : Int32) (h : Hp) : Option Hp :=
  (g_X4_has v0 v1 1 h).bind fun o1 =>
  if o1.1 = 0 then
    some o1.2
  else
    if (gI o1.2 v0 1) ≠ 0 then
      if (gI o1.2 v0 1) ≠ 1 then
        g_X4_put_40 (v0 + 1) v1 v2 o1.2
      else
        g_X4_put_40 (v0 + 1) v1 ((Int32.toInt16 v2).toInt32) o1.2
    else
      g_X4_put_40 (v0 + 1) v1 ((Int32.toInt8 v2).toInt32) o1.2
set_option maxRecDepth 100000 in
set_option maxHeartbeats 4000000 in
theorem q_X4_put_0 {X : Nat → Int32} {d : Nat} (hd : 1 ≤ (d + 1)) {L hi : Nat} (hh : 96 ≤ hi) {v0 : Nat} {v1 : Int32} {v2 : Int32} {h : Hp} {o : Hp} (hv0 : OB4 v0) (SH : SHP L hi h) (hf : g_X4_put_0 v0 v1 v2 h = some o) : Run X (d + 1) 53 0 [some (.ref v0), some (.int v1), some (.int v2)] [] h (none, o) ∧ SHP L hi o := by
  unfold g_X4_put_0 at hf
  refine And.imp_left (rs_aload_n i_X4_put_0 rfl) ?_
  refine And.imp_left (rs_iload_n i_X4_put_1 rfl) ?_
  refine And.imp_left (rs_iconst i_X4_put_2 (v := 1) (by decide)) ?_
  obtain ⟨o1, e1, hf⟩ := bind_some hf
  obtain ⟨u1, SH2⟩ := k_X4_has (X := X) (d := d) (by omega) (by omega) hv0 SH e1
  refine And.imp_left (rs_inV i_X4_put_3 m_X4_has rfl (As := [.int v1, .int 1]) (rest := []) rfl rfl (Nat.le_of_ble_eq_true rfl) (sO4 SH hh hv0) u1 (st' := [.int o1.1]) rfl) ?_
  clear SH; have SH := SH2; clear SH2
  by_cases c2 : o1.1 = 0
  · replace hf := (if_pos c2).symm.trans hf
    refine And.imp_left (rs_ifT i_X4_put_6 (ct_eq c2) (tg := 41) (by decide)) ?_
    have hf := Option.some.inj hf
    subst hf
    exact ⟨rs_vret i_X4_put_41 m_X4_put rfl, SH⟩
  · replace hf := (if_neg c2).symm.trans hf
    refine And.imp_left (rs_ifF i_X4_put_6 (cf_eq c2)) ?_
    refine And.imp_left (rs_aload_n i_X4_put_9 rfl) ?_
    refine And.imp_left (rs_getR i_X4_put_10 (by decide) (by decide) (sO4 SH hh hv0) (sR4_0 SH hh hv0)) ?_
    refine And.imp_left (rs_iload_n i_X4_put_13 rfl) ?_
    refine And.imp_left (rs_aload_n i_X4_put_14 rfl) ?_
    refine And.imp_left (rs_getI i_X4_put_15 (by decide) (by decide) (sO4 SH hh hv0)) ?_
    by_cases c3 : (gI o1.2 v0 1) ≠ 0
    · replace hf := (if_pos c3).symm.trans hf
      refine And.imp_left (rs_ifT i_X4_put_18 (ct_ne c3) (tg := 26) (by decide)) ?_
      refine And.imp_left (rs_aload_n i_X4_put_26 rfl) ?_
      refine And.imp_left (rs_getI i_X4_put_27 (by decide) (by decide) (sO4 SH hh hv0)) ?_
      refine And.imp_left (rs_iconst i_X4_put_30 (v := 1) (by decide)) ?_
      by_cases c4 : (gI o1.2 v0 1) ≠ 1
      · replace hf := (if_pos c4).symm.trans hf
        refine And.imp_left (rs_icT i_X4_put_31 (ct_ne c4) (tg := 39) (by decide)) ?_
        refine And.imp_left (rs_iload_n i_X4_put_39 rfl) ?_
        exact q_X4_put_40 hd hh (aR4_0 hv0) SH hf
      · replace hf := (if_neg c4).symm.trans hf
        refine And.imp_left (rs_icF i_X4_put_31 (cf_ne c4)) ?_
        refine And.imp_left (rs_iload_n i_X4_put_34 rfl) ?_
        refine And.imp_left (rs_i2s i_X4_put_35) ?_
        refine And.imp_left (rs_goto i_X4_put_36 (tg := 40) (by decide)) ?_
        exact q_X4_put_40 hd hh (aR4_0 hv0) SH hf
    · replace hf := (if_neg c3).symm.trans hf
      refine And.imp_left (rs_ifF i_X4_put_18 (cf_ne c3)) ?_
      refine And.imp_left (rs_iload_n i_X4_put_21 rfl) ?_
      refine And.imp_left (rs_i2b i_X4_put_22) ?_
      refine And.imp_left (rs_goto i_X4_put_23 (tg := 40) (by decide)) ?_
      exact q_X4_put_40 hd hh (aR4_0 hv0) SH hf
noncomputable def g_X4_put (v0 : Nat) (v1 : Int32) (v2 : Int32) (h : Hp) : Option Hp := g_X4_put_0 v0 v1 v2 h
theorem k_X4_put {X : Nat → Int32} {d : Nat} (hd : 1 ≤ d) {L hi : Nat} (hh : 96 ≤ hi) {v0 : Nat} {v1 : Int32} {v2 : Int32} {h : Hp} {o : Hp} (hv0 : OB4 v0) (SH : SHP L hi h) (hf : g_X4_put v0 v1 v2 h = some o) : Calls X d 53 [.ref v0, .int v1, .int v2] h (none, o) ∧ SHP L hi o := by
  obtain ⟨d, rfl⟩ : ∃ z, d = z + 1 := ⟨d - 1, by omega⟩
  obtain ⟨r, S2⟩ := q_X4_put_0 hd hh hv0 SH hf
  exact ⟨⟨_, rfl, r⟩, S2⟩
noncomputable def g_X5_become_10 (v0 : Nat) (v3 : Int32) (h : Hp) : Option Hp :=
  some (hsi h v0 2 v3)
set_option maxRecDepth 100000 in
set_option maxHeartbeats 4000000 in
theorem q_X5_become_10 {X : Nat → Int32} {d : Nat} (hd : 0 ≤ d) {L hi : Nat} (hh : 96 ≤ hi) {v0 : Nat} {v3 : Int32} {d1 : Int32} {d2 : Int32} {h : Hp} {o : Hp} (hv0 : OB5 v0) (SH : SHP L hi h) (hf : g_X5_become_10 v0 v3 h = some o) : Run X d 55 10 [some (.ref v0), some (.int d1), some (.int d2), some (.int v3)] [] h (none, o) ∧ SHP L hi o := by
  unfold g_X5_become_10 at hf
  refine And.imp_left (rs_aload_n i_X5_become_10 rfl) ?_
  refine And.imp_left (rs_iload_n i_X5_become_11 rfl) ?_
  refine And.imp_left (rs_putI i_X5_become_12 (by decide) (sO5 SH hh hv0)) ?_
  have SH := shi SH v0 2 v3
  have hf := Option.some.inj hf
  subst hf
  exact ⟨rs_vret i_X5_become_15 m_X5_become rfl, SH⟩
noncomputable def g_X5_become_5 (v0 : Nat) (v2 : Int32) (v3 : Int32) (h : Hp) : Option Hp :=
  g_X5_become_10 v0 v3 (hsi h v0 1 v2)
set_option maxRecDepth 100000 in
set_option maxHeartbeats 4000000 in
theorem q_X5_become_5 {X : Nat → Int32} {d : Nat} (hd : 0 ≤ d) {L hi : Nat} (hh : 96 ≤ hi) {v0 : Nat} {v2 : Int32} {v3 : Int32} {d1 : Int32} {h : Hp} {o : Hp} (hv0 : OB5 v0) (SH : SHP L hi h) (hf : g_X5_become_5 v0 v2 v3 h = some o) : Run X d 55 5 [some (.ref v0), some (.int d1), some (.int v2), some (.int v3)] [] h (none, o) ∧ SHP L hi o := by
  unfold g_X5_become_5 at hf
  refine And.imp_left (rs_aload_n i_X5_become_5 rfl) ?_
  refine And.imp_left (rs_iload_n i_X5_become_6 rfl) ?_
  refine And.imp_left (rs_putI i_X5_become_7 (by decide) (sO5 SH hh hv0)) ?_
  have SH := shi SH v0 1 v2
  exact q_X5_become_10 hd hh hv0 SH hf
noncomputable def g_X5_become_0 (v0 : Nat) (v1 : Int32) (v2 : Int32) (v3 : Int32) (h : Hp) : Option Hp :=
  g_X5_become_5 v0 v2 v3 (hsi h v0 0 v1)
set_option maxRecDepth 100000 in
set_option maxHeartbeats 4000000 in
theorem q_X5_become_0 {X : Nat → Int32} {d : Nat} (hd : 0 ≤ d) {L hi : Nat} (hh : 96 ≤ hi) {v0 : Nat} {v1 : Int32} {v2 : Int32} {v3 : Int32} {h : Hp} {o : Hp} (hv0 : OB5 v0) (SH : SHP L hi h) (hf : g_X5_become_0 v0 v1 v2 v3 h = some o) : Run X d 55 0 [some (.ref v0), some (.int v1), some (.int v2), some (.int v3)] [] h (none, o) ∧ SHP L hi o := by
  unfold g_X5_become_0 at hf
  refine And.imp_left (rs_aload_n i_X5_become_0 rfl) ?_
  refine And.imp_left (rs_iload_n i_X5_become_1 rfl) ?_
  refine And.imp_left (rs_putI i_X5_become_2 (by decide) (sO5 SH hh hv0)) ?_
  have SH := shi SH v0 0 v1
  exact q_X5_become_5 hd hh hv0 SH hf
noncomputable def g_X5_become (v0 : Nat) (v1 : Int32) (v2 : Int32) (v3 : Int32) (h : Hp) : Option Hp := g_X5_become_0 v0 v1 v2 v3 h
theorem k_X5_become {X : Nat → Int32} {d : Nat} (hd : 0 ≤ d) {L hi : Nat} (hh : 96 ≤ hi) {v0 : Nat} {v1 : Int32} {v2 : Int32} {v3 : Int32} {h : Hp} {o : Hp} (hv0 : OB5 v0) (SH : SHP L hi h) (hf : g_X5_become v0 v1 v2 v3 h = some o) : Calls X d 55 [.ref v0, .int v1, .int v2, .int v3] h (none, o) ∧ SHP L hi o := by
  obtain ⟨r, S2⟩ := q_X5_become_0 hd hh hv0 SH hf
  exact ⟨⟨_, rfl, r⟩, S2⟩
noncomputable def g_X5_takes_0 (v0 : Nat) (h : Hp) : Option (Int32 × Hp) :=
  if (gI h v0 0) = 1 then
    some ((10 - (gI h v0 2)), h)
  else
    if (gI h v0 0) = 2 then
      some ((12 - (gI h v0 2)), h)
    else
      if (gI h v0 0) = 3 then
        some (3, h)
      else
        if (gI h v0 0) = 4 then
          some (((gI h v0 1) + 1), h)
        else
          if (gI h v0 0) = 5 then
            some (((gI h v0 1) + 3), h)
          else
            some ((10 * (gI h v0 1)), h)
set_option maxRecDepth 100000 in
set_option maxHeartbeats 4000000 in
theorem q_X5_takes_0 {X : Nat → Int32} {d : Nat} (hd : 0 ≤ d) {L hi : Nat} (hh : 96 ≤ hi) {v0 : Nat} {h : Hp} {o : (Int32 × Hp)} (hv0 : OB5 v0) (SH : SHP L hi h) (hf : g_X5_takes_0 v0 h = some o) : Run X d 56 0 [some (.ref v0)] [] h (some (.int o.1), o.2) ∧ SHP L hi o.2 := by
  unfold g_X5_takes_0 at hf
  refine And.imp_left (rs_aload_n i_X5_takes_0 rfl) ?_
  refine And.imp_left (rs_getI i_X5_takes_1 (by decide) (by decide) (sO5 SH hh hv0)) ?_
  by_cases c1 : (gI h v0 0) = 1
  · replace hf := (if_pos c1).symm.trans hf
    refine And.imp_left (rs_tsw i_X5_takes_4 (off := 36) (by rw [c1]; decide) (tg := 40) (by decide)) ?_
    refine And.imp_left (rs_bipush i_X5_takes_40 (v := 10) (by decide)) ?_
    refine And.imp_left (rs_aload_n i_X5_takes_42 rfl) ?_
    refine And.imp_left (rs_getI i_X5_takes_43 (by decide) (by decide) (sO5 SH hh hv0)) ?_
    refine And.imp_left (rs_isub i_X5_takes_46) ?_
    have hf := Option.some.inj hf
    subst hf
    exact ⟨rs_iret i_X5_takes_47 m_X5_takes rfl, SH⟩
  · replace hf := (if_neg c1).symm.trans hf
    by_cases c2 : (gI h v0 0) = 2
    · replace hf := (if_pos c2).symm.trans hf
      refine And.imp_left (rs_tsw i_X5_takes_4 (off := 44) (by rw [c2]; decide) (tg := 48) (by decide)) ?_
      refine And.imp_left (rs_bipush i_X5_takes_48 (v := 12) (by decide)) ?_
      refine And.imp_left (rs_aload_n i_X5_takes_50 rfl) ?_
      refine And.imp_left (rs_getI i_X5_takes_51 (by decide) (by decide) (sO5 SH hh hv0)) ?_
      refine And.imp_left (rs_isub i_X5_takes_54) ?_
      have hf := Option.some.inj hf
      subst hf
      exact ⟨rs_iret i_X5_takes_55 m_X5_takes rfl, SH⟩
    · replace hf := (if_neg c2).symm.trans hf
      by_cases c3 : (gI h v0 0) = 3
      · replace hf := (if_pos c3).symm.trans hf
        refine And.imp_left (rs_tsw i_X5_takes_4 (off := 52) (by rw [c3]; decide) (tg := 56) (by decide)) ?_
        refine And.imp_left (rs_iconst i_X5_takes_56 (v := 3) (by decide)) ?_
        have hf := Option.some.inj hf
        subst hf
        exact ⟨rs_iret i_X5_takes_57 m_X5_takes rfl, SH⟩
      · replace hf := (if_neg c3).symm.trans hf
        by_cases c4 : (gI h v0 0) = 4
        · replace hf := (if_pos c4).symm.trans hf
          refine And.imp_left (rs_tsw i_X5_takes_4 (off := 54) (by rw [c4]; decide) (tg := 58) (by decide)) ?_
          refine And.imp_left (rs_aload_n i_X5_takes_58 rfl) ?_
          refine And.imp_left (rs_getI i_X5_takes_59 (by decide) (by decide) (sO5 SH hh hv0)) ?_
          refine And.imp_left (rs_iconst i_X5_takes_62 (v := 1) (by decide)) ?_
          refine And.imp_left (rs_iadd i_X5_takes_63) ?_
          have hf := Option.some.inj hf
          subst hf
          exact ⟨rs_iret i_X5_takes_64 m_X5_takes rfl, SH⟩
        · replace hf := (if_neg c4).symm.trans hf
          by_cases c5 : (gI h v0 0) = 5
          · replace hf := (if_pos c5).symm.trans hf
            refine And.imp_left (rs_tsw i_X5_takes_4 (off := 61) (by rw [c5]; decide) (tg := 65) (by decide)) ?_
            refine And.imp_left (rs_aload_n i_X5_takes_65 rfl) ?_
            refine And.imp_left (rs_getI i_X5_takes_66 (by decide) (by decide) (sO5 SH hh hv0)) ?_
            refine And.imp_left (rs_iconst i_X5_takes_69 (v := 3) (by decide)) ?_
            refine And.imp_left (rs_iadd i_X5_takes_70) ?_
            have hf := Option.some.inj hf
            subst hf
            exact ⟨rs_iret i_X5_takes_71 m_X5_takes rfl, SH⟩
          · replace hf := (if_neg c5).symm.trans hf
            refine And.imp_left (rs_tsw i_X5_takes_4 (off := 68) (swt_df (by have z0 := ne_ti c1; rw [show (1 : Int32).toInt = 1 from by decide] at z0; have z1 := ne_ti c2; rw [show (2 : Int32).toInt = 2 from by decide] at z1; have z2 := ne_ti c3; rw [show (3 : Int32).toInt = 3 from by decide] at z2; have z3 := ne_ti c4; rw [show (4 : Int32).toInt = 4 from by decide] at z3; have z4 := ne_ti c5; rw [show (5 : Int32).toInt = 5 from by decide] at z4; omega)) (tg := 72) (by decide)) ?_
            refine And.imp_left (rs_bipush i_X5_takes_72 (v := 10) (by decide)) ?_
            refine And.imp_left (rs_aload_n i_X5_takes_74 rfl) ?_
            refine And.imp_left (rs_getI i_X5_takes_75 (by decide) (by decide) (sO5 SH hh hv0)) ?_
            refine And.imp_left (rs_imul i_X5_takes_78) ?_
            have hf := Option.some.inj hf
            subst hf
            exact ⟨rs_iret i_X5_takes_79 m_X5_takes rfl, SH⟩
noncomputable def g_X5_takes (v0 : Nat) (h : Hp) : Option (Int32 × Hp) := g_X5_takes_0 v0 h
theorem k_X5_takes {X : Nat → Int32} {d : Nat} (hd : 0 ≤ d) {L hi : Nat} (hh : 96 ≤ hi) {v0 : Nat} {h : Hp} {o : (Int32 × Hp)} (hv0 : OB5 v0) (SH : SHP L hi h) (hf : g_X5_takes v0 h = some o) : Calls X d 56 [.ref v0] h (some (.int o.1), o.2) ∧ SHP L hi o.2 := by
  obtain ⟨r, S2⟩ := q_X5_takes_0 hd hh hv0 SH hf
  exact ⟨⟨_, rfl, r⟩, S2⟩
noncomputable def g_X5_isA_7 (n : Nat) : Nat → Int32 → Int32 → Int32 → Hp → Option (Int32 × Hp)
  | 0, _, _, _, _ => none
  | m + 1, v1, v2, v3, h =>
    if 6 ≤ v3 then
      some (0, h)
    else
      (g_X7_within v2 0 5 h).bind fun o2 =>
      if o2.1 = 0 then
        some (0, o2.2)
      else
        if v2 ≠ v1 then
          if inb v2 6 = true then
          (g_X5_isA_7 n m) v1 (roC 0 (ix v2)) (v3 + 1) o2.2
          else none
        else
          some (1, o2.2)
set_option maxRecDepth 100000 in
set_option maxHeartbeats 4000000 in
theorem q_X5_isA_7 {X : Nat → Int32} {d : Nat} (hd : 1 ≤ (d + 1)) {L hi : Nat} (hh : 96 ≤ hi) {n : Nat} : ∀ (m : Nat) (v1 : Int32) (v2 : Int32) (v3 : Int32) (d0 : Nat) (h : Hp) (o : (Int32 × Hp)), SHP L hi h → g_X5_isA_7 n m v1 v2 v3 h = some o → Run X (d + 1) 57 7 [some (.ref d0), some (.int v1), some (.int v2), some (.int v3)] [] h (some (.int o.1), o.2) ∧ SHP L hi o.2 := by
  intro m
  induction m with
  | zero => intro v1 v2 v3 d0 h o SH hf; cases hf
  | succ m ih =>
    intro v1 v2 v3 d0 h o SH hf
    rw [g_X5_isA_7] at hf
    refine And.imp_left (rs_iload_n i_X5_isA_7 rfl) ?_
    refine And.imp_left (rs_bipush i_X5_isA_8 (v := 6) (by decide)) ?_
    by_cases c1 : 6 ≤ v3
    · replace hf := (if_pos c1).symm.trans hf
      refine And.imp_left (rs_icT i_X5_isA_10 (ct_ge c1) (tg := 41) (by decide)) ?_
      refine And.imp_left (rs_iconst i_X5_isA_41 (v := 0) (by decide)) ?_
      have hf := Option.some.inj hf
      subst hf
      exact ⟨rs_iret i_X5_isA_42 m_X5_isA (by decide), SH⟩
    · replace hf := (if_neg c1).symm.trans hf
      refine And.imp_left (rs_icF i_X5_isA_10 (cf_ge c1)) ?_
      refine And.imp_left (rs_iload_n i_X5_isA_13 rfl) ?_
      refine And.imp_left (rs_iconst i_X5_isA_14 (v := 0) (by decide)) ?_
      refine And.imp_left (rs_iconst i_X5_isA_15 (v := 5) (by decide)) ?_
      obtain ⟨o2, e2, hf⟩ := bind_some hf
      obtain ⟨u2, SH2⟩ := k_X7_within (X := X) (d := d) (by omega) (by omega) SH e2
      refine And.imp_left (rs_inS i_X5_isA_16 (by decide) m_X7_within rfl (As := [.int v2, .int 0, .int 5]) (rest := []) rfl rfl (Nat.le_of_ble_eq_true rfl) u2 (st' := [.int o2.1]) rfl) ?_
      clear SH; have SH := SH2; clear SH2
      by_cases c3 : o2.1 = 0
      · replace hf := (if_pos c3).symm.trans hf
        refine And.imp_left (rs_ifT i_X5_isA_19 (ct_eq c3) (tg := 41) (by decide)) ?_
        refine And.imp_left (rs_iconst i_X5_isA_41 (v := 0) (by decide)) ?_
        have hf := Option.some.inj hf
        subst hf
        exact ⟨rs_iret i_X5_isA_42 m_X5_isA (by decide), SH⟩
      · replace hf := (if_neg c3).symm.trans hf
        refine And.imp_left (rs_ifF i_X5_isA_19 (cf_eq c3)) ?_
        refine And.imp_left (rs_iload_n i_X5_isA_22 rfl) ?_
        refine And.imp_left (rs_iload_n i_X5_isA_23 rfl) ?_
        by_cases c4 : v2 ≠ v1
        · replace hf := (if_pos c4).symm.trans hf
          refine And.imp_left (rs_icT i_X5_isA_24 (ct_ne c4) (tg := 29) (by decide)) ?_
          refine And.imp_left (rs_gst0 i_X5_isA_29 rfl) ?_
          refine And.imp_left (rs_iload_n i_X5_isA_32 rfl) ?_
          obtain ⟨c5, hf⟩ := ite_some hf
          refine And.imp_left (rs_ialdA i_X5_isA_33 (sIsA SH c5)) ?_
          refine And.imp_left (rs_istore_n i_X5_isA_34 (Nat.le_of_ble_eq_true rfl) (lv' := [some (.ref d0), some (.int v1), some (.int (roC 0 (ix v2))), some (.int v3)]) rfl) ?_
          refine And.imp_left (rs_iinc i_X5_isA_35 rfl (v := v3 + 1) rfl (Nat.le_of_ble_eq_true rfl) (lv' := [some (.ref d0), some (.int v1), some (.int (roC 0 (ix v2))), some (.int (v3 + 1))]) rfl) ?_
          refine And.imp_left (rs_goto i_X5_isA_38 (tg := 7) (by decide)) ?_
          exact ih _ _ _ _ _ _ SH hf
        · replace hf := (if_neg c4).symm.trans hf
          refine And.imp_left (rs_icF i_X5_isA_24 (cf_ne c4)) ?_
          refine And.imp_left (rs_iconst i_X5_isA_27 (v := 1) (by decide)) ?_
          have hf := Option.some.inj hf
          subst hf
          exact ⟨rs_iret i_X5_isA_28 m_X5_isA (by decide), SH⟩
noncomputable def g_X5_isA_0 (n : Nat) (v0 : Nat) (v1 : Int32) (h : Hp) : Option (Int32 × Hp) :=
  g_X5_isA_7 n n v1 (gI h v0 0) 0 h
set_option maxRecDepth 100000 in
set_option maxHeartbeats 4000000 in
theorem q_X5_isA_0 {X : Nat → Int32} {d : Nat} (hd : 1 ≤ (d + 1)) {L hi : Nat} (hh : 96 ≤ hi) {n : Nat} {v0 : Nat} {v1 : Int32} {h : Hp} {o : (Int32 × Hp)} (hv0 : OB5 v0) (SH : SHP L hi h) (hf : g_X5_isA_0 n v0 v1 h = some o) : Run X (d + 1) 57 0 [some (.ref v0), some (.int v1), none, none] [] h (some (.int o.1), o.2) ∧ SHP L hi o.2 := by
  unfold g_X5_isA_0 at hf
  refine And.imp_left (rs_aload_n i_X5_isA_0 rfl) ?_
  refine And.imp_left (rs_getI i_X5_isA_1 (by decide) (by decide) (sO5 SH hh hv0)) ?_
  refine And.imp_left (rs_istore_n i_X5_isA_4 (Nat.le_of_ble_eq_true rfl) (lv' := [some (.ref v0), some (.int v1), some (.int (gI h v0 0)), none]) rfl) ?_
  refine And.imp_left (rs_iconst i_X5_isA_5 (v := 0) (by decide)) ?_
  refine And.imp_left (rs_istore_n i_X5_isA_6 (Nat.le_of_ble_eq_true rfl) (lv' := [some (.ref v0), some (.int v1), some (.int (gI h v0 0)), some (.int 0)]) rfl) ?_
  exact q_X5_isA_7 hd hh _ _ _ _ _ _ _ SH hf
noncomputable def g_X5_isA (n : Nat) (v0 : Nat) (v1 : Int32) (h : Hp) : Option (Int32 × Hp) := g_X5_isA_0 n v0 v1 h
theorem k_X5_isA {X : Nat → Int32} {d : Nat} (hd : 1 ≤ d) {L hi : Nat} (hh : 96 ≤ hi) {n : Nat} {v0 : Nat} {v1 : Int32} {h : Hp} {o : (Int32 × Hp)} (hv0 : OB5 v0) (SH : SHP L hi h) (hf : g_X5_isA n v0 v1 h = some o) : Calls X d 57 [.ref v0, .int v1] h (some (.int o.1), o.2) ∧ SHP L hi o.2 := by
  obtain ⟨d, rfl⟩ : ∃ z, d = z + 1 := ⟨d - 1, by omega⟩
  obtain ⟨r, S2⟩ := q_X5_isA_0 hd hh hv0 SH hf
  exact ⟨⟨_, rfl, r⟩, S2⟩
noncomputable def g_X7_init_234 (n : Nat) : Nat → Int32 → Hp → Option Hp
  | 0, _, _ => none
  | m + 1, v1, h =>
    (f_J0_length_8abf5 1 h).bind fun o1 =>
    if o1.1 ≤ v1 then
      (g_X2_read n (48 + 4 * ix 0) o1.2).bind fun o3 =>
      (g_X2_empty o3.2).bind fun o4 =>
      some o4
    else
      (f_J0_charAt_5068e 1 v1 o1.2).bind fun o5 =>
      (g_X2_add o5.1 o5.2).bind fun o6 =>
      (g_X7_init_234 n m) (v1 + 1) o6
set_option maxRecDepth 100000 in
set_option maxHeartbeats 4000000 in
theorem q_X7_init_234 {X : Nat → Int32} {d : Nat} (hd : 109 ≤ (d + 1)) {L hi : Nat} (hh : 96 ≤ hi) {n : Nat} : ∀ (m : Nat) (v1 : Int32) (h : Hp) (o : Hp), SHP L hi h → g_X7_init_234 n m v1 h = some o → Run X (d + 1) 66 234 [some (.ref 16), some (.int v1)] [] h (none, o) ∧ SHP L hi o := by
  intro m
  induction m with
  | zero => intro v1 h o SH hf; cases hf
  | succ m ih =>
    intro v1 h o SH hf
    rw [g_X7_init_234] at hf
    refine And.imp_left (rs_iload_n i_X7_init_234 rfl) ?_
    refine And.imp_left (rs_ldcS i_X7_init_235 (by decide)) ?_
    obtain ⟨o1, e1, hf⟩ := bind_some hf
    have u1 := c_J0_length_8abf5 (X := X) (d := d) (by omega) e1
    have w1 : okO h 1 20 := sStr SH (by decide)
    have SH : SHP L hi o1.2 := by rw [j_J0_length_8abf5 e1]; exact SH
    refine And.imp_left (rs_inV i_X7_init_237 m_J0_length_8abf5 rfl (As := []) (rest := [.int v1]) rfl rfl (Nat.le_of_ble_eq_true rfl) w1 u1 (st' := [.int o1.1, .int v1]) rfl) ?_
    by_cases c2 : o1.1 ≤ v1
    · replace hf := (if_pos c2).symm.trans hf
      refine And.imp_left (rs_icT i_X7_init_240 (ct_ge c2) (tg := 262) (by decide)) ?_
      refine And.imp_left (rs_aload_n i_X7_init_262 rfl) ?_
      refine And.imp_left (rs_getR i_X7_init_263 (by decide) (by decide) (sO7 SH hh) (sR7_5 SH hh)) ?_
      refine And.imp_left (rs_aload_n i_X7_init_266 rfl) ?_
      refine And.imp_left (rs_getR i_X7_init_267 (by decide) (by decide) (sO7 SH hh) (sR7_4 SH hh)) ?_
      refine And.imp_left (rs_iconst i_X7_init_270 (v := 0) (by decide)) ?_
      refine And.imp_left (rs_aald i_X7_init_271 (mkR (sA SH hh (k := 13) (n := 6) (by decide)) (by decide) (by decide)) (sE30 SH hh (by decide))) ?_
      obtain ⟨o3, e3, hf⟩ := bind_some hf
      obtain ⟨u3, SH2⟩ := k_X2_read (X := X) (d := d) (by omega) (by omega) (oE30 (by decide)) SH e3
      refine And.imp_left (rs_inV i_X7_init_272 m_X2_read rfl (As := [.ref (48 + 4 * ix 0)]) (rest := []) rfl rfl (Nat.le_of_ble_eq_true rfl) (sO2 SH hh) u3 (st' := [.int o3.1]) rfl) ?_
      clear SH; have SH := SH2; clear SH2
      refine And.imp_left (rs_pop i_X7_init_275 rfl) ?_
      refine And.imp_left (rs_aload_n i_X7_init_276 rfl) ?_
      refine And.imp_left (rs_getR i_X7_init_277 (by decide) (by decide) (sO7 SH hh) (sR7_5 SH hh)) ?_
      obtain ⟨o4, e4, hf⟩ := bind_some hf
      obtain ⟨u4, SH2⟩ := k_X2_empty (X := X) (d := d) (by omega) (by omega) SH e4
      refine And.imp_left (rs_inV i_X7_init_280 m_X2_empty rfl (As := []) (rest := []) rfl rfl (Nat.le_of_ble_eq_true rfl) (sO2 SH hh) u4 (st' := []) rfl) ?_
      clear SH; have SH := SH2; clear SH2
      have hf := Option.some.inj hf
      subst hf
      exact ⟨rs_vret i_X7_init_283 m_X7_init rfl, SH⟩
    · replace hf := (if_neg c2).symm.trans hf
      refine And.imp_left (rs_icF i_X7_init_240 (cf_ge c2)) ?_
      refine And.imp_left (rs_aload_n i_X7_init_243 rfl) ?_
      refine And.imp_left (rs_getR i_X7_init_244 (by decide) (by decide) (sO7 SH hh) (sR7_5 SH hh)) ?_
      refine And.imp_left (rs_ldcS i_X7_init_247 (by decide)) ?_
      refine And.imp_left (rs_iload_n i_X7_init_249 rfl) ?_
      obtain ⟨o5, e5, hf⟩ := bind_some hf
      have u5 := c_J0_charAt_5068e (X := X) (d := d) (by omega) e5
      have w5 : okO o1.2 1 20 := sStr SH (by decide)
      have SH : SHP L hi o5.2 := by rw [j_J0_charAt_5068e e5]; exact SH
      refine And.imp_left (rs_inV i_X7_init_250 m_J0_charAt_5068e rfl (As := [.int v1]) (rest := [.ref 31]) rfl rfl (Nat.le_of_ble_eq_true rfl) w5 u5 (st' := [.int o5.1, .ref 31]) rfl) ?_
      obtain ⟨o6, e6, hf⟩ := bind_some hf
      obtain ⟨u6, SH2⟩ := k_X2_add (X := X) (d := d) (by omega) (by omega) SH e6
      refine And.imp_left (rs_inV i_X7_init_253 m_X2_add rfl (As := [.int o5.1]) (rest := []) rfl rfl (Nat.le_of_ble_eq_true rfl) (sO2 SH hh) u6 (st' := []) rfl) ?_
      clear SH; have SH := SH2; clear SH2
      refine And.imp_left (rs_iinc i_X7_init_256 rfl (v := v1 + 1) rfl (Nat.le_of_ble_eq_true rfl) (lv' := [some (.ref 16), some (.int (v1 + 1))]) rfl) ?_
      refine And.imp_left (rs_goto i_X7_init_259 (tg := 234) (by decide)) ?_
      exact ih _ _ _ SH hf
noncomputable def g_X7_init_232 (n : Nat)  (h : Hp) : Option Hp :=
  g_X7_init_234 n n 0 h
set_option maxRecDepth 100000 in
set_option maxHeartbeats 4000000 in
theorem q_X7_init_232 {X : Nat → Int32} {d : Nat} (hd : 109 ≤ (d + 1)) {L hi : Nat} (hh : 96 ≤ hi) {n : Nat} {d1 : Int32} {h : Hp} {o : Hp}  (SH : SHP L hi h) (hf : g_X7_init_232 n h = some o) : Run X (d + 1) 66 232 [some (.ref 16), some (.int d1)] [] h (none, o) ∧ SHP L hi o := by
  unfold g_X7_init_232 at hf
  refine And.imp_left (rs_iconst i_X7_init_232 (v := 0) (by decide)) ?_
  refine And.imp_left (rs_istore_n i_X7_init_233 (Nat.le_of_ble_eq_true rfl) (lv' := [some (.ref 16), some (.int 0)]) rfl) ?_
  exact q_X7_init_234 hd hh _ _ _ _ SH hf
noncomputable def g_X7_roll_66 (v1 : Int32) (v3 : Int32) (s0 : Nat) (h : Hp) : Option (Int32 × Hp) :=
  if inb v1 12 = true then
  some ((gI h s0 (ix v1)), (hsi h s0 (ix v1) v3))
  else none
set_option maxRecDepth 100000 in
set_option maxHeartbeats 4000000 in
theorem q_X7_roll_66 {X : Nat → Int32} {d : Nat} (hd : 1 ≤ (d + 1)) {L hi : Nat} (hh : 96 ≤ hi) {v1 : Int32} {v3 : Int32} {s0 : Nat} {d2 : Int32} {h : Hp} {o : (Int32 × Hp)} (hs0 : ARY 96 s0 9 12) (SH : SHP L hi h) (hf : g_X7_roll_66 v1 v3 s0 h = some o) : Run X (d + 1) 67 66 [some (.ref 16), some (.int v1), some (.int d2), some (.int v3), none, none] [.ref s0] h (some (.int o.1), o.2) ∧ SHP L hi o.2 := by
  unfold g_X7_roll_66 at hf
  refine And.imp_left (rs_astore i_X7_roll_66 (Nat.le_of_ble_eq_true rfl) (lv' := [some (.ref 16), some (.int v1), some (.int d2), some (.int v3), some (.ref s0), none]) rfl) ?_
  refine And.imp_left (rs_aload i_X7_roll_68 rfl) ?_
  refine And.imp_left (rs_iload_n i_X7_roll_70 rfl) ?_
  obtain ⟨c1, hf⟩ := ite_some hf
  refine And.imp_left (rs_iald i_X7_roll_71 (mkI (sA SH hh (k := 9) (n := 12) hs0) c1)) ?_
  refine And.imp_left (rs_istore i_X7_roll_72 (Nat.le_of_ble_eq_true rfl) (lv' := [some (.ref 16), some (.int v1), some (.int d2), some (.int v3), some (.ref s0), some (.int (gI h s0 (ix v1)))]) rfl) ?_
  refine And.imp_left (rs_aload i_X7_roll_74 rfl) ?_
  refine And.imp_left (rs_iload_n i_X7_roll_76 rfl) ?_
  refine And.imp_left (rs_iload_n i_X7_roll_77 rfl) ?_
  refine And.imp_left (rs_iast i_X7_roll_78 (mkI (sA SH hh (k := 9) (n := 12) hs0) c1)) ?_
  have SH := shi SH s0 (ix v1) v3
  refine And.imp_left (rs_iload i_X7_roll_79 rfl) ?_
  have hf := Option.some.inj hf
  subst hf
  exact ⟨rs_iret i_X7_roll_81 m_X7_roll rfl, SH⟩
noncomputable def g_X7_roll_36 (v1 : Int32) (v2 : Int32) (v3 : Int32) (s0 : Int32) (s1 : Int32) (s2 : Int32) (h : Hp) : Option (Int32 × Hp) :=
  (g_X7_within s0 s1 s2 h).bind fun o1 =>
  if o1.1 ≠ 0 then
    if v2 ≠ 0 then
      g_X7_roll_66 v1 v3 19 o1.2
    else
      g_X7_roll_66 v1 v3 18 o1.2
  else
    some ((-7), o1.2)
set_option maxRecDepth 100000 in
set_option maxHeartbeats 4000000 in
theorem q_X7_roll_36 {X : Nat → Int32} {d : Nat} (hd : 1 ≤ (d + 1)) {L hi : Nat} (hh : 96 ≤ hi) {v1 : Int32} {v2 : Int32} {v3 : Int32} {s0 : Int32} {s1 : Int32} {s2 : Int32} {h : Hp} {o : (Int32 × Hp)}  (SH : SHP L hi h) (hf : g_X7_roll_36 v1 v2 v3 s0 s1 s2 h = some o) : Run X (d + 1) 67 36 [some (.ref 16), some (.int v1), some (.int v2), some (.int v3), none, none] [.int s2, .int s1, .int s0] h (some (.int o.1), o.2) ∧ SHP L hi o.2 := by
  unfold g_X7_roll_36 at hf
  obtain ⟨o1, e1, hf⟩ := bind_some hf
  obtain ⟨u1, SH2⟩ := k_X7_within (X := X) (d := d) (by omega) (by omega) SH e1
  refine And.imp_left (rs_inS i_X7_roll_36 (by decide) m_X7_within rfl (As := [.int s0, .int s1, .int s2]) (rest := []) rfl rfl (Nat.le_of_ble_eq_true rfl) u1 (st' := [.int o1.1]) rfl) ?_
  clear SH; have SH := SH2; clear SH2
  by_cases c2 : o1.1 ≠ 0
  · replace hf := (if_pos c2).symm.trans hf
    refine And.imp_left (rs_ifT i_X7_roll_39 (ct_ne c2) (tg := 45) (by decide)) ?_
    refine And.imp_left (rs_iload_n i_X7_roll_45 rfl) ?_
    by_cases c3 : v2 ≠ 0
    · replace hf := (if_pos c3).symm.trans hf
      refine And.imp_left (rs_ifT i_X7_roll_46 (ct_ne c3) (tg := 59) (by decide)) ?_
      refine And.imp_left (rs_aload_n i_X7_roll_59 rfl) ?_
      refine And.imp_left (rs_getR i_X7_roll_60 (by decide) (by decide) (sO7 SH hh) (sR7_0 SH hh)) ?_
      refine And.imp_left (rs_getR i_X7_roll_63 (by decide) (by decide) (sO0 SH hh (by decide)) (sR0_1 SH hh (by decide))) ?_
      exact q_X7_roll_66 hd hh (by decide) SH hf
    · replace hf := (if_neg c3).symm.trans hf
      refine And.imp_left (rs_ifF i_X7_roll_46 (cf_ne c3)) ?_
      refine And.imp_left (rs_aload_n i_X7_roll_49 rfl) ?_
      refine And.imp_left (rs_getR i_X7_roll_50 (by decide) (by decide) (sO7 SH hh) (sR7_0 SH hh)) ?_
      refine And.imp_left (rs_getR i_X7_roll_53 (by decide) (by decide) (sO0 SH hh (by decide)) (sR0_0 SH hh (by decide))) ?_
      refine And.imp_left (rs_goto i_X7_roll_56 (tg := 66) (by decide)) ?_
      exact q_X7_roll_66 hd hh (by decide) SH hf
  · replace hf := (if_neg c2).symm.trans hf
    refine And.imp_left (rs_ifF i_X7_roll_39 (cf_ne c2)) ?_
    refine And.imp_left (rs_bipush i_X7_roll_42 (v := (-7)) (by decide)) ?_
    have hf := Option.some.inj hf
    subst hf
    exact ⟨rs_iret i_X7_roll_44 m_X7_roll rfl, SH⟩
noncomputable def g_X7_roll_0 (v1 : Int32) (v2 : Int32) (v3 : Int32) (h : Hp) : Option (Int32 × Hp) :=
  (g_X7_within v1 0 11 h).bind fun o1 =>
  if o1.1 ≠ 0 then
    (g_X7_within v2 0 1 o1.2).bind fun o3 =>
    if o3.1 = 0 then
      some ((-7), o3.2)
    else
      if v2 ≠ 0 then
        g_X7_roll_36 v1 v2 v3 v3 1 999 o3.2
      else
        g_X7_roll_36 v1 v2 v3 v3 1 99999 o3.2
  else
    some ((-5), o1.2)
set_option maxRecDepth 100000 in
set_option maxHeartbeats 4000000 in
theorem q_X7_roll_0 {X : Nat → Int32} {d : Nat} (hd : 1 ≤ (d + 1)) {L hi : Nat} (hh : 96 ≤ hi) {v1 : Int32} {v2 : Int32} {v3 : Int32} {h : Hp} {o : (Int32 × Hp)}  (SH : SHP L hi h) (hf : g_X7_roll_0 v1 v2 v3 h = some o) : Run X (d + 1) 67 0 [some (.ref 16), some (.int v1), some (.int v2), some (.int v3), none, none] [] h (some (.int o.1), o.2) ∧ SHP L hi o.2 := by
  unfold g_X7_roll_0 at hf
  refine And.imp_left (rs_iload_n i_X7_roll_0 rfl) ?_
  refine And.imp_left (rs_iconst i_X7_roll_1 (v := 0) (by decide)) ?_
  refine And.imp_left (rs_bipush i_X7_roll_2 (v := 11) (by decide)) ?_
  obtain ⟨o1, e1, hf⟩ := bind_some hf
  obtain ⟨u1, SH2⟩ := k_X7_within (X := X) (d := d) (by omega) (by omega) SH e1
  refine And.imp_left (rs_inS i_X7_roll_4 (by decide) m_X7_within rfl (As := [.int v1, .int 0, .int 11]) (rest := []) rfl rfl (Nat.le_of_ble_eq_true rfl) u1 (st' := [.int o1.1]) rfl) ?_
  clear SH; have SH := SH2; clear SH2
  by_cases c2 : o1.1 ≠ 0
  · replace hf := (if_pos c2).symm.trans hf
    refine And.imp_left (rs_ifT i_X7_roll_7 (ct_ne c2) (tg := 13) (by decide)) ?_
    refine And.imp_left (rs_iload_n i_X7_roll_13 rfl) ?_
    refine And.imp_left (rs_iconst i_X7_roll_14 (v := 0) (by decide)) ?_
    refine And.imp_left (rs_iconst i_X7_roll_15 (v := 1) (by decide)) ?_
    obtain ⟨o3, e3, hf⟩ := bind_some hf
    obtain ⟨u3, SH2⟩ := k_X7_within (X := X) (d := d) (by omega) (by omega) SH e3
    refine And.imp_left (rs_inS i_X7_roll_16 (by decide) m_X7_within rfl (As := [.int v2, .int 0, .int 1]) (rest := []) rfl rfl (Nat.le_of_ble_eq_true rfl) u3 (st' := [.int o3.1]) rfl) ?_
    clear SH; have SH := SH2; clear SH2
    by_cases c4 : o3.1 = 0
    · replace hf := (if_pos c4).symm.trans hf
      refine And.imp_left (rs_ifT i_X7_roll_19 (ct_eq c4) (tg := 42) (by decide)) ?_
      refine And.imp_left (rs_bipush i_X7_roll_42 (v := (-7)) (by decide)) ?_
      have hf := Option.some.inj hf
      subst hf
      exact ⟨rs_iret i_X7_roll_44 m_X7_roll rfl, SH⟩
    · replace hf := (if_neg c4).symm.trans hf
      refine And.imp_left (rs_ifF i_X7_roll_19 (cf_eq c4)) ?_
      refine And.imp_left (rs_iload_n i_X7_roll_22 rfl) ?_
      refine And.imp_left (rs_iconst i_X7_roll_23 (v := 1) (by decide)) ?_
      refine And.imp_left (rs_iload_n i_X7_roll_24 rfl) ?_
      by_cases c5 : v2 ≠ 0
      · replace hf := (if_pos c5).symm.trans hf
        refine And.imp_left (rs_ifT i_X7_roll_25 (ct_ne c5) (tg := 33) (by decide)) ?_
        refine And.imp_left (rs_sipush i_X7_roll_33 (v := 999) (by decide)) ?_
        exact q_X7_roll_36 hd hh SH hf
      · replace hf := (if_neg c5).symm.trans hf
        refine And.imp_left (rs_ifF i_X7_roll_25 (cf_ne c5)) ?_
        refine And.imp_left (rs_ldc i_X7_roll_28 (v := 99999) (by decide)) ?_
        refine And.imp_left (rs_goto i_X7_roll_30 (tg := 36) (by decide)) ?_
        exact q_X7_roll_36 hd hh SH hf
  · replace hf := (if_neg c2).symm.trans hf
    refine And.imp_left (rs_ifF i_X7_roll_7 (cf_ne c2)) ?_
    refine And.imp_left (rs_bipush i_X7_roll_10 (v := (-5)) (by decide)) ?_
    have hf := Option.some.inj hf
    subst hf
    exact ⟨rs_iret i_X7_roll_12 m_X7_roll rfl, SH⟩
noncomputable def g_X7_roll (v1 : Int32) (v2 : Int32) (v3 : Int32) (h : Hp) : Option (Int32 × Hp) := g_X7_roll_0 v1 v2 v3 h
theorem k_X7_roll {X : Nat → Int32} {d : Nat} (hd : 1 ≤ d) {L hi : Nat} (hh : 96 ≤ hi) {v1 : Int32} {v2 : Int32} {v3 : Int32} {h : Hp} {o : (Int32 × Hp)}  (SH : SHP L hi h) (hf : g_X7_roll v1 v2 v3 h = some o) : Calls X d 67 [.ref 16, .int v1, .int v2, .int v3] h (some (.int o.1), o.2) ∧ SHP L hi o.2 := by
  obtain ⟨d, rfl⟩ : ∃ z, d = z + 1 := ⟨d - 1, by omega⟩
  obtain ⟨r, S2⟩ := q_X7_roll_0 hd hh SH hf
  exact ⟨⟨_, rfl, r⟩, S2⟩
noncomputable def g_X7_set_0 (v1 : Int32) (v2 : Int32) (h : Hp) : Option (Int32 × Hp) :=
  (g_X7_within v1 0 2 h).bind fun o1 =>
  if o1.1 ≠ 0 then
    (g_X7_within v2 0 9 o1.2).bind fun o3 =>
    if o3.1 ≠ 0 then
      if inb v1 3 = true then
      some ((gI o3.2 20 (ix v1)), (hsi o3.2 20 (ix v1) v2))
      else none
    else
      some ((-2), o3.2)
  else
    some ((-1), o1.2)
set_option maxRecDepth 100000 in
set_option maxHeartbeats 4000000 in
theorem q_X7_set_0 {X : Nat → Int32} {d : Nat} (hd : 1 ≤ (d + 1)) {L hi : Nat} (hh : 96 ≤ hi) {v1 : Int32} {v2 : Int32} {h : Hp} {o : (Int32 × Hp)}  (SH : SHP L hi h) (hf : g_X7_set_0 v1 v2 h = some o) : Run X (d + 1) 68 0 [some (.ref 16), some (.int v1), some (.int v2), none] [] h (some (.int o.1), o.2) ∧ SHP L hi o.2 := by
  unfold g_X7_set_0 at hf
  refine And.imp_left (rs_iload_n i_X7_set_0 rfl) ?_
  refine And.imp_left (rs_iconst i_X7_set_1 (v := 0) (by decide)) ?_
  refine And.imp_left (rs_iconst i_X7_set_2 (v := 2) (by decide)) ?_
  obtain ⟨o1, e1, hf⟩ := bind_some hf
  obtain ⟨u1, SH2⟩ := k_X7_within (X := X) (d := d) (by omega) (by omega) SH e1
  refine And.imp_left (rs_inS i_X7_set_3 (by decide) m_X7_within rfl (As := [.int v1, .int 0, .int 2]) (rest := []) rfl rfl (Nat.le_of_ble_eq_true rfl) u1 (st' := [.int o1.1]) rfl) ?_
  clear SH; have SH := SH2; clear SH2
  by_cases c2 : o1.1 ≠ 0
  · replace hf := (if_pos c2).symm.trans hf
    refine And.imp_left (rs_ifT i_X7_set_6 (ct_ne c2) (tg := 11) (by decide)) ?_
    refine And.imp_left (rs_iload_n i_X7_set_11 rfl) ?_
    refine And.imp_left (rs_iconst i_X7_set_12 (v := 0) (by decide)) ?_
    refine And.imp_left (rs_bipush i_X7_set_13 (v := 9) (by decide)) ?_
    obtain ⟨o3, e3, hf⟩ := bind_some hf
    obtain ⟨u3, SH2⟩ := k_X7_within (X := X) (d := d) (by omega) (by omega) SH e3
    refine And.imp_left (rs_inS i_X7_set_15 (by decide) m_X7_within rfl (As := [.int v2, .int 0, .int 9]) (rest := []) rfl rfl (Nat.le_of_ble_eq_true rfl) u3 (st' := [.int o3.1]) rfl) ?_
    clear SH; have SH := SH2; clear SH2
    by_cases c4 : o3.1 ≠ 0
    · replace hf := (if_pos c4).symm.trans hf
      refine And.imp_left (rs_ifT i_X7_set_18 (ct_ne c4) (tg := 24) (by decide)) ?_
      refine And.imp_left (rs_aload_n i_X7_set_24 rfl) ?_
      refine And.imp_left (rs_getR i_X7_set_25 (by decide) (by decide) (sO7 SH hh) (sR7_0 SH hh)) ?_
      refine And.imp_left (rs_getR i_X7_set_28 (by decide) (by decide) (sO0 SH hh (by decide)) (sR0_2 SH hh (by decide))) ?_
      refine And.imp_left (rs_iload_n i_X7_set_31 rfl) ?_
      obtain ⟨c5, hf⟩ := ite_some hf
      refine And.imp_left (rs_iald i_X7_set_32 (mkI (sA SH hh (k := 9) (n := 3) (by decide)) c5)) ?_
      refine And.imp_left (rs_istore_n i_X7_set_33 (Nat.le_of_ble_eq_true rfl) (lv' := [some (.ref 16), some (.int v1), some (.int v2), some (.int (gI o3.2 20 (ix v1)))]) rfl) ?_
      refine And.imp_left (rs_aload_n i_X7_set_34 rfl) ?_
      refine And.imp_left (rs_getR i_X7_set_35 (by decide) (by decide) (sO7 SH hh) (sR7_0 SH hh)) ?_
      refine And.imp_left (rs_getR i_X7_set_38 (by decide) (by decide) (sO0 SH hh (by decide)) (sR0_2 SH hh (by decide))) ?_
      refine And.imp_left (rs_iload_n i_X7_set_41 rfl) ?_
      refine And.imp_left (rs_iload_n i_X7_set_42 rfl) ?_
      refine And.imp_left (rs_iast i_X7_set_43 (mkI (sA SH hh (k := 9) (n := 3) (by decide)) c5)) ?_
      have SH := shi SH 20 (ix v1) v2
      refine And.imp_left (rs_iload_n i_X7_set_44 rfl) ?_
      have hf := Option.some.inj hf
      subst hf
      exact ⟨rs_iret i_X7_set_45 m_X7_set rfl, SH⟩
    · replace hf := (if_neg c4).symm.trans hf
      refine And.imp_left (rs_ifF i_X7_set_18 (cf_ne c4)) ?_
      refine And.imp_left (rs_bipush i_X7_set_21 (v := (-2)) (by decide)) ?_
      have hf := Option.some.inj hf
      subst hf
      exact ⟨rs_iret i_X7_set_23 m_X7_set rfl, SH⟩
  · replace hf := (if_neg c2).symm.trans hf
    refine And.imp_left (rs_ifF i_X7_set_6 (cf_ne c2)) ?_
    refine And.imp_left (rs_iconst i_X7_set_9 (v := (-1)) (by decide)) ?_
    have hf := Option.some.inj hf
    subst hf
    exact ⟨rs_iret i_X7_set_10 m_X7_set rfl, SH⟩
noncomputable def g_X7_set (v1 : Int32) (v2 : Int32) (h : Hp) : Option (Int32 × Hp) := g_X7_set_0 v1 v2 h
theorem k_X7_set {X : Nat → Int32} {d : Nat} (hd : 1 ≤ d) {L hi : Nat} (hh : 96 ≤ hi) {v1 : Int32} {v2 : Int32} {h : Hp} {o : (Int32 × Hp)}  (SH : SHP L hi h) (hf : g_X7_set v1 v2 h = some o) : Calls X d 68 [.ref 16, .int v1, .int v2] h (some (.int o.1), o.2) ∧ SHP L hi o.2 := by
  obtain ⟨d, rfl⟩ : ∃ z, d = z + 1 := ⟨d - 1, by omega⟩
  obtain ⟨r, S2⟩ := q_X7_set_0 hd hh SH hf
  exact ⟨⟨_, rfl, r⟩, S2⟩
noncomputable def g_X7_count_0 (v1 : Int32) (h : Hp) : Option (Int32 × Hp) :=
  (g_X7_within v1 0 2 h).bind fun o1 =>
  if o1.1 = 0 then
    if v1 = 3 then
      some ((gI o1.2 16 12), o1.2)
    else
      if v1 = 4 then
        some ((gI o1.2 16 13), o1.2)
      else
        if v1 = 5 then
          some ((gI o1.2 17 3), o1.2)
        else
          if v1 = 6 then
            some ((gI o1.2 31 1), o1.2)
          else
            some ((-2), o1.2)
  else
    if inb v1 3 = true then
    some ((gI o1.2 20 (ix v1)), o1.2)
    else none
set_option maxRecDepth 100000 in
set_option maxHeartbeats 4000000 in
theorem q_X7_count_0 {X : Nat → Int32} {d : Nat} (hd : 1 ≤ (d + 1)) {L hi : Nat} (hh : 96 ≤ hi) {v1 : Int32} {h : Hp} {o : (Int32 × Hp)}  (SH : SHP L hi h) (hf : g_X7_count_0 v1 h = some o) : Run X (d + 1) 69 0 [some (.ref 16), some (.int v1)] [] h (some (.int o.1), o.2) ∧ SHP L hi o.2 := by
  unfold g_X7_count_0 at hf
  refine And.imp_left (rs_iload_n i_X7_count_0 rfl) ?_
  refine And.imp_left (rs_iconst i_X7_count_1 (v := 0) (by decide)) ?_
  refine And.imp_left (rs_iconst i_X7_count_2 (v := 2) (by decide)) ?_
  obtain ⟨o1, e1, hf⟩ := bind_some hf
  obtain ⟨u1, SH2⟩ := k_X7_within (X := X) (d := d) (by omega) (by omega) SH e1
  refine And.imp_left (rs_inS i_X7_count_3 (by decide) m_X7_within rfl (As := [.int v1, .int 0, .int 2]) (rest := []) rfl rfl (Nat.le_of_ble_eq_true rfl) u1 (st' := [.int o1.1]) rfl) ?_
  clear SH; have SH := SH2; clear SH2
  by_cases c2 : o1.1 = 0
  · replace hf := (if_pos c2).symm.trans hf
    refine And.imp_left (rs_ifT i_X7_count_6 (ct_eq c2) (tg := 19) (by decide)) ?_
    refine And.imp_left (rs_iload_n i_X7_count_19 rfl) ?_
    by_cases c3 : v1 = 3
    · replace hf := (if_pos c3).symm.trans hf
      refine And.imp_left (rs_tsw i_X7_count_20 (off := 32) (by rw [c3]; decide) (tg := 52) (by decide)) ?_
      refine And.imp_left (rs_aload_n i_X7_count_52 rfl) ?_
      refine And.imp_left (rs_getI i_X7_count_53 (by decide) (by decide) (sO7 SH hh)) ?_
      have hf := Option.some.inj hf
      subst hf
      exact ⟨rs_iret i_X7_count_56 m_X7_count rfl, SH⟩
    · replace hf := (if_neg c3).symm.trans hf
      by_cases c4 : v1 = 4
      · replace hf := (if_pos c4).symm.trans hf
        refine And.imp_left (rs_tsw i_X7_count_20 (off := 37) (by rw [c4]; decide) (tg := 57) (by decide)) ?_
        refine And.imp_left (rs_aload_n i_X7_count_57 rfl) ?_
        refine And.imp_left (rs_getI i_X7_count_58 (by decide) (by decide) (sO7 SH hh)) ?_
        have hf := Option.some.inj hf
        subst hf
        exact ⟨rs_iret i_X7_count_61 m_X7_count rfl, SH⟩
      · replace hf := (if_neg c4).symm.trans hf
        by_cases c5 : v1 = 5
        · replace hf := (if_pos c5).symm.trans hf
          refine And.imp_left (rs_tsw i_X7_count_20 (off := 42) (by rw [c5]; decide) (tg := 62) (by decide)) ?_
          refine And.imp_left (rs_aload_n i_X7_count_62 rfl) ?_
          refine And.imp_left (rs_getR i_X7_count_63 (by decide) (by decide) (sO7 SH hh) (sR7_0 SH hh)) ?_
          refine And.imp_left (rs_getI i_X7_count_66 (by decide) (by decide) (sO0 SH hh (by decide))) ?_
          have hf := Option.some.inj hf
          subst hf
          exact ⟨rs_iret i_X7_count_69 m_X7_count rfl, SH⟩
        · replace hf := (if_neg c5).symm.trans hf
          by_cases c6 : v1 = 6
          · replace hf := (if_pos c6).symm.trans hf
            refine And.imp_left (rs_tsw i_X7_count_20 (off := 50) (by rw [c6]; decide) (tg := 70) (by decide)) ?_
            refine And.imp_left (rs_aload_n i_X7_count_70 rfl) ?_
            refine And.imp_left (rs_getR i_X7_count_71 (by decide) (by decide) (sO7 SH hh) (sR7_5 SH hh)) ?_
            refine And.imp_left (rs_getI i_X7_count_74 (by decide) (by decide) (sO2 SH hh)) ?_
            have hf := Option.some.inj hf
            subst hf
            exact ⟨rs_iret i_X7_count_77 m_X7_count rfl, SH⟩
          · replace hf := (if_neg c6).symm.trans hf
            refine And.imp_left (rs_tsw i_X7_count_20 (off := 58) (swt_df (by have z0 := ne_ti c3; rw [show (3 : Int32).toInt = 3 from by decide] at z0; have z1 := ne_ti c4; rw [show (4 : Int32).toInt = 4 from by decide] at z1; have z2 := ne_ti c5; rw [show (5 : Int32).toInt = 5 from by decide] at z2; have z3 := ne_ti c6; rw [show (6 : Int32).toInt = 6 from by decide] at z3; omega)) (tg := 78) (by decide)) ?_
            refine And.imp_left (rs_bipush i_X7_count_78 (v := (-2)) (by decide)) ?_
            have hf := Option.some.inj hf
            subst hf
            exact ⟨rs_iret i_X7_count_80 m_X7_count rfl, SH⟩
  · replace hf := (if_neg c2).symm.trans hf
    refine And.imp_left (rs_ifF i_X7_count_6 (cf_eq c2)) ?_
    refine And.imp_left (rs_aload_n i_X7_count_9 rfl) ?_
    refine And.imp_left (rs_getR i_X7_count_10 (by decide) (by decide) (sO7 SH hh) (sR7_0 SH hh)) ?_
    refine And.imp_left (rs_getR i_X7_count_13 (by decide) (by decide) (sO0 SH hh (by decide)) (sR0_2 SH hh (by decide))) ?_
    refine And.imp_left (rs_iload_n i_X7_count_16 rfl) ?_
    obtain ⟨c7, hf⟩ := ite_some hf
    refine And.imp_left (rs_iald i_X7_count_17 (mkI (sA SH hh (k := 9) (n := 3) (by decide)) c7)) ?_
    have hf := Option.some.inj hf
    subst hf
    exact ⟨rs_iret i_X7_count_18 m_X7_count rfl, SH⟩
noncomputable def g_X7_count (v1 : Int32) (h : Hp) : Option (Int32 × Hp) := g_X7_count_0 v1 h
theorem k_X7_count {X : Nat → Int32} {d : Nat} (hd : 1 ≤ d) {L hi : Nat} (hh : 96 ≤ hi) {v1 : Int32} {h : Hp} {o : (Int32 × Hp)}  (SH : SHP L hi h) (hf : g_X7_count v1 h = some o) : Calls X d 69 [.ref 16, .int v1] h (some (.int o.1), o.2) ∧ SHP L hi o.2 := by
  obtain ⟨d, rfl⟩ : ∃ z, d = z + 1 := ⟨d - 1, by omega⟩
  obtain ⟨r, S2⟩ := q_X7_count_0 hd hh SH hf
  exact ⟨⟨_, rfl, r⟩, S2⟩
noncomputable def g_X7_feed_36 (n : Nat) : Nat → Int64 → Int32 → Hp → Option (Int32 × Hp)
  | 0, _, _, _ => none
  | m + 1, v1, v4, h =>
    if v4 < 0 then
      some ((gI h 31 1), h)
    else
      (g_X2_add ((Int64.toInt32 ((Int64.toUInt64 v1 >>> ((Int32.toInt64 (8 * v4)).toUInt64 &&& Int64.toUInt64 63)).toInt64)) &&& 255) h).bind fun o2 =>
      (g_X7_feed_36 n m) v1 (v4 + (-1)) o2
set_option maxRecDepth 100000 in
set_option maxHeartbeats 4000000 in
theorem q_X7_feed_36 {X : Nat → Int32} {d : Nat} (hd : 1 ≤ (d + 1)) {L hi : Nat} (hh : 96 ≤ hi) {n : Nat} : ∀ (m : Nat) (v1 : Int64) (v4 : Int32) (d3 : Int32) (h : Hp) (o : (Int32 × Hp)), SHP L hi h → g_X7_feed_36 n m v1 v4 h = some o → Run X (d + 1) 70 36 [some (.ref 16), some (.long v1), none, some (.int d3), some (.int v4)] [] h (some (.int o.1), o.2) ∧ SHP L hi o.2 := by
  intro m
  induction m with
  | zero => intro v1 v4 d3 h o SH hf; cases hf
  | succ m ih =>
    intro v1 v4 d3 h o SH hf
    rw [g_X7_feed_36] at hf
    refine And.imp_left (rs_iload i_X7_feed_36 rfl) ?_
    by_cases c1 : v4 < 0
    · replace hf := (if_pos c1).symm.trans hf
      refine And.imp_left (rs_ifT i_X7_feed_38 (ct_lt c1) (tg := 66) (by decide)) ?_
      refine And.imp_left (rs_aload_n i_X7_feed_66 rfl) ?_
      refine And.imp_left (rs_getR i_X7_feed_67 (by decide) (by decide) (sO7 SH hh) (sR7_5 SH hh)) ?_
      refine And.imp_left (rs_getI i_X7_feed_70 (by decide) (by decide) (sO2 SH hh)) ?_
      have hf := Option.some.inj hf
      subst hf
      exact ⟨rs_iret i_X7_feed_73 m_X7_feed rfl, SH⟩
    · replace hf := (if_neg c1).symm.trans hf
      refine And.imp_left (rs_ifF i_X7_feed_38 (cf_lt c1)) ?_
      refine And.imp_left (rs_aload_n i_X7_feed_41 rfl) ?_
      refine And.imp_left (rs_getR i_X7_feed_42 (by decide) (by decide) (sO7 SH hh) (sR7_5 SH hh)) ?_
      refine And.imp_left (rs_lload_n i_X7_feed_45 rfl) ?_
      refine And.imp_left (rs_bipush i_X7_feed_46 (v := 8) (by decide)) ?_
      refine And.imp_left (rs_iload i_X7_feed_48 rfl) ?_
      refine And.imp_left (rs_imul i_X7_feed_50) ?_
      refine And.imp_left (rs_lushr i_X7_feed_51) ?_
      refine And.imp_left (rs_l2i i_X7_feed_52) ?_
      refine And.imp_left (rs_sipush i_X7_feed_53 (v := 255) (by decide)) ?_
      refine And.imp_left (rs_iand i_X7_feed_56) ?_
      obtain ⟨o2, e2, hf⟩ := bind_some hf
      obtain ⟨u2, SH2⟩ := k_X2_add (X := X) (d := d) (by omega) (by omega) SH e2
      refine And.imp_left (rs_inV i_X7_feed_57 m_X2_add rfl (As := [.int ((Int64.toInt32 ((Int64.toUInt64 v1 >>> ((Int32.toInt64 (8 * v4)).toUInt64 &&& Int64.toUInt64 63)).toInt64)) &&& 255)]) (rest := []) rfl rfl (Nat.le_of_ble_eq_true rfl) (sO2 SH hh) u2 (st' := []) rfl) ?_
      clear SH; have SH := SH2; clear SH2
      refine And.imp_left (rs_iinc i_X7_feed_60 rfl (v := v4 + (-1)) rfl (Nat.le_of_ble_eq_true rfl) (lv' := [some (.ref 16), some (.long v1), none, some (.int d3), some (.int (v4 + (-1)))]) rfl) ?_
      refine And.imp_left (rs_goto i_X7_feed_63 (tg := 36) (by decide)) ?_
      exact ih _ _ _ _ _ SH hf
noncomputable def g_X7_feed_0 (n : Nat) (v1 : Int64) (v3 : Int32) (h : Hp) : Option (Int32 × Hp) :=
  (g_X7_within v3 1 8 h).bind fun o1 =>
  if o1.1 ≠ 0 then
    if ((gI o1.2 31 1) + v3) ≤ 160 then
      g_X7_feed_36 n n v1 (v3 - 1) o1.2
    else
      some ((-4), o1.2)
  else
    some ((-2), o1.2)
set_option maxRecDepth 100000 in
set_option maxHeartbeats 4000000 in
theorem q_X7_feed_0 {X : Nat → Int32} {d : Nat} (hd : 1 ≤ (d + 1)) {L hi : Nat} (hh : 96 ≤ hi) {n : Nat} {v1 : Int64} {v3 : Int32} {h : Hp} {o : (Int32 × Hp)}  (SH : SHP L hi h) (hf : g_X7_feed_0 n v1 v3 h = some o) : Run X (d + 1) 70 0 [some (.ref 16), some (.long v1), none, some (.int v3), none] [] h (some (.int o.1), o.2) ∧ SHP L hi o.2 := by
  unfold g_X7_feed_0 at hf
  refine And.imp_left (rs_iload_n i_X7_feed_0 rfl) ?_
  refine And.imp_left (rs_iconst i_X7_feed_1 (v := 1) (by decide)) ?_
  refine And.imp_left (rs_bipush i_X7_feed_2 (v := 8) (by decide)) ?_
  obtain ⟨o1, e1, hf⟩ := bind_some hf
  obtain ⟨u1, SH2⟩ := k_X7_within (X := X) (d := d) (by omega) (by omega) SH e1
  refine And.imp_left (rs_inS i_X7_feed_4 (by decide) m_X7_within rfl (As := [.int v3, .int 1, .int 8]) (rest := []) rfl rfl (Nat.le_of_ble_eq_true rfl) u1 (st' := [.int o1.1]) rfl) ?_
  clear SH; have SH := SH2; clear SH2
  by_cases c2 : o1.1 ≠ 0
  · replace hf := (if_pos c2).symm.trans hf
    refine And.imp_left (rs_ifT i_X7_feed_7 (ct_ne c2) (tg := 13) (by decide)) ?_
    refine And.imp_left (rs_aload_n i_X7_feed_13 rfl) ?_
    refine And.imp_left (rs_getR i_X7_feed_14 (by decide) (by decide) (sO7 SH hh) (sR7_5 SH hh)) ?_
    refine And.imp_left (rs_getI i_X7_feed_17 (by decide) (by decide) (sO2 SH hh)) ?_
    refine And.imp_left (rs_iload_n i_X7_feed_20 rfl) ?_
    refine And.imp_left (rs_iadd i_X7_feed_21) ?_
    refine And.imp_left (rs_sipush i_X7_feed_22 (v := 160) (by decide)) ?_
    by_cases c3 : ((gI o1.2 31 1) + v3) ≤ 160
    · replace hf := (if_pos c3).symm.trans hf
      refine And.imp_left (rs_icT i_X7_feed_25 (ct_le c3) (tg := 31) (by decide)) ?_
      refine And.imp_left (rs_iload_n i_X7_feed_31 rfl) ?_
      refine And.imp_left (rs_iconst i_X7_feed_32 (v := 1) (by decide)) ?_
      refine And.imp_left (rs_isub i_X7_feed_33) ?_
      refine And.imp_left (rs_istore i_X7_feed_34 (Nat.le_of_ble_eq_true rfl) (lv' := [some (.ref 16), some (.long v1), none, some (.int v3), some (.int (v3 - 1))]) rfl) ?_
      exact q_X7_feed_36 hd hh _ _ _ _ _ _ SH hf
    · replace hf := (if_neg c3).symm.trans hf
      refine And.imp_left (rs_icF i_X7_feed_25 (cf_le c3)) ?_
      refine And.imp_left (rs_bipush i_X7_feed_28 (v := (-4)) (by decide)) ?_
      have hf := Option.some.inj hf
      subst hf
      exact ⟨rs_iret i_X7_feed_30 m_X7_feed rfl, SH⟩
  · replace hf := (if_neg c2).symm.trans hf
    refine And.imp_left (rs_ifF i_X7_feed_7 (cf_ne c2)) ?_
    refine And.imp_left (rs_bipush i_X7_feed_10 (v := (-2)) (by decide)) ?_
    have hf := Option.some.inj hf
    subst hf
    exact ⟨rs_iret i_X7_feed_12 m_X7_feed rfl, SH⟩
noncomputable def g_X7_feed (n : Nat) (v1 : Int64) (v3 : Int32) (h : Hp) : Option (Int32 × Hp) := g_X7_feed_0 n v1 v3 h
theorem k_X7_feed {X : Nat → Int32} {d : Nat} (hd : 1 ≤ d) {L hi : Nat} (hh : 96 ≤ hi) {n : Nat} {v1 : Int64} {v3 : Int32} {h : Hp} {o : (Int32 × Hp)}  (SH : SHP L hi h) (hf : g_X7_feed n v1 v3 h = some o) : Calls X d 70 [.ref 16, .long v1, .int v3] h (some (.int o.1), o.2) ∧ SHP L hi o.2 := by
  obtain ⟨d, rfl⟩ : ∃ z, d = z + 1 := ⟨d - 1, by omega⟩
  obtain ⟨r, S2⟩ := q_X7_feed_0 hd hh SH hf
  exact ⟨⟨_, rfl, r⟩, S2⟩
noncomputable def g_X7_text_59 (n : Nat)  (h : Hp) : Option (Int32 × Hp) :=
  some (((gI h 16 13) - 1), h)
set_option maxRecDepth 100000 in
set_option maxHeartbeats 4000000 in
theorem q_X7_text_59 {X : Nat → Int32} {d : Nat} (hd : 109 ≤ (d + 1)) {L hi : Nat} (hh : 96 ≤ hi) {n : Nat} {d1 : Int32} {h : Hp} {o : (Int32 × Hp)}  (SH : SHP L hi h) (hf : g_X7_text_59 n h = some o) : Run X (d + 1) 71 59 [some (.ref 16), some (.int d1)] [] h (some (.int o.1), o.2) ∧ SHP L hi o.2 := by
  unfold g_X7_text_59 at hf
  refine And.imp_left (rs_aload_n i_X7_text_59 rfl) ?_
  refine And.imp_left (rs_getI i_X7_text_60 (by decide) (by decide) (sO7 SH hh)) ?_
  refine And.imp_left (rs_iconst i_X7_text_63 (v := 1) (by decide)) ?_
  refine And.imp_left (rs_isub i_X7_text_64) ?_
  have hf := Option.some.inj hf
  subst hf
  exact ⟨rs_iret i_X7_text_65 m_X7_text rfl, SH⟩
noncomputable def g_X7_text_0 (n : Nat)  (h : Hp) : Option (Int32 × Hp) :=
  (g_X7_within (gI h 16 13) 0 5 h).bind fun o1 =>
  if o1.1 ≠ 0 then
    if inb (gI o1.2 16 13) 6 = true then
    (g_X2_read n (48 + 4 * ix (gI o1.2 16 13)) o1.2).bind fun o4 =>
    (g_X2_empty o4.2).bind fun o5 =>
    if o4.1 = (-1) then
      g_X7_text_59 n (hsi o5 16 13 ((gI o5 16 13) + 1))
    else
      some (((-100) - o4.1), o5)
    else none
  else
    some ((-4), o1.2)
set_option maxRecDepth 100000 in
set_option maxHeartbeats 4000000 in
theorem q_X7_text_0 {X : Nat → Int32} {d : Nat} (hd : 109 ≤ (d + 1)) {L hi : Nat} (hh : 96 ≤ hi) {n : Nat}  {h : Hp} {o : (Int32 × Hp)}  (SH : SHP L hi h) (hf : g_X7_text_0 n h = some o) : Run X (d + 1) 71 0 [some (.ref 16), none] [] h (some (.int o.1), o.2) ∧ SHP L hi o.2 := by
  unfold g_X7_text_0 at hf
  refine And.imp_left (rs_aload_n i_X7_text_0 rfl) ?_
  refine And.imp_left (rs_getI i_X7_text_1 (by decide) (by decide) (sO7 SH hh)) ?_
  refine And.imp_left (rs_iconst i_X7_text_4 (v := 0) (by decide)) ?_
  refine And.imp_left (rs_iconst i_X7_text_5 (v := 5) (by decide)) ?_
  obtain ⟨o1, e1, hf⟩ := bind_some hf
  obtain ⟨u1, SH2⟩ := k_X7_within (X := X) (d := d) (by omega) (by omega) SH e1
  refine And.imp_left (rs_inS i_X7_text_6 (by decide) m_X7_within rfl (As := [.int (gI h 16 13), .int 0, .int 5]) (rest := []) rfl rfl (Nat.le_of_ble_eq_true rfl) u1 (st' := [.int o1.1]) rfl) ?_
  clear SH; have SH := SH2; clear SH2
  by_cases c2 : o1.1 ≠ 0
  · replace hf := (if_pos c2).symm.trans hf
    refine And.imp_left (rs_ifT i_X7_text_9 (ct_ne c2) (tg := 15) (by decide)) ?_
    refine And.imp_left (rs_aload_n i_X7_text_15 rfl) ?_
    refine And.imp_left (rs_getR i_X7_text_16 (by decide) (by decide) (sO7 SH hh) (sR7_5 SH hh)) ?_
    refine And.imp_left (rs_aload_n i_X7_text_19 rfl) ?_
    refine And.imp_left (rs_getR i_X7_text_20 (by decide) (by decide) (sO7 SH hh) (sR7_4 SH hh)) ?_
    refine And.imp_left (rs_aload_n i_X7_text_23 rfl) ?_
    refine And.imp_left (rs_getI i_X7_text_24 (by decide) (by decide) (sO7 SH hh)) ?_
    obtain ⟨c3, hf⟩ := ite_some hf
    refine And.imp_left (rs_aald i_X7_text_27 (mkR (sA SH hh (k := 13) (n := 6) (by decide)) (by decide) c3) (sE30 SH hh c3)) ?_
    obtain ⟨o4, e4, hf⟩ := bind_some hf
    obtain ⟨u4, SH2⟩ := k_X2_read (X := X) (d := d) (by omega) (by omega) (oE30 c3) SH e4
    refine And.imp_left (rs_inV i_X7_text_28 m_X2_read rfl (As := [.ref (48 + 4 * ix (gI o1.2 16 13))]) (rest := []) rfl rfl (Nat.le_of_ble_eq_true rfl) (sO2 SH hh) u4 (st' := [.int o4.1]) rfl) ?_
    clear SH; have SH := SH2; clear SH2
    refine And.imp_left (rs_istore_n i_X7_text_31 (Nat.le_of_ble_eq_true rfl) (lv' := [some (.ref 16), some (.int o4.1)]) rfl) ?_
    refine And.imp_left (rs_aload_n i_X7_text_32 rfl) ?_
    refine And.imp_left (rs_getR i_X7_text_33 (by decide) (by decide) (sO7 SH hh) (sR7_5 SH hh)) ?_
    obtain ⟨o5, e5, hf⟩ := bind_some hf
    obtain ⟨u5, SH2⟩ := k_X2_empty (X := X) (d := d) (by omega) (by omega) SH e5
    refine And.imp_left (rs_inV i_X7_text_36 m_X2_empty rfl (As := []) (rest := []) rfl rfl (Nat.le_of_ble_eq_true rfl) (sO2 SH hh) u5 (st' := []) rfl) ?_
    clear SH; have SH := SH2; clear SH2
    refine And.imp_left (rs_iload_n i_X7_text_39 rfl) ?_
    refine And.imp_left (rs_iconst i_X7_text_40 (v := (-1)) (by decide)) ?_
    by_cases c6 : o4.1 = (-1)
    · replace hf := (if_pos c6).symm.trans hf
      refine And.imp_left (rs_icT i_X7_text_41 (ct_eq c6) (tg := 49) (by decide)) ?_
      refine And.imp_left (rs_aload_n i_X7_text_49 rfl) ?_
      refine And.imp_left (rs_dup i_X7_text_50 rfl) ?_
      refine And.imp_left (rs_getI i_X7_text_51 (by decide) (by decide) (sO7 SH hh)) ?_
      refine And.imp_left (rs_iconst i_X7_text_54 (v := 1) (by decide)) ?_
      refine And.imp_left (rs_iadd i_X7_text_55) ?_
      refine And.imp_left (rs_putI i_X7_text_56 (by decide) (sO7 SH hh)) ?_
      have SH := shi SH 16 13 ((gI o5 16 13) + 1)
      exact q_X7_text_59 hd hh SH hf
    · replace hf := (if_neg c6).symm.trans hf
      refine And.imp_left (rs_icF i_X7_text_41 (cf_eq c6)) ?_
      refine And.imp_left (rs_bipush i_X7_text_44 (v := (-100)) (by decide)) ?_
      refine And.imp_left (rs_iload_n i_X7_text_46 rfl) ?_
      refine And.imp_left (rs_isub i_X7_text_47) ?_
      have hf := Option.some.inj hf
      subst hf
      exact ⟨rs_iret i_X7_text_48 m_X7_text rfl, SH⟩
  · replace hf := (if_neg c2).symm.trans hf
    refine And.imp_left (rs_ifF i_X7_text_9 (cf_ne c2)) ?_
    refine And.imp_left (rs_bipush i_X7_text_12 (v := (-4)) (by decide)) ?_
    have hf := Option.some.inj hf
    subst hf
    exact ⟨rs_iret i_X7_text_14 m_X7_text rfl, SH⟩
noncomputable def g_X7_text (n : Nat)  (h : Hp) : Option (Int32 × Hp) := g_X7_text_0 n h
theorem k_X7_text {X : Nat → Int32} {d : Nat} (hd : 109 ≤ d) {L hi : Nat} (hh : 96 ≤ hi) {n : Nat}  {h : Hp} {o : (Int32 × Hp)}  (SH : SHP L hi h) (hf : g_X7_text n h = some o) : Calls X d 71 [.ref 16] h (some (.int o.1), o.2) ∧ SHP L hi o.2 := by
  obtain ⟨d, rfl⟩ : ∃ z, d = z + 1 := ⟨d - 1, by omega⟩
  obtain ⟨r, S2⟩ := q_X7_text_0 hd hh SH hf
  exact ⟨⟨_, rfl, r⟩, S2⟩
noncomputable def g_X7_force_0 (v1 : Int32) (h : Hp) : Option (Int32 × Hp) :=
  (g_X7_within v1 0 ((gI h 16 13) - 1) h).bind fun o1 =>
  if o1.1 ≠ 0 then
    some ((gI o1.2 17 3), (hsi o1.2 17 3 v1))
  else
    some ((-2), o1.2)
set_option maxRecDepth 100000 in
set_option maxHeartbeats 4000000 in
theorem q_X7_force_0 {X : Nat → Int32} {d : Nat} (hd : 1 ≤ (d + 1)) {L hi : Nat} (hh : 96 ≤ hi) {v1 : Int32} {h : Hp} {o : (Int32 × Hp)}  (SH : SHP L hi h) (hf : g_X7_force_0 v1 h = some o) : Run X (d + 1) 72 0 [some (.ref 16), some (.int v1), none] [] h (some (.int o.1), o.2) ∧ SHP L hi o.2 := by
  unfold g_X7_force_0 at hf
  refine And.imp_left (rs_iload_n i_X7_force_0 rfl) ?_
  refine And.imp_left (rs_iconst i_X7_force_1 (v := 0) (by decide)) ?_
  refine And.imp_left (rs_aload_n i_X7_force_2 rfl) ?_
  refine And.imp_left (rs_getI i_X7_force_3 (by decide) (by decide) (sO7 SH hh)) ?_
  refine And.imp_left (rs_iconst i_X7_force_6 (v := 1) (by decide)) ?_
  refine And.imp_left (rs_isub i_X7_force_7) ?_
  obtain ⟨o1, e1, hf⟩ := bind_some hf
  obtain ⟨u1, SH2⟩ := k_X7_within (X := X) (d := d) (by omega) (by omega) SH e1
  refine And.imp_left (rs_inS i_X7_force_8 (by decide) m_X7_within rfl (As := [.int v1, .int 0, .int ((gI h 16 13) - 1)]) (rest := []) rfl rfl (Nat.le_of_ble_eq_true rfl) u1 (st' := [.int o1.1]) rfl) ?_
  clear SH; have SH := SH2; clear SH2
  by_cases c2 : o1.1 ≠ 0
  · replace hf := (if_pos c2).symm.trans hf
    refine And.imp_left (rs_ifT i_X7_force_11 (ct_ne c2) (tg := 17) (by decide)) ?_
    refine And.imp_left (rs_aload_n i_X7_force_17 rfl) ?_
    refine And.imp_left (rs_getR i_X7_force_18 (by decide) (by decide) (sO7 SH hh) (sR7_0 SH hh)) ?_
    refine And.imp_left (rs_getI i_X7_force_21 (by decide) (by decide) (sO0 SH hh (by decide))) ?_
    refine And.imp_left (rs_istore_n i_X7_force_24 (Nat.le_of_ble_eq_true rfl) (lv' := [some (.ref 16), some (.int v1), some (.int (gI o1.2 17 3))]) rfl) ?_
    refine And.imp_left (rs_aload_n i_X7_force_25 rfl) ?_
    refine And.imp_left (rs_getR i_X7_force_26 (by decide) (by decide) (sO7 SH hh) (sR7_0 SH hh)) ?_
    refine And.imp_left (rs_iload_n i_X7_force_29 rfl) ?_
    refine And.imp_left (rs_putI i_X7_force_30 (by decide) (sO0 SH hh (by decide))) ?_
    have SH := shi SH 17 3 v1
    refine And.imp_left (rs_iload_n i_X7_force_33 rfl) ?_
    have hf := Option.some.inj hf
    subst hf
    exact ⟨rs_iret i_X7_force_34 m_X7_force rfl, SH⟩
  · replace hf := (if_neg c2).symm.trans hf
    refine And.imp_left (rs_ifF i_X7_force_11 (cf_ne c2)) ?_
    refine And.imp_left (rs_bipush i_X7_force_14 (v := (-2)) (by decide)) ?_
    have hf := Option.some.inj hf
    subst hf
    exact ⟨rs_iret i_X7_force_16 m_X7_force rfl, SH⟩
noncomputable def g_X7_force (v1 : Int32) (h : Hp) : Option (Int32 × Hp) := g_X7_force_0 v1 h
theorem k_X7_force {X : Nat → Int32} {d : Nat} (hd : 1 ≤ d) {L hi : Nat} (hh : 96 ≤ hi) {v1 : Int32} {h : Hp} {o : (Int32 × Hp)}  (SH : SHP L hi h) (hf : g_X7_force v1 h = some o) : Calls X d 72 [.ref 16, .int v1] h (some (.int o.1), o.2) ∧ SHP L hi o.2 := by
  obtain ⟨d, rfl⟩ : ∃ z, d = z + 1 := ⟨d - 1, by omega⟩
  obtain ⟨r, S2⟩ := q_X7_force_0 hd hh SH hf
  exact ⟨⟨_, rfl, r⟩, S2⟩
noncomputable def g_X7_step_73  (h : Hp) : Option (Int32 × Hp) :=
  some (((gI h 16 12) - 1), h)
set_option maxRecDepth 100000 in
set_option maxHeartbeats 4000000 in
theorem q_X7_step_73 {X : Nat → Int32} {d : Nat} (hd : 1 ≤ (d + 1)) {L hi : Nat} (hh : 96 ≤ hi) {d1 : Int32} {d2 : Int32} {d3 : Int32} {h : Hp} {o : (Int32 × Hp)}  (SH : SHP L hi h) (hf : g_X7_step_73 h = some o) : Run X (d + 1) 73 73 [some (.ref 16), some (.int d1), some (.int d2), some (.int d3)] [] h (some (.int o.1), o.2) ∧ SHP L hi o.2 := by
  unfold g_X7_step_73 at hf
  refine And.imp_left (rs_aload_n i_X7_step_73 rfl) ?_
  refine And.imp_left (rs_getI i_X7_step_74 (by decide) (by decide) (sO7 SH hh)) ?_
  refine And.imp_left (rs_iconst i_X7_step_77 (v := 1) (by decide)) ?_
  refine And.imp_left (rs_isub i_X7_step_78) ?_
  have hf := Option.some.inj hf
  subst hf
  exact ⟨rs_iret i_X7_step_79 m_X7_step rfl, SH⟩
noncomputable def g_X7_step_0 (v1 : Int32) (v2 : Int32) (v3 : Int32) (h : Hp) : Option (Int32 × Hp) :=
  (g_X7_within v1 0 5 h).bind fun o1 =>
  if o1.1 = 0 then
    some ((-2), o1.2)
  else
    (g_X7_within v2 0 9 o1.2).bind fun o3 =>
    if o3.1 = 0 then
      some ((-2), o3.2)
    else
      (g_X7_within v3 1 9 o3.2).bind fun o5 =>
      if o5.1 ≠ 0 then
        (g_X7_within (gI o5.2 16 12) 0 11 o5.2).bind fun o7 =>
        if o7.1 ≠ 0 then
          if inb (gI o7.2 16 12) 12 = true then
          (g_X5_become (36 + ix (gI o7.2 16 12)) v1 v2 v3 o7.2).bind fun o10 =>
          g_X7_step_73 (hsi o10 16 12 ((gI o10 16 12) + 1))
          else none
        else
          some ((-4), o7.2)
      else
        some ((-2), o5.2)
set_option maxRecDepth 100000 in
set_option maxHeartbeats 4000000 in
theorem q_X7_step_0 {X : Nat → Int32} {d : Nat} (hd : 1 ≤ (d + 1)) {L hi : Nat} (hh : 96 ≤ hi) {v1 : Int32} {v2 : Int32} {v3 : Int32} {h : Hp} {o : (Int32 × Hp)}  (SH : SHP L hi h) (hf : g_X7_step_0 v1 v2 v3 h = some o) : Run X (d + 1) 73 0 [some (.ref 16), some (.int v1), some (.int v2), some (.int v3)] [] h (some (.int o.1), o.2) ∧ SHP L hi o.2 := by
  unfold g_X7_step_0 at hf
  refine And.imp_left (rs_iload_n i_X7_step_0 rfl) ?_
  refine And.imp_left (rs_iconst i_X7_step_1 (v := 0) (by decide)) ?_
  refine And.imp_left (rs_iconst i_X7_step_2 (v := 5) (by decide)) ?_
  obtain ⟨o1, e1, hf⟩ := bind_some hf
  obtain ⟨u1, SH2⟩ := k_X7_within (X := X) (d := d) (by omega) (by omega) SH e1
  refine And.imp_left (rs_inS i_X7_step_3 (by decide) m_X7_within rfl (As := [.int v1, .int 0, .int 5]) (rest := []) rfl rfl (Nat.le_of_ble_eq_true rfl) u1 (st' := [.int o1.1]) rfl) ?_
  clear SH; have SH := SH2; clear SH2
  by_cases c2 : o1.1 = 0
  · replace hf := (if_pos c2).symm.trans hf
    refine And.imp_left (rs_ifT i_X7_step_6 (ct_eq c2) (tg := 29) (by decide)) ?_
    refine And.imp_left (rs_bipush i_X7_step_29 (v := (-2)) (by decide)) ?_
    have hf := Option.some.inj hf
    subst hf
    exact ⟨rs_iret i_X7_step_31 m_X7_step rfl, SH⟩
  · replace hf := (if_neg c2).symm.trans hf
    refine And.imp_left (rs_ifF i_X7_step_6 (cf_eq c2)) ?_
    refine And.imp_left (rs_iload_n i_X7_step_9 rfl) ?_
    refine And.imp_left (rs_iconst i_X7_step_10 (v := 0) (by decide)) ?_
    refine And.imp_left (rs_bipush i_X7_step_11 (v := 9) (by decide)) ?_
    obtain ⟨o3, e3, hf⟩ := bind_some hf
    obtain ⟨u3, SH2⟩ := k_X7_within (X := X) (d := d) (by omega) (by omega) SH e3
    refine And.imp_left (rs_inS i_X7_step_13 (by decide) m_X7_within rfl (As := [.int v2, .int 0, .int 9]) (rest := []) rfl rfl (Nat.le_of_ble_eq_true rfl) u3 (st' := [.int o3.1]) rfl) ?_
    clear SH; have SH := SH2; clear SH2
    by_cases c4 : o3.1 = 0
    · replace hf := (if_pos c4).symm.trans hf
      refine And.imp_left (rs_ifT i_X7_step_16 (ct_eq c4) (tg := 29) (by decide)) ?_
      refine And.imp_left (rs_bipush i_X7_step_29 (v := (-2)) (by decide)) ?_
      have hf := Option.some.inj hf
      subst hf
      exact ⟨rs_iret i_X7_step_31 m_X7_step rfl, SH⟩
    · replace hf := (if_neg c4).symm.trans hf
      refine And.imp_left (rs_ifF i_X7_step_16 (cf_eq c4)) ?_
      refine And.imp_left (rs_iload_n i_X7_step_19 rfl) ?_
      refine And.imp_left (rs_iconst i_X7_step_20 (v := 1) (by decide)) ?_
      refine And.imp_left (rs_bipush i_X7_step_21 (v := 9) (by decide)) ?_
      obtain ⟨o5, e5, hf⟩ := bind_some hf
      obtain ⟨u5, SH2⟩ := k_X7_within (X := X) (d := d) (by omega) (by omega) SH e5
      refine And.imp_left (rs_inS i_X7_step_23 (by decide) m_X7_within rfl (As := [.int v3, .int 1, .int 9]) (rest := []) rfl rfl (Nat.le_of_ble_eq_true rfl) u5 (st' := [.int o5.1]) rfl) ?_
      clear SH; have SH := SH2; clear SH2
      by_cases c6 : o5.1 ≠ 0
      · replace hf := (if_pos c6).symm.trans hf
        refine And.imp_left (rs_ifT i_X7_step_26 (ct_ne c6) (tg := 32) (by decide)) ?_
        refine And.imp_left (rs_aload_n i_X7_step_32 rfl) ?_
        refine And.imp_left (rs_getI i_X7_step_33 (by decide) (by decide) (sO7 SH hh)) ?_
        refine And.imp_left (rs_iconst i_X7_step_36 (v := 0) (by decide)) ?_
        refine And.imp_left (rs_bipush i_X7_step_37 (v := 11) (by decide)) ?_
        obtain ⟨o7, e7, hf⟩ := bind_some hf
        obtain ⟨u7, SH2⟩ := k_X7_within (X := X) (d := d) (by omega) (by omega) SH e7
        refine And.imp_left (rs_inS i_X7_step_39 (by decide) m_X7_within rfl (As := [.int (gI o5.2 16 12), .int 0, .int 11]) (rest := []) rfl rfl (Nat.le_of_ble_eq_true rfl) u7 (st' := [.int o7.1]) rfl) ?_
        clear SH; have SH := SH2; clear SH2
        by_cases c8 : o7.1 ≠ 0
        · replace hf := (if_pos c8).symm.trans hf
          refine And.imp_left (rs_ifT i_X7_step_42 (ct_ne c8) (tg := 48) (by decide)) ?_
          refine And.imp_left (rs_aload_n i_X7_step_48 rfl) ?_
          refine And.imp_left (rs_getR i_X7_step_49 (by decide) (by decide) (sO7 SH hh) (sR7_3 SH hh)) ?_
          refine And.imp_left (rs_aload_n i_X7_step_52 rfl) ?_
          refine And.imp_left (rs_getI i_X7_step_53 (by decide) (by decide) (sO7 SH hh)) ?_
          obtain ⟨c9, hf⟩ := ite_some hf
          refine And.imp_left (rs_aald i_X7_step_56 (mkR (sA SH hh (k := 12) (n := 12) (by decide)) (by decide) c9) (sE29 SH hh c9)) ?_
          refine And.imp_left (rs_iload_n i_X7_step_57 rfl) ?_
          refine And.imp_left (rs_iload_n i_X7_step_58 rfl) ?_
          refine And.imp_left (rs_iload_n i_X7_step_59 rfl) ?_
          obtain ⟨o10, e10, hf⟩ := bind_some hf
          obtain ⟨u10, SH2⟩ := k_X5_become (X := X) (d := d) (by omega) (by omega) (oE29 c9) SH e10
          refine And.imp_left (rs_inV i_X7_step_60 m_X5_become rfl (As := [.int v1, .int v2, .int v3]) (rest := []) rfl rfl (Nat.le_of_ble_eq_true rfl) (sO5 SH hh (oE29 c9)) u10 (st' := []) rfl) ?_
          clear SH; have SH := SH2; clear SH2
          refine And.imp_left (rs_aload_n i_X7_step_63 rfl) ?_
          refine And.imp_left (rs_dup i_X7_step_64 rfl) ?_
          refine And.imp_left (rs_getI i_X7_step_65 (by decide) (by decide) (sO7 SH hh)) ?_
          refine And.imp_left (rs_iconst i_X7_step_68 (v := 1) (by decide)) ?_
          refine And.imp_left (rs_iadd i_X7_step_69) ?_
          refine And.imp_left (rs_putI i_X7_step_70 (by decide) (sO7 SH hh)) ?_
          have SH := shi SH 16 12 ((gI o10 16 12) + 1)
          exact q_X7_step_73 hd hh SH hf
        · replace hf := (if_neg c8).symm.trans hf
          refine And.imp_left (rs_ifF i_X7_step_42 (cf_ne c8)) ?_
          refine And.imp_left (rs_bipush i_X7_step_45 (v := (-4)) (by decide)) ?_
          have hf := Option.some.inj hf
          subst hf
          exact ⟨rs_iret i_X7_step_47 m_X7_step rfl, SH⟩
      · replace hf := (if_neg c6).symm.trans hf
        refine And.imp_left (rs_ifF i_X7_step_26 (cf_ne c6)) ?_
        refine And.imp_left (rs_bipush i_X7_step_29 (v := (-2)) (by decide)) ?_
        have hf := Option.some.inj hf
        subst hf
        exact ⟨rs_iret i_X7_step_31 m_X7_step rfl, SH⟩
noncomputable def g_X7_step (v1 : Int32) (v2 : Int32) (v3 : Int32) (h : Hp) : Option (Int32 × Hp) := g_X7_step_0 v1 v2 v3 h
theorem k_X7_step {X : Nat → Int32} {d : Nat} (hd : 1 ≤ d) {L hi : Nat} (hh : 96 ≤ hi) {v1 : Int32} {v2 : Int32} {v3 : Int32} {h : Hp} {o : (Int32 × Hp)}  (SH : SHP L hi h) (hf : g_X7_step v1 v2 v3 h = some o) : Calls X d 73 [.ref 16, .int v1, .int v2, .int v3] h (some (.int o.1), o.2) ∧ SHP L hi o.2 := by
  obtain ⟨d, rfl⟩ : ∃ z, d = z + 1 := ⟨d - 1, by omega⟩
  obtain ⟨r, S2⟩ := q_X7_step_0 hd hh SH hf
  exact ⟨⟨_, rfl, r⟩, S2⟩
noncomputable def g_X7_forget_21  (h : Hp) : Option (Int32 × Hp) :=
  some ((gI h 16 12), h)
set_option maxRecDepth 100000 in
set_option maxHeartbeats 4000000 in
theorem q_X7_forget_21 {X : Nat → Int32} {d : Nat} (hd : 0 ≤ d) {L hi : Nat} (hh : 96 ≤ hi)  {h : Hp} {o : (Int32 × Hp)}  (SH : SHP L hi h) (hf : g_X7_forget_21 h = some o) : Run X d 74 21 [some (.ref 16)] [] h (some (.int o.1), o.2) ∧ SHP L hi o.2 := by
  unfold g_X7_forget_21 at hf
  refine And.imp_left (rs_aload_n i_X7_forget_21 rfl) ?_
  refine And.imp_left (rs_getI i_X7_forget_22 (by decide) (by decide) (sO7 SH hh)) ?_
  have hf := Option.some.inj hf
  subst hf
  exact ⟨rs_iret i_X7_forget_25 m_X7_forget rfl, SH⟩
noncomputable def g_X7_forget_0  (h : Hp) : Option (Int32 × Hp) :=
  if 1 ≤ (gI h 16 12) then
    g_X7_forget_21 (hsi h 16 12 ((gI h 16 12) - 1))
  else
    some ((-3), h)
set_option maxRecDepth 100000 in
set_option maxHeartbeats 4000000 in
theorem q_X7_forget_0 {X : Nat → Int32} {d : Nat} (hd : 0 ≤ d) {L hi : Nat} (hh : 96 ≤ hi)  {h : Hp} {o : (Int32 × Hp)}  (SH : SHP L hi h) (hf : g_X7_forget_0 h = some o) : Run X d 74 0 [some (.ref 16)] [] h (some (.int o.1), o.2) ∧ SHP L hi o.2 := by
  unfold g_X7_forget_0 at hf
  refine And.imp_left (rs_aload_n i_X7_forget_0 rfl) ?_
  refine And.imp_left (rs_getI i_X7_forget_1 (by decide) (by decide) (sO7 SH hh)) ?_
  refine And.imp_left (rs_iconst i_X7_forget_4 (v := 1) (by decide)) ?_
  by_cases c1 : 1 ≤ (gI h 16 12)
  · replace hf := (if_pos c1).symm.trans hf
    refine And.imp_left (rs_icT i_X7_forget_5 (ct_ge c1) (tg := 11) (by decide)) ?_
    refine And.imp_left (rs_aload_n i_X7_forget_11 rfl) ?_
    refine And.imp_left (rs_dup i_X7_forget_12 rfl) ?_
    refine And.imp_left (rs_getI i_X7_forget_13 (by decide) (by decide) (sO7 SH hh)) ?_
    refine And.imp_left (rs_iconst i_X7_forget_16 (v := 1) (by decide)) ?_
    refine And.imp_left (rs_isub i_X7_forget_17) ?_
    refine And.imp_left (rs_putI i_X7_forget_18 (by decide) (sO7 SH hh)) ?_
    have SH := shi SH 16 12 ((gI h 16 12) - 1)
    exact q_X7_forget_21 hd hh SH hf
  · replace hf := (if_neg c1).symm.trans hf
    refine And.imp_left (rs_icF i_X7_forget_5 (cf_ge c1)) ?_
    refine And.imp_left (rs_bipush i_X7_forget_8 (v := (-3)) (by decide)) ?_
    have hf := Option.some.inj hf
    subst hf
    exact ⟨rs_iret i_X7_forget_10 m_X7_forget rfl, SH⟩
noncomputable def g_X7_forget  (h : Hp) : Option (Int32 × Hp) := g_X7_forget_0 h
theorem k_X7_forget {X : Nat → Int32} {d : Nat} (hd : 0 ≤ d) {L hi : Nat} (hh : 96 ≤ hi)  {h : Hp} {o : (Int32 × Hp)}  (SH : SHP L hi h) (hf : g_X7_forget h = some o) : Calls X d 74 [.ref 16] h (some (.int o.1), o.2) ∧ SHP L hi o.2 := by
  obtain ⟨r, S2⟩ := q_X7_forget_0 hd hh SH hf
  exact ⟨⟨_, rfl, r⟩, S2⟩
noncomputable def g_X7_isStep_0 (v1 : Int32) (h : Hp) : Option (Int32 × Hp) :=
  (g_X7_within v1 0 ((gI h 16 12) - 1) h).bind fun o1 =>
  if o1.1 = 0 then
    some (0, o1.2)
  else
    if 12 ≤ v1 then
      some (0, o1.2)
    else
      some (1, o1.2)
set_option maxRecDepth 100000 in
set_option maxHeartbeats 4000000 in
theorem q_X7_isStep_0 {X : Nat → Int32} {d : Nat} (hd : 1 ≤ (d + 1)) {L hi : Nat} (hh : 96 ≤ hi) {v1 : Int32} {h : Hp} {o : (Int32 × Hp)}  (SH : SHP L hi h) (hf : g_X7_isStep_0 v1 h = some o) : Run X (d + 1) 112 0 [some (.ref 16), some (.int v1)] [] h (some (.int o.1), o.2) ∧ SHP L hi o.2 := by
  unfold g_X7_isStep_0 at hf
  refine And.imp_left (rs_iload_n i_X7_isStep_0 rfl) ?_
  refine And.imp_left (rs_iconst i_X7_isStep_1 (v := 0) (by decide)) ?_
  refine And.imp_left (rs_aload_n i_X7_isStep_2 rfl) ?_
  refine And.imp_left (rs_getI i_X7_isStep_3 (by decide) (by decide) (sO7 SH hh)) ?_
  refine And.imp_left (rs_iconst i_X7_isStep_6 (v := 1) (by decide)) ?_
  refine And.imp_left (rs_isub i_X7_isStep_7) ?_
  obtain ⟨o1, e1, hf⟩ := bind_some hf
  obtain ⟨u1, SH2⟩ := k_X7_within (X := X) (d := d) (by omega) (by omega) SH e1
  refine And.imp_left (rs_inS i_X7_isStep_8 (by decide) m_X7_within rfl (As := [.int v1, .int 0, .int ((gI h 16 12) - 1)]) (rest := []) rfl rfl (Nat.le_of_ble_eq_true rfl) u1 (st' := [.int o1.1]) rfl) ?_
  clear SH; have SH := SH2; clear SH2
  by_cases c2 : o1.1 = 0
  · replace hf := (if_pos c2).symm.trans hf
    refine And.imp_left (rs_ifT i_X7_isStep_11 (ct_eq c2) (tg := 24) (by decide)) ?_
    refine And.imp_left (rs_iconst i_X7_isStep_24 (v := 0) (by decide)) ?_
    have hf := Option.some.inj hf
    subst hf
    exact ⟨rs_iret i_X7_isStep_25 m_X7_isStep (by decide), SH⟩
  · replace hf := (if_neg c2).symm.trans hf
    refine And.imp_left (rs_ifF i_X7_isStep_11 (cf_eq c2)) ?_
    refine And.imp_left (rs_iload_n i_X7_isStep_14 rfl) ?_
    refine And.imp_left (rs_bipush i_X7_isStep_15 (v := 12) (by decide)) ?_
    by_cases c3 : 12 ≤ v1
    · replace hf := (if_pos c3).symm.trans hf
      refine And.imp_left (rs_icT i_X7_isStep_17 (ct_ge c3) (tg := 24) (by decide)) ?_
      refine And.imp_left (rs_iconst i_X7_isStep_24 (v := 0) (by decide)) ?_
      have hf := Option.some.inj hf
      subst hf
      exact ⟨rs_iret i_X7_isStep_25 m_X7_isStep (by decide), SH⟩
    · replace hf := (if_neg c3).symm.trans hf
      refine And.imp_left (rs_icF i_X7_isStep_17 (cf_ge c3)) ?_
      refine And.imp_left (rs_iconst i_X7_isStep_20 (v := 1) (by decide)) ?_
      refine And.imp_left (rs_goto i_X7_isStep_21 (tg := 25) (by decide)) ?_
      have hf := Option.some.inj hf
      subst hf
      exact ⟨rs_iret i_X7_isStep_25 m_X7_isStep (by decide), SH⟩
noncomputable def g_X7_isStep (v1 : Int32) (h : Hp) : Option (Int32 × Hp) := g_X7_isStep_0 v1 h
theorem k_X7_isStep {X : Nat → Int32} {d : Nat} (hd : 1 ≤ d) {L hi : Nat} (hh : 96 ≤ hi) {v1 : Int32} {h : Hp} {o : (Int32 × Hp)}  (SH : SHP L hi h) (hf : g_X7_isStep v1 h = some o) : Calls X d 112 [.ref 16, .int v1] h (some (.int o.1), o.2) ∧ SHP L hi o.2 := by
  obtain ⟨d, rfl⟩ : ∃ z, d = z + 1 := ⟨d - 1, by omega⟩
  obtain ⟨r, S2⟩ := q_X7_isStep_0 hd hh SH hf
  exact ⟨⟨_, rfl, r⟩, S2⟩
noncomputable def g_X7_stepTold_0 (v1 : Int32) (v2 : Int32) (h : Hp) : Option (Int32 × Hp) :=
  (g_X7_isStep v1 h).bind fun o1 =>
  if o1.1 ≠ 0 then
    if v2 = 0 then
      if inb v1 12 = true then
      some ((gI o1.2 (36 + ix v1) 0), o1.2)
      else none
    else
      if v2 = 1 then
        if inb v1 12 = true then
        some ((gI o1.2 (36 + ix v1) 1), o1.2)
        else none
      else
        if v2 = 2 then
          if inb v1 12 = true then
          some ((gI o1.2 (36 + ix v1) 2), o1.2)
          else none
        else
          if v2 = 3 then
            if inb v1 12 = true then
            (g_X5_takes (36 + ix v1) o1.2).bind fun o8 =>
            some (o8.1, o8.2)
            else none
          else
            some ((-7), o1.2)
  else
    some ((-5), o1.2)
set_option maxRecDepth 100000 in
set_option maxHeartbeats 4000000 in
theorem q_X7_stepTold_0 {X : Nat → Int32} {d : Nat} (hd : 2 ≤ (d + 1)) {L hi : Nat} (hh : 96 ≤ hi) {v1 : Int32} {v2 : Int32} {h : Hp} {o : (Int32 × Hp)}  (SH : SHP L hi h) (hf : g_X7_stepTold_0 v1 v2 h = some o) : Run X (d + 1) 75 0 [some (.ref 16), some (.int v1), some (.int v2)] [] h (some (.int o.1), o.2) ∧ SHP L hi o.2 := by
  unfold g_X7_stepTold_0 at hf
  refine And.imp_left (rs_aload_n i_X7_stepTold_0 rfl) ?_
  refine And.imp_left (rs_iload_n i_X7_stepTold_1 rfl) ?_
  obtain ⟨o1, e1, hf⟩ := bind_some hf
  obtain ⟨u1, SH2⟩ := k_X7_isStep (X := X) (d := d) (by omega) (by omega) SH e1
  refine And.imp_left (rs_inV i_X7_stepTold_2 m_X7_isStep rfl (As := [.int v1]) (rest := []) rfl rfl (Nat.le_of_ble_eq_true rfl) (sO7 SH hh) u1 (st' := [.int o1.1]) rfl) ?_
  clear SH; have SH := SH2; clear SH2
  by_cases c2 : o1.1 ≠ 0
  · replace hf := (if_pos c2).symm.trans hf
    refine And.imp_left (rs_ifT i_X7_stepTold_5 (ct_ne c2) (tg := 11) (by decide)) ?_
    refine And.imp_left (rs_iload_n i_X7_stepTold_11 rfl) ?_
    by_cases c3 : v2 = 0
    · replace hf := (if_pos c3).symm.trans hf
      refine And.imp_left (rs_tsw i_X7_stepTold_12 (off := 32) (by rw [c3]; decide) (tg := 44) (by decide)) ?_
      refine And.imp_left (rs_aload_n i_X7_stepTold_44 rfl) ?_
      refine And.imp_left (rs_getR i_X7_stepTold_45 (by decide) (by decide) (sO7 SH hh) (sR7_3 SH hh)) ?_
      refine And.imp_left (rs_iload_n i_X7_stepTold_48 rfl) ?_
      obtain ⟨c11, hf⟩ := ite_some hf
      refine And.imp_left (rs_aald i_X7_stepTold_49 (mkR (sA SH hh (k := 12) (n := 12) (by decide)) (by decide) c11) (sE29 SH hh c11)) ?_
      refine And.imp_left (rs_getI i_X7_stepTold_50 (by decide) (by decide) (sO5 SH hh (oE29 c11))) ?_
      have hf := Option.some.inj hf
      subst hf
      exact ⟨rs_iret i_X7_stepTold_53 m_X7_stepTold rfl, SH⟩
    · replace hf := (if_neg c3).symm.trans hf
      by_cases c4 : v2 = 1
      · replace hf := (if_pos c4).symm.trans hf
        refine And.imp_left (rs_tsw i_X7_stepTold_12 (off := 42) (by rw [c4]; decide) (tg := 54) (by decide)) ?_
        refine And.imp_left (rs_aload_n i_X7_stepTold_54 rfl) ?_
        refine And.imp_left (rs_getR i_X7_stepTold_55 (by decide) (by decide) (sO7 SH hh) (sR7_3 SH hh)) ?_
        refine And.imp_left (rs_iload_n i_X7_stepTold_58 rfl) ?_
        obtain ⟨c10, hf⟩ := ite_some hf
        refine And.imp_left (rs_aald i_X7_stepTold_59 (mkR (sA SH hh (k := 12) (n := 12) (by decide)) (by decide) c10) (sE29 SH hh c10)) ?_
        refine And.imp_left (rs_getI i_X7_stepTold_60 (by decide) (by decide) (sO5 SH hh (oE29 c10))) ?_
        have hf := Option.some.inj hf
        subst hf
        exact ⟨rs_iret i_X7_stepTold_63 m_X7_stepTold rfl, SH⟩
      · replace hf := (if_neg c4).symm.trans hf
        by_cases c5 : v2 = 2
        · replace hf := (if_pos c5).symm.trans hf
          refine And.imp_left (rs_tsw i_X7_stepTold_12 (off := 52) (by rw [c5]; decide) (tg := 64) (by decide)) ?_
          refine And.imp_left (rs_aload_n i_X7_stepTold_64 rfl) ?_
          refine And.imp_left (rs_getR i_X7_stepTold_65 (by decide) (by decide) (sO7 SH hh) (sR7_3 SH hh)) ?_
          refine And.imp_left (rs_iload_n i_X7_stepTold_68 rfl) ?_
          obtain ⟨c9, hf⟩ := ite_some hf
          refine And.imp_left (rs_aald i_X7_stepTold_69 (mkR (sA SH hh (k := 12) (n := 12) (by decide)) (by decide) c9) (sE29 SH hh c9)) ?_
          refine And.imp_left (rs_getI i_X7_stepTold_70 (by decide) (by decide) (sO5 SH hh (oE29 c9))) ?_
          have hf := Option.some.inj hf
          subst hf
          exact ⟨rs_iret i_X7_stepTold_73 m_X7_stepTold rfl, SH⟩
        · replace hf := (if_neg c5).symm.trans hf
          by_cases c6 : v2 = 3
          · replace hf := (if_pos c6).symm.trans hf
            refine And.imp_left (rs_tsw i_X7_stepTold_12 (off := 62) (by rw [c6]; decide) (tg := 74) (by decide)) ?_
            refine And.imp_left (rs_aload_n i_X7_stepTold_74 rfl) ?_
            refine And.imp_left (rs_getR i_X7_stepTold_75 (by decide) (by decide) (sO7 SH hh) (sR7_3 SH hh)) ?_
            refine And.imp_left (rs_iload_n i_X7_stepTold_78 rfl) ?_
            obtain ⟨c7, hf⟩ := ite_some hf
            refine And.imp_left (rs_aald i_X7_stepTold_79 (mkR (sA SH hh (k := 12) (n := 12) (by decide)) (by decide) c7) (sE29 SH hh c7)) ?_
            obtain ⟨o8, e8, hf⟩ := bind_some hf
            obtain ⟨u8, SH2⟩ := k_X5_takes (X := X) (d := d) (by omega) (by omega) (oE29 c7) SH e8
            refine And.imp_left (rs_inV i_X7_stepTold_80 m_X5_takes rfl (As := []) (rest := []) rfl rfl (Nat.le_of_ble_eq_true rfl) (sO5 SH hh (oE29 c7)) u8 (st' := [.int o8.1]) rfl) ?_
            clear SH; have SH := SH2; clear SH2
            have hf := Option.some.inj hf
            subst hf
            exact ⟨rs_iret i_X7_stepTold_83 m_X7_stepTold rfl, SH⟩
          · replace hf := (if_neg c6).symm.trans hf
            refine And.imp_left (rs_tsw i_X7_stepTold_12 (off := 72) (swt_df (by have z0 := ne_ti c3; rw [show (0 : Int32).toInt = 0 from by decide] at z0; have z1 := ne_ti c4; rw [show (1 : Int32).toInt = 1 from by decide] at z1; have z2 := ne_ti c5; rw [show (2 : Int32).toInt = 2 from by decide] at z2; have z3 := ne_ti c6; rw [show (3 : Int32).toInt = 3 from by decide] at z3; omega)) (tg := 84) (by decide)) ?_
            refine And.imp_left (rs_bipush i_X7_stepTold_84 (v := (-7)) (by decide)) ?_
            have hf := Option.some.inj hf
            subst hf
            exact ⟨rs_iret i_X7_stepTold_86 m_X7_stepTold rfl, SH⟩
  · replace hf := (if_neg c2).symm.trans hf
    refine And.imp_left (rs_ifF i_X7_stepTold_5 (cf_ne c2)) ?_
    refine And.imp_left (rs_bipush i_X7_stepTold_8 (v := (-5)) (by decide)) ?_
    have hf := Option.some.inj hf
    subst hf
    exact ⟨rs_iret i_X7_stepTold_10 m_X7_stepTold rfl, SH⟩
noncomputable def g_X7_stepTold (v1 : Int32) (v2 : Int32) (h : Hp) : Option (Int32 × Hp) := g_X7_stepTold_0 v1 v2 h
theorem k_X7_stepTold {X : Nat → Int32} {d : Nat} (hd : 2 ≤ d) {L hi : Nat} (hh : 96 ≤ hi) {v1 : Int32} {v2 : Int32} {h : Hp} {o : (Int32 × Hp)}  (SH : SHP L hi h) (hf : g_X7_stepTold v1 v2 h = some o) : Calls X d 75 [.ref 16, .int v1, .int v2] h (some (.int o.1), o.2) ∧ SHP L hi o.2 := by
  obtain ⟨d, rfl⟩ : ∃ z, d = z + 1 := ⟨d - 1, by omega⟩
  obtain ⟨r, S2⟩ := q_X7_stepTold_0 hd hh SH hf
  exact ⟨⟨_, rfl, r⟩, S2⟩
noncomputable def g_X7_areSteps_0 (v1 : Int32) (h : Hp) : Option (Int32 × Hp) :=
  (g_X7_within v1 0 (gI h 16 12) h).bind fun o1 =>
  if o1.1 = 0 then
    some (0, o1.2)
  else
    if 12 < v1 then
      some (0, o1.2)
    else
      some (1, o1.2)
set_option maxRecDepth 100000 in
set_option maxHeartbeats 4000000 in
theorem q_X7_areSteps_0 {X : Nat → Int32} {d : Nat} (hd : 1 ≤ (d + 1)) {L hi : Nat} (hh : 96 ≤ hi) {v1 : Int32} {h : Hp} {o : (Int32 × Hp)}  (SH : SHP L hi h) (hf : g_X7_areSteps_0 v1 h = some o) : Run X (d + 1) 113 0 [some (.ref 16), some (.int v1)] [] h (some (.int o.1), o.2) ∧ SHP L hi o.2 := by
  unfold g_X7_areSteps_0 at hf
  refine And.imp_left (rs_iload_n i_X7_areSteps_0 rfl) ?_
  refine And.imp_left (rs_iconst i_X7_areSteps_1 (v := 0) (by decide)) ?_
  refine And.imp_left (rs_aload_n i_X7_areSteps_2 rfl) ?_
  refine And.imp_left (rs_getI i_X7_areSteps_3 (by decide) (by decide) (sO7 SH hh)) ?_
  obtain ⟨o1, e1, hf⟩ := bind_some hf
  obtain ⟨u1, SH2⟩ := k_X7_within (X := X) (d := d) (by omega) (by omega) SH e1
  refine And.imp_left (rs_inS i_X7_areSteps_6 (by decide) m_X7_within rfl (As := [.int v1, .int 0, .int (gI h 16 12)]) (rest := []) rfl rfl (Nat.le_of_ble_eq_true rfl) u1 (st' := [.int o1.1]) rfl) ?_
  clear SH; have SH := SH2; clear SH2
  by_cases c2 : o1.1 = 0
  · replace hf := (if_pos c2).symm.trans hf
    refine And.imp_left (rs_ifT i_X7_areSteps_9 (ct_eq c2) (tg := 22) (by decide)) ?_
    refine And.imp_left (rs_iconst i_X7_areSteps_22 (v := 0) (by decide)) ?_
    have hf := Option.some.inj hf
    subst hf
    exact ⟨rs_iret i_X7_areSteps_23 m_X7_areSteps (by decide), SH⟩
  · replace hf := (if_neg c2).symm.trans hf
    refine And.imp_left (rs_ifF i_X7_areSteps_9 (cf_eq c2)) ?_
    refine And.imp_left (rs_iload_n i_X7_areSteps_12 rfl) ?_
    refine And.imp_left (rs_bipush i_X7_areSteps_13 (v := 12) (by decide)) ?_
    by_cases c3 : 12 < v1
    · replace hf := (if_pos c3).symm.trans hf
      refine And.imp_left (rs_icT i_X7_areSteps_15 (ct_gt c3) (tg := 22) (by decide)) ?_
      refine And.imp_left (rs_iconst i_X7_areSteps_22 (v := 0) (by decide)) ?_
      have hf := Option.some.inj hf
      subst hf
      exact ⟨rs_iret i_X7_areSteps_23 m_X7_areSteps (by decide), SH⟩
    · replace hf := (if_neg c3).symm.trans hf
      refine And.imp_left (rs_icF i_X7_areSteps_15 (cf_gt c3)) ?_
      refine And.imp_left (rs_iconst i_X7_areSteps_18 (v := 1) (by decide)) ?_
      refine And.imp_left (rs_goto i_X7_areSteps_19 (tg := 23) (by decide)) ?_
      have hf := Option.some.inj hf
      subst hf
      exact ⟨rs_iret i_X7_areSteps_23 m_X7_areSteps (by decide), SH⟩
noncomputable def g_X7_areSteps (v1 : Int32) (h : Hp) : Option (Int32 × Hp) := g_X7_areSteps_0 v1 h
theorem k_X7_areSteps {X : Nat → Int32} {d : Nat} (hd : 1 ≤ d) {L hi : Nat} (hh : 96 ≤ hi) {v1 : Int32} {h : Hp} {o : (Int32 × Hp)}  (SH : SHP L hi h) (hf : g_X7_areSteps v1 h = some o) : Calls X d 113 [.ref 16, .int v1] h (some (.int o.1), o.2) ∧ SHP L hi o.2 := by
  obtain ⟨d, rfl⟩ : ∃ z, d = z + 1 := ⟨d - 1, by omega⟩
  obtain ⟨r, S2⟩ := q_X7_areSteps_0 hd hh SH hf
  exact ⟨⟨_, rfl, r⟩, S2⟩
noncomputable def g_X7_make_107 (n : Nat) (K74 : Int32 → Int32 → Int32 → Hp → Option Hp) (v2 : Int32) (v3 : Int32) (v5 : Int32) (h : Hp) : Option Hp :=
  K74 v2 v3 (v5 + 1) h
set_option maxRecDepth 100000 in
set_option maxHeartbeats 4000000 in
theorem q_X7_make_107 {X : Nat → Int32} {d : Nat} (hd : 6 ≤ (d + 1)) {L hi : Nat} (hh : 96 ≤ hi) {n : Nat} {K74 : Int32 → Int32 → Int32 → Hp → Option Hp} (HK74 : ∀ (v2 : Int32) (v3 : Int32) (v5 : Int32) (d1 : Nat) (d4 : Int32) (h : Hp) (o : Hp), SHP L hi h → K74 v2 v3 v5 h = some o → Run X (d + 1) 118 74 [some (.ref 16), some (.ref d1), some (.int v2), some (.int v3), some (.int d4), some (.int v5)] [] h (none, o) ∧ SHP L hi o) {v2 : Int32} {v3 : Int32} {v5 : Int32} {d1 : Nat} {d4 : Int32} {h : Hp} {o : Hp}  (SH : SHP L hi h) (hf : g_X7_make_107 n K74 v2 v3 v5 h = some o) : Run X (d + 1) 118 107 [some (.ref 16), some (.ref d1), some (.int v2), some (.int v3), some (.int d4), some (.int v5)] [] h (none, o) ∧ SHP L hi o := by
  unfold g_X7_make_107 at hf
  refine And.imp_left (rs_iinc i_X7_make_107 rfl (v := v5 + 1) rfl (Nat.le_of_ble_eq_true rfl) (lv' := [some (.ref 16), some (.ref d1), some (.int v2), some (.int v3), some (.int d4), some (.int (v5 + 1))]) rfl) ?_
  refine And.imp_left (rs_goto i_X7_make_110 (tg := 74) (by decide)) ?_
  exact HK74 _ _ _ _ _ _ _ SH hf
noncomputable def g_X7_make_74 (n : Nat) : Nat → Int32 → Int32 → Int32 → Hp → Option Hp
  | 0, _, _, _, _ => none
  | m + 1, v2, v3, v5, h =>
    if v2 ≤ v5 then
      some h
    else
      if 12 ≤ v5 then
        some h
      else
        if v5 = v3 then
          g_X7_make_107 n (g_X7_make_74 n m) v2 v3 v5 h
        else
          if inb v5 12 = true then
          (g_X3_make n 82 (36 + ix v5) h).bind fun o5 =>
          g_X7_make_107 n (g_X7_make_74 n m) v2 v3 v5 o5
          else none
set_option maxRecDepth 100000 in
set_option maxHeartbeats 4000000 in
theorem q_X7_make_74 {X : Nat → Int32} {d : Nat} (hd : 6 ≤ (d + 1)) {L hi : Nat} (hh : 96 ≤ hi) {n : Nat} : ∀ (m : Nat) (v2 : Int32) (v3 : Int32) (v5 : Int32) (d1 : Nat) (d4 : Int32) (h : Hp) (o : Hp), SHP L hi h → g_X7_make_74 n m v2 v3 v5 h = some o → Run X (d + 1) 118 74 [some (.ref 16), some (.ref d1), some (.int v2), some (.int v3), some (.int d4), some (.int v5)] [] h (none, o) ∧ SHP L hi o := by
  intro m
  induction m with
  | zero => intro v2 v3 v5 d1 d4 h o SH hf; cases hf
  | succ m ih =>
    intro v2 v3 v5 d1 d4 h o SH hf
    rw [g_X7_make_74] at hf
    refine And.imp_left (rs_iload i_X7_make_74 rfl) ?_
    refine And.imp_left (rs_iload_n i_X7_make_76 rfl) ?_
    by_cases c1 : v2 ≤ v5
    · replace hf := (if_pos c1).symm.trans hf
      refine And.imp_left (rs_icT i_X7_make_77 (ct_ge c1) (tg := 113) (by decide)) ?_
      have hf := Option.some.inj hf
      subst hf
      exact ⟨rs_vret i_X7_make_113 m_X7_make rfl, SH⟩
    · replace hf := (if_neg c1).symm.trans hf
      refine And.imp_left (rs_icF i_X7_make_77 (cf_ge c1)) ?_
      refine And.imp_left (rs_iload i_X7_make_80 rfl) ?_
      refine And.imp_left (rs_bipush i_X7_make_82 (v := 12) (by decide)) ?_
      by_cases c2 : 12 ≤ v5
      · replace hf := (if_pos c2).symm.trans hf
        refine And.imp_left (rs_icT i_X7_make_84 (ct_ge c2) (tg := 113) (by decide)) ?_
        have hf := Option.some.inj hf
        subst hf
        exact ⟨rs_vret i_X7_make_113 m_X7_make rfl, SH⟩
      · replace hf := (if_neg c2).symm.trans hf
        refine And.imp_left (rs_icF i_X7_make_84 (cf_ge c2)) ?_
        refine And.imp_left (rs_iload i_X7_make_87 rfl) ?_
        refine And.imp_left (rs_iload_n i_X7_make_89 rfl) ?_
        by_cases c3 : v5 = v3
        · replace hf := (if_pos c3).symm.trans hf
          refine And.imp_left (rs_icT i_X7_make_90 (ct_eq c3) (tg := 107) (by decide)) ?_
          exact q_X7_make_107 hd hh ih SH hf
        · replace hf := (if_neg c3).symm.trans hf
          refine And.imp_left (rs_icF i_X7_make_90 (cf_eq c3)) ?_
          refine And.imp_left (rs_aload_n i_X7_make_93 rfl) ?_
          refine And.imp_left (rs_getR i_X7_make_94 (by decide) (by decide) (sO7 SH hh) (sR7_7 SH hh)) ?_
          refine And.imp_left (rs_aload_n i_X7_make_97 rfl) ?_
          refine And.imp_left (rs_getR i_X7_make_98 (by decide) (by decide) (sO7 SH hh) (sR7_3 SH hh)) ?_
          refine And.imp_left (rs_iload i_X7_make_101 rfl) ?_
          obtain ⟨c4, hf⟩ := ite_some hf
          refine And.imp_left (rs_aald i_X7_make_103 (mkR (sA SH hh (k := 12) (n := 12) (by decide)) (by decide) c4) (sE29 SH hh c4)) ?_
          obtain ⟨o5, e5, hf⟩ := bind_some hf
          obtain ⟨u5, SH2⟩ := k_X3_make (X := X) (d := d) (by omega) (by omega) (by decide) (oE29 c4) SH e5
          refine And.imp_left (rs_inV i_X7_make_104 m_X3_make rfl (As := [.ref (36 + ix v5)]) (rest := []) rfl rfl (Nat.le_of_ble_eq_true rfl) (sO3 SH hh (by decide)) u5 (st' := []) rfl) ?_
          clear SH; have SH := SH2; clear SH2
          exact q_X7_make_107 hd hh ih SH hf
noncomputable def g_X7_make_54 (n : Nat) (v1 : Nat) (v2 : Int32) (v3 : Int32) (v4 : Int32) (h : Hp) : Option Hp :=
  (g_X1_wander v4 h).bind fun o1 =>
  (g_X3_begin n 82 v1 o1).bind fun o2 =>
  g_X7_make_74 n n v2 v3 0 o2
set_option maxRecDepth 100000 in
set_option maxHeartbeats 4000000 in
theorem q_X7_make_54 {X : Nat → Int32} {d : Nat} (hd : 6 ≤ (d + 1)) {L hi : Nat} (hh : 96 ≤ hi) {n : Nat} {v1 : Nat} {v2 : Int32} {v3 : Int32} {v4 : Int32} {h : Hp} {o : Hp} (hv1 : OB0 v1) (SH : SHP L hi h) (hf : g_X7_make_54 n v1 v2 v3 v4 h = some o) : Run X (d + 1) 118 54 [some (.ref 16), some (.ref v1), some (.int v2), some (.int v3), some (.int v4), none] [] h (none, o) ∧ SHP L hi o := by
  unfold g_X7_make_54 at hf
  refine And.imp_left (rs_aload_n i_X7_make_54 rfl) ?_
  refine And.imp_left (rs_getR i_X7_make_55 (by decide) (by decide) (sO7 SH hh) (sR7_6 SH hh)) ?_
  refine And.imp_left (rs_iload i_X7_make_58 rfl) ?_
  obtain ⟨o1, e1, hf⟩ := bind_some hf
  obtain ⟨u1, SH2⟩ := k_X1_wander (X := X) (d := d) (by omega) (by omega) SH e1
  refine And.imp_left (rs_inV i_X7_make_60 m_X1_wander rfl (As := [.int v4]) (rest := []) rfl rfl (Nat.le_of_ble_eq_true rfl) (sO1 SH hh) u1 (st' := []) rfl) ?_
  clear SH; have SH := SH2; clear SH2
  refine And.imp_left (rs_aload_n i_X7_make_63 rfl) ?_
  refine And.imp_left (rs_getR i_X7_make_64 (by decide) (by decide) (sO7 SH hh) (sR7_7 SH hh)) ?_
  refine And.imp_left (rs_aload_n i_X7_make_67 rfl) ?_
  obtain ⟨o2, e2, hf⟩ := bind_some hf
  obtain ⟨u2, SH2⟩ := k_X3_begin (X := X) (d := d) (by omega) (by omega) (by decide) hv1 SH e2
  refine And.imp_left (rs_inV i_X7_make_68 m_X3_begin rfl (As := [.ref v1]) (rest := []) rfl rfl (Nat.le_of_ble_eq_true rfl) (sO3 SH hh (by decide)) u2 (st' := []) rfl) ?_
  clear SH; have SH := SH2; clear SH2
  refine And.imp_left (rs_iconst i_X7_make_71 (v := 0) (by decide)) ?_
  refine And.imp_left (rs_istore i_X7_make_72 (Nat.le_of_ble_eq_true rfl) (lv' := [some (.ref 16), some (.ref v1), some (.int v2), some (.int v3), some (.int v4), some (.int 0)]) rfl) ?_
  exact q_X7_make_74 hd hh _ _ _ _ _ _ _ _ SH hf
noncomputable def g_X7_make_41 (n : Nat) (v1 : Nat) (v2 : Int32) (v3 : Int32) (v4 : Int32) (h : Hp) : Option Hp :=
  g_X7_make_54 n v1 v2 v3 v4 (hsi h 80 3 (gI h (v1 + 3) (ix 2)))
set_option maxRecDepth 100000 in
set_option maxHeartbeats 4000000 in
theorem q_X7_make_41 {X : Nat → Int32} {d : Nat} (hd : 6 ≤ (d + 1)) {L hi : Nat} (hh : 96 ≤ hi) {n : Nat} {v1 : Nat} {v2 : Int32} {v3 : Int32} {v4 : Int32} {h : Hp} {o : Hp} (hv1 : OB0 v1) (SH : SHP L hi h) (hf : g_X7_make_41 n v1 v2 v3 v4 h = some o) : Run X (d + 1) 118 41 [some (.ref 16), some (.ref v1), some (.int v2), some (.int v3), some (.int v4), none] [] h (none, o) ∧ SHP L hi o := by
  unfold g_X7_make_41 at hf
  refine And.imp_left (rs_aload_n i_X7_make_41 rfl) ?_
  refine And.imp_left (rs_getR i_X7_make_42 (by decide) (by decide) (sO7 SH hh) (sR7_6 SH hh)) ?_
  refine And.imp_left (rs_aload_n i_X7_make_45 rfl) ?_
  refine And.imp_left (rs_getR i_X7_make_46 (by decide) (by decide) (sO0 SH hh hv1) (sR0_2 SH hh hv1)) ?_
  refine And.imp_left (rs_iconst i_X7_make_49 (v := 2) (by decide)) ?_
  refine And.imp_left (rs_iald i_X7_make_50 (mkI (sA SH hh (k := 9) (n := 3) (aR0_2 hv1)) (by decide))) ?_
  refine And.imp_left (rs_putI i_X7_make_51 (by decide) (sO1 SH hh)) ?_
  have SH := shi SH 80 3 (gI h (v1 + 3) (ix 2))
  exact q_X7_make_54 hd hh hv1 SH hf
noncomputable def g_X7_make_28 (n : Nat) (v1 : Nat) (v2 : Int32) (v3 : Int32) (v4 : Int32) (h : Hp) : Option Hp :=
  g_X7_make_41 n v1 v2 v3 v4 (hsi h 80 2 (gI h (v1 + 3) (ix 0)))
set_option maxRecDepth 100000 in
set_option maxHeartbeats 4000000 in
theorem q_X7_make_28 {X : Nat → Int32} {d : Nat} (hd : 6 ≤ (d + 1)) {L hi : Nat} (hh : 96 ≤ hi) {n : Nat} {v1 : Nat} {v2 : Int32} {v3 : Int32} {v4 : Int32} {h : Hp} {o : Hp} (hv1 : OB0 v1) (SH : SHP L hi h) (hf : g_X7_make_28 n v1 v2 v3 v4 h = some o) : Run X (d + 1) 118 28 [some (.ref 16), some (.ref v1), some (.int v2), some (.int v3), some (.int v4), none] [] h (none, o) ∧ SHP L hi o := by
  unfold g_X7_make_28 at hf
  refine And.imp_left (rs_aload_n i_X7_make_28 rfl) ?_
  refine And.imp_left (rs_getR i_X7_make_29 (by decide) (by decide) (sO7 SH hh) (sR7_6 SH hh)) ?_
  refine And.imp_left (rs_aload_n i_X7_make_32 rfl) ?_
  refine And.imp_left (rs_getR i_X7_make_33 (by decide) (by decide) (sO0 SH hh hv1) (sR0_2 SH hh hv1)) ?_
  refine And.imp_left (rs_iconst i_X7_make_36 (v := 0) (by decide)) ?_
  refine And.imp_left (rs_iald i_X7_make_37 (mkI (sA SH hh (k := 9) (n := 3) (aR0_2 hv1)) (by decide))) ?_
  refine And.imp_left (rs_putI i_X7_make_38 (by decide) (sO1 SH hh)) ?_
  have SH := shi SH 80 2 (gI h (v1 + 3) (ix 0))
  exact q_X7_make_41 hd hh hv1 SH hf
noncomputable def g_X7_make_0 (n : Nat) (v1 : Nat) (v2 : Int32) (v3 : Int32) (v4 : Int32) (h : Hp) : Option Hp :=
  (g_X7_within (gI h v1 3) 0 5 h).bind fun o1 =>
  if o1.1 = 0 then
    g_X7_make_28 n v1 v2 v3 v4 o1.2
  else
    if inb (gI o1.2 v1 3) 6 = true then
    g_X7_make_28 n v1 v2 v3 v4 (hsr o1.2 80 1 (some (48 + 4 * ix (gI o1.2 v1 3))))
    else none
set_option maxRecDepth 100000 in
set_option maxHeartbeats 4000000 in
theorem q_X7_make_0 {X : Nat → Int32} {d : Nat} (hd : 6 ≤ (d + 1)) {L hi : Nat} (hh : 96 ≤ hi) {n : Nat} {v1 : Nat} {v2 : Int32} {v3 : Int32} {v4 : Int32} {h : Hp} {o : Hp} (hv1 : OB0 v1) (SH : SHP L hi h) (hf : g_X7_make_0 n v1 v2 v3 v4 h = some o) : Run X (d + 1) 118 0 [some (.ref 16), some (.ref v1), some (.int v2), some (.int v3), some (.int v4), none] [] h (none, o) ∧ SHP L hi o := by
  unfold g_X7_make_0 at hf
  refine And.imp_left (rs_aload_n i_X7_make_0 rfl) ?_
  refine And.imp_left (rs_getI i_X7_make_1 (by decide) (by decide) (sO0 SH hh hv1)) ?_
  refine And.imp_left (rs_iconst i_X7_make_4 (v := 0) (by decide)) ?_
  refine And.imp_left (rs_iconst i_X7_make_5 (v := 5) (by decide)) ?_
  obtain ⟨o1, e1, hf⟩ := bind_some hf
  obtain ⟨u1, SH2⟩ := k_X7_within (X := X) (d := d) (by omega) (by omega) SH e1
  refine And.imp_left (rs_inS i_X7_make_6 (by decide) m_X7_within rfl (As := [.int (gI h v1 3), .int 0, .int 5]) (rest := []) rfl rfl (Nat.le_of_ble_eq_true rfl) u1 (st' := [.int o1.1]) rfl) ?_
  clear SH; have SH := SH2; clear SH2
  by_cases c2 : o1.1 = 0
  · replace hf := (if_pos c2).symm.trans hf
    refine And.imp_left (rs_ifT i_X7_make_9 (ct_eq c2) (tg := 28) (by decide)) ?_
    exact q_X7_make_28 hd hh hv1 SH hf
  · replace hf := (if_neg c2).symm.trans hf
    refine And.imp_left (rs_ifF i_X7_make_9 (cf_eq c2)) ?_
    refine And.imp_left (rs_aload_n i_X7_make_12 rfl) ?_
    refine And.imp_left (rs_getR i_X7_make_13 (by decide) (by decide) (sO7 SH hh) (sR7_6 SH hh)) ?_
    refine And.imp_left (rs_aload_n i_X7_make_16 rfl) ?_
    refine And.imp_left (rs_getR i_X7_make_17 (by decide) (by decide) (sO7 SH hh) (sR7_4 SH hh)) ?_
    refine And.imp_left (rs_aload_n i_X7_make_20 rfl) ?_
    refine And.imp_left (rs_getI i_X7_make_21 (by decide) (by decide) (sO0 SH hh hv1)) ?_
    obtain ⟨c3, hf⟩ := ite_some hf
    refine And.imp_left (rs_aald i_X7_make_24 (mkR (sA SH hh (k := 13) (n := 6) (by decide)) (by decide) c3) (sE30 SH hh c3)) ?_
    refine And.imp_left (rs_putR i_X7_make_25 (by decide) (ob6_16 (oE30 c3)) (sO1 SH hh)) ?_
    have SH := sPutLaw SH (oE30 c3)
    exact q_X7_make_28 hd hh hv1 SH hf
noncomputable def g_X7_make (n : Nat) (v1 : Nat) (v2 : Int32) (v3 : Int32) (v4 : Int32) (h : Hp) : Option Hp := g_X7_make_0 n v1 v2 v3 v4 h
theorem k_X7_make {X : Nat → Int32} {d : Nat} (hd : 6 ≤ d) {L hi : Nat} (hh : 96 ≤ hi) {n : Nat} {v1 : Nat} {v2 : Int32} {v3 : Int32} {v4 : Int32} {h : Hp} {o : Hp} (hv1 : OB0 v1) (SH : SHP L hi h) (hf : g_X7_make n v1 v2 v3 v4 h = some o) : Calls X d 118 [.ref 16, .ref v1, .int v2, .int v3, .int v4] h (none, o) ∧ SHP L hi o := by
  obtain ⟨d, rfl⟩ : ∃ z, d = z + 1 := ⟨d - 1, by omega⟩
  obtain ⟨r, S2⟩ := q_X7_make_0 hd hh hv1 SH hf
  exact ⟨⟨_, rfl, r⟩, S2⟩
noncomputable def g_X7_rope_0 (n : Nat) (v1 : Int32) (v2 : Int32) (v3 : Int32) (h : Hp) : Option (Int32 × Hp) :=
  (g_X7_areSteps v1 h).bind fun o1 =>
  if o1.1 ≠ 0 then
    (g_X7_within v2 0 11 o1.2).bind fun o3 =>
    if o3.1 = 0 then
      some ((-7), o3.2)
    else
      (g_X7_within v3 0 2 o3.2).bind fun o5 =>
      if o5.1 ≠ 0 then
        (g_X7_make n 17 v1 (-1) (-1) o5.2).bind fun o7 =>
        if v3 = 0 then
          (g_X3_thick 82 v2 o7).bind fun o12 =>
          some (o12.1, o12.2)
        else
          if v3 = 1 then
            if inb v2 12 = true then
            some ((gI o7 84 (ix v2)), o7)
            else none
          else
            if inb v2 12 = true then
            some ((gI o7 85 (ix v2)), o7)
            else none
      else
        some ((-7), o5.2)
  else
    some ((-5), o1.2)
set_option maxRecDepth 100000 in
set_option maxHeartbeats 4000000 in
theorem q_X7_rope_0 {X : Nat → Int32} {d : Nat} (hd : 7 ≤ (d + 1)) {L hi : Nat} (hh : 96 ≤ hi) {n : Nat} {v1 : Int32} {v2 : Int32} {v3 : Int32} {h : Hp} {o : (Int32 × Hp)}  (SH : SHP L hi h) (hf : g_X7_rope_0 n v1 v2 v3 h = some o) : Run X (d + 1) 76 0 [some (.ref 16), some (.int v1), some (.int v2), some (.int v3)] [] h (some (.int o.1), o.2) ∧ SHP L hi o.2 := by
  unfold g_X7_rope_0 at hf
  refine And.imp_left (rs_aload_n i_X7_rope_0 rfl) ?_
  refine And.imp_left (rs_iload_n i_X7_rope_1 rfl) ?_
  obtain ⟨o1, e1, hf⟩ := bind_some hf
  obtain ⟨u1, SH2⟩ := k_X7_areSteps (X := X) (d := d) (by omega) (by omega) SH e1
  refine And.imp_left (rs_inV i_X7_rope_2 m_X7_areSteps rfl (As := [.int v1]) (rest := []) rfl rfl (Nat.le_of_ble_eq_true rfl) (sO7 SH hh) u1 (st' := [.int o1.1]) rfl) ?_
  clear SH; have SH := SH2; clear SH2
  by_cases c2 : o1.1 ≠ 0
  · replace hf := (if_pos c2).symm.trans hf
    refine And.imp_left (rs_ifT i_X7_rope_5 (ct_ne c2) (tg := 11) (by decide)) ?_
    refine And.imp_left (rs_iload_n i_X7_rope_11 rfl) ?_
    refine And.imp_left (rs_iconst i_X7_rope_12 (v := 0) (by decide)) ?_
    refine And.imp_left (rs_bipush i_X7_rope_13 (v := 11) (by decide)) ?_
    obtain ⟨o3, e3, hf⟩ := bind_some hf
    obtain ⟨u3, SH2⟩ := k_X7_within (X := X) (d := d) (by omega) (by omega) SH e3
    refine And.imp_left (rs_inS i_X7_rope_15 (by decide) m_X7_within rfl (As := [.int v2, .int 0, .int 11]) (rest := []) rfl rfl (Nat.le_of_ble_eq_true rfl) u3 (st' := [.int o3.1]) rfl) ?_
    clear SH; have SH := SH2; clear SH2
    by_cases c4 : o3.1 = 0
    · replace hf := (if_pos c4).symm.trans hf
      refine And.imp_left (rs_ifT i_X7_rope_18 (ct_eq c4) (tg := 30) (by decide)) ?_
      refine And.imp_left (rs_bipush i_X7_rope_30 (v := (-7)) (by decide)) ?_
      have hf := Option.some.inj hf
      subst hf
      exact ⟨rs_iret i_X7_rope_32 m_X7_rope rfl, SH⟩
    · replace hf := (if_neg c4).symm.trans hf
      refine And.imp_left (rs_ifF i_X7_rope_18 (cf_eq c4)) ?_
      refine And.imp_left (rs_iload_n i_X7_rope_21 rfl) ?_
      refine And.imp_left (rs_iconst i_X7_rope_22 (v := 0) (by decide)) ?_
      refine And.imp_left (rs_iconst i_X7_rope_23 (v := 2) (by decide)) ?_
      obtain ⟨o5, e5, hf⟩ := bind_some hf
      obtain ⟨u5, SH2⟩ := k_X7_within (X := X) (d := d) (by omega) (by omega) SH e5
      refine And.imp_left (rs_inS i_X7_rope_24 (by decide) m_X7_within rfl (As := [.int v3, .int 0, .int 2]) (rest := []) rfl rfl (Nat.le_of_ble_eq_true rfl) u5 (st' := [.int o5.1]) rfl) ?_
      clear SH; have SH := SH2; clear SH2
      by_cases c6 : o5.1 ≠ 0
      · replace hf := (if_pos c6).symm.trans hf
        refine And.imp_left (rs_ifT i_X7_rope_27 (ct_ne c6) (tg := 33) (by decide)) ?_
        refine And.imp_left (rs_aload_n i_X7_rope_33 rfl) ?_
        refine And.imp_left (rs_aload_n i_X7_rope_34 rfl) ?_
        refine And.imp_left (rs_getR i_X7_rope_35 (by decide) (by decide) (sO7 SH hh) (sR7_0 SH hh)) ?_
        refine And.imp_left (rs_iload_n i_X7_rope_38 rfl) ?_
        refine And.imp_left (rs_iconst i_X7_rope_39 (v := (-1)) (by decide)) ?_
        refine And.imp_left (rs_iconst i_X7_rope_40 (v := (-1)) (by decide)) ?_
        obtain ⟨o7, e7, hf⟩ := bind_some hf
        obtain ⟨u7, SH2⟩ := k_X7_make (X := X) (d := d) (by omega) (by omega) (by decide) SH e7
        refine And.imp_left (rs_inV i_X7_rope_41 m_X7_make rfl (As := [.ref 17, .int v1, .int (-1), .int (-1)]) (rest := []) rfl rfl (Nat.le_of_ble_eq_true rfl) (sO7 SH hh) u7 (st' := []) rfl) ?_
        clear SH; have SH := SH2; clear SH2
        refine And.imp_left (rs_iload_n i_X7_rope_44 rfl) ?_
        by_cases c8 : v3 = 0
        · replace hf := (if_pos c8).symm.trans hf
          refine And.imp_left (rs_lsw i_X7_rope_45 (off := 27) (by rw [c8]; decide) (tg := 72) (by decide)) ?_
          refine And.imp_left (rs_aload_n i_X7_rope_72 rfl) ?_
          refine And.imp_left (rs_getR i_X7_rope_73 (by decide) (by decide) (sO7 SH hh) (sR7_7 SH hh)) ?_
          refine And.imp_left (rs_iload_n i_X7_rope_76 rfl) ?_
          obtain ⟨o12, e12, hf⟩ := bind_some hf
          obtain ⟨u12, SH2⟩ := k_X3_thick (X := X) (d := d) (by omega) (by omega) (by decide) SH e12
          refine And.imp_left (rs_inV i_X7_rope_77 m_X3_thick rfl (As := [.int v2]) (rest := []) rfl rfl (Nat.le_of_ble_eq_true rfl) (sO3 SH hh (by decide)) u12 (st' := [.int o12.1]) rfl) ?_
          clear SH; have SH := SH2; clear SH2
          have hf := Option.some.inj hf
          subst hf
          exact ⟨rs_iret i_X7_rope_80 m_X7_rope rfl, SH⟩
        · replace hf := (if_neg c8).symm.trans hf
          by_cases c9 : v3 = 1
          · replace hf := (if_pos c9).symm.trans hf
            refine And.imp_left (rs_lsw i_X7_rope_45 (off := 36) (by rw [c9]; decide) (tg := 81) (by decide)) ?_
            refine And.imp_left (rs_aload_n i_X7_rope_81 rfl) ?_
            refine And.imp_left (rs_getR i_X7_rope_82 (by decide) (by decide) (sO7 SH hh) (sR7_7 SH hh)) ?_
            refine And.imp_left (rs_getR i_X7_rope_85 (by decide) (by decide) (sO3 SH hh (by decide)) (sR3_1 SH hh (by decide))) ?_
            refine And.imp_left (rs_iload_n i_X7_rope_88 rfl) ?_
            obtain ⟨c11, hf⟩ := ite_some hf
            refine And.imp_left (rs_iald i_X7_rope_89 (mkI (sA SH hh (k := 9) (n := 12) (by decide)) c11)) ?_
            have hf := Option.some.inj hf
            subst hf
            exact ⟨rs_iret i_X7_rope_90 m_X7_rope rfl, SH⟩
          · replace hf := (if_neg c9).symm.trans hf
            refine And.imp_left (rs_lsw i_X7_rope_45 (off := 46) (by have z0 := ne_ti c8; rw [show (0 : Int32).toInt = 0 from by decide] at z0; have z1 := ne_ti c9; rw [show (1 : Int32).toInt = 1 from by decide] at z1; simp [Op.lookupswitch.offset, Ne.symm z0, z0, Ne.symm z1, z1]) (tg := 91) (by decide)) ?_
            refine And.imp_left (rs_aload_n i_X7_rope_91 rfl) ?_
            refine And.imp_left (rs_getR i_X7_rope_92 (by decide) (by decide) (sO7 SH hh) (sR7_7 SH hh)) ?_
            refine And.imp_left (rs_getR i_X7_rope_95 (by decide) (by decide) (sO3 SH hh (by decide)) (sR3_2 SH hh (by decide))) ?_
            refine And.imp_left (rs_iload_n i_X7_rope_98 rfl) ?_
            obtain ⟨c10, hf⟩ := ite_some hf
            refine And.imp_left (rs_iald i_X7_rope_99 (mkI (sA SH hh (k := 9) (n := 12) (by decide)) c10)) ?_
            have hf := Option.some.inj hf
            subst hf
            exact ⟨rs_iret i_X7_rope_100 m_X7_rope rfl, SH⟩
      · replace hf := (if_neg c6).symm.trans hf
        refine And.imp_left (rs_ifF i_X7_rope_27 (cf_ne c6)) ?_
        refine And.imp_left (rs_bipush i_X7_rope_30 (v := (-7)) (by decide)) ?_
        have hf := Option.some.inj hf
        subst hf
        exact ⟨rs_iret i_X7_rope_32 m_X7_rope rfl, SH⟩
  · replace hf := (if_neg c2).symm.trans hf
    refine And.imp_left (rs_ifF i_X7_rope_5 (cf_ne c2)) ?_
    refine And.imp_left (rs_bipush i_X7_rope_8 (v := (-5)) (by decide)) ?_
    have hf := Option.some.inj hf
    subst hf
    exact ⟨rs_iret i_X7_rope_10 m_X7_rope rfl, SH⟩
noncomputable def g_X7_rope (n : Nat) (v1 : Int32) (v2 : Int32) (v3 : Int32) (h : Hp) : Option (Int32 × Hp) := g_X7_rope_0 n v1 v2 v3 h
theorem k_X7_rope {X : Nat → Int32} {d : Nat} (hd : 7 ≤ d) {L hi : Nat} (hh : 96 ≤ hi) {n : Nat} {v1 : Int32} {v2 : Int32} {v3 : Int32} {h : Hp} {o : (Int32 × Hp)}  (SH : SHP L hi h) (hf : g_X7_rope n v1 v2 v3 h = some o) : Calls X d 76 [.ref 16, .int v1, .int v2, .int v3] h (some (.int o.1), o.2) ∧ SHP L hi o.2 := by
  obtain ⟨d, rfl⟩ : ∃ z, d = z + 1 := ⟨d - 1, by omega⟩
  obtain ⟨r, S2⟩ := q_X7_rope_0 hd hh SH hf
  exact ⟨⟨_, rfl, r⟩, S2⟩
noncomputable def g_X7_allTake_4 (n : Nat) : Nat → Int32 → Int32 → Int32 → Hp → Option (Int32 × Hp)
  | 0, _, _, _, _ => none
  | m + 1, v1, v2, v3, h =>
    if v1 ≤ v3 then
      some (v2, h)
    else
      if 12 ≤ v3 then
        some (v2, h)
      else
        if inb v3 12 = true then
        (g_X5_takes (36 + ix v3) h).bind fun o4 =>
        (g_X7_allTake_4 n m) v1 (v2 + o4.1) (v3 + 1) o4.2
        else none
set_option maxRecDepth 100000 in
set_option maxHeartbeats 4000000 in
theorem q_X7_allTake_4 {X : Nat → Int32} {d : Nat} (hd : 1 ≤ (d + 1)) {L hi : Nat} (hh : 96 ≤ hi) {n : Nat} : ∀ (m : Nat) (v1 : Int32) (v2 : Int32) (v3 : Int32) (h : Hp) (o : (Int32 × Hp)), SHP L hi h → g_X7_allTake_4 n m v1 v2 v3 h = some o → Run X (d + 1) 120 4 [some (.ref 16), some (.int v1), some (.int v2), some (.int v3)] [] h (some (.int o.1), o.2) ∧ SHP L hi o.2 := by
  intro m
  induction m with
  | zero => intro v1 v2 v3 h o SH hf; cases hf
  | succ m ih =>
    intro v1 v2 v3 h o SH hf
    rw [g_X7_allTake_4] at hf
    refine And.imp_left (rs_iload_n i_X7_allTake_4 rfl) ?_
    refine And.imp_left (rs_iload_n i_X7_allTake_5 rfl) ?_
    by_cases c1 : v1 ≤ v3
    · replace hf := (if_pos c1).symm.trans hf
      refine And.imp_left (rs_icT i_X7_allTake_6 (ct_ge c1) (tg := 33) (by decide)) ?_
      refine And.imp_left (rs_iload_n i_X7_allTake_33 rfl) ?_
      have hf := Option.some.inj hf
      subst hf
      exact ⟨rs_iret i_X7_allTake_34 m_X7_allTake rfl, SH⟩
    · replace hf := (if_neg c1).symm.trans hf
      refine And.imp_left (rs_icF i_X7_allTake_6 (cf_ge c1)) ?_
      refine And.imp_left (rs_iload_n i_X7_allTake_9 rfl) ?_
      refine And.imp_left (rs_bipush i_X7_allTake_10 (v := 12) (by decide)) ?_
      by_cases c2 : 12 ≤ v3
      · replace hf := (if_pos c2).symm.trans hf
        refine And.imp_left (rs_icT i_X7_allTake_12 (ct_ge c2) (tg := 33) (by decide)) ?_
        refine And.imp_left (rs_iload_n i_X7_allTake_33 rfl) ?_
        have hf := Option.some.inj hf
        subst hf
        exact ⟨rs_iret i_X7_allTake_34 m_X7_allTake rfl, SH⟩
      · replace hf := (if_neg c2).symm.trans hf
        refine And.imp_left (rs_icF i_X7_allTake_12 (cf_ge c2)) ?_
        refine And.imp_left (rs_iload_n i_X7_allTake_15 rfl) ?_
        refine And.imp_left (rs_aload_n i_X7_allTake_16 rfl) ?_
        refine And.imp_left (rs_getR i_X7_allTake_17 (by decide) (by decide) (sO7 SH hh) (sR7_3 SH hh)) ?_
        refine And.imp_left (rs_iload_n i_X7_allTake_20 rfl) ?_
        obtain ⟨c3, hf⟩ := ite_some hf
        refine And.imp_left (rs_aald i_X7_allTake_21 (mkR (sA SH hh (k := 12) (n := 12) (by decide)) (by decide) c3) (sE29 SH hh c3)) ?_
        obtain ⟨o4, e4, hf⟩ := bind_some hf
        obtain ⟨u4, SH2⟩ := k_X5_takes (X := X) (d := d) (by omega) (by omega) (oE29 c3) SH e4
        refine And.imp_left (rs_inV i_X7_allTake_22 m_X5_takes rfl (As := []) (rest := [.int v2]) rfl rfl (Nat.le_of_ble_eq_true rfl) (sO5 SH hh (oE29 c3)) u4 (st' := [.int o4.1, .int v2]) rfl) ?_
        clear SH; have SH := SH2; clear SH2
        refine And.imp_left (rs_iadd i_X7_allTake_25) ?_
        refine And.imp_left (rs_istore_n i_X7_allTake_26 (Nat.le_of_ble_eq_true rfl) (lv' := [some (.ref 16), some (.int v1), some (.int (v2 + o4.1)), some (.int v3)]) rfl) ?_
        refine And.imp_left (rs_iinc i_X7_allTake_27 rfl (v := v3 + 1) rfl (Nat.le_of_ble_eq_true rfl) (lv' := [some (.ref 16), some (.int v1), some (.int (v2 + o4.1)), some (.int (v3 + 1))]) rfl) ?_
        refine And.imp_left (rs_goto i_X7_allTake_30 (tg := 4) (by decide)) ?_
        exact ih _ _ _ _ _ SH hf
noncomputable def g_X7_allTake_0 (n : Nat) (v1 : Int32) (h : Hp) : Option (Int32 × Hp) :=
  g_X7_allTake_4 n n v1 0 0 h
set_option maxRecDepth 100000 in
set_option maxHeartbeats 4000000 in
theorem q_X7_allTake_0 {X : Nat → Int32} {d : Nat} (hd : 1 ≤ (d + 1)) {L hi : Nat} (hh : 96 ≤ hi) {n : Nat} {v1 : Int32} {h : Hp} {o : (Int32 × Hp)}  (SH : SHP L hi h) (hf : g_X7_allTake_0 n v1 h = some o) : Run X (d + 1) 120 0 [some (.ref 16), some (.int v1), none, none] [] h (some (.int o.1), o.2) ∧ SHP L hi o.2 := by
  unfold g_X7_allTake_0 at hf
  refine And.imp_left (rs_iconst i_X7_allTake_0 (v := 0) (by decide)) ?_
  refine And.imp_left (rs_istore_n i_X7_allTake_1 (Nat.le_of_ble_eq_true rfl) (lv' := [some (.ref 16), some (.int v1), some (.int 0), none]) rfl) ?_
  refine And.imp_left (rs_iconst i_X7_allTake_2 (v := 0) (by decide)) ?_
  refine And.imp_left (rs_istore_n i_X7_allTake_3 (Nat.le_of_ble_eq_true rfl) (lv' := [some (.ref 16), some (.int v1), some (.int 0), some (.int 0)]) rfl) ?_
  exact q_X7_allTake_4 hd hh _ _ _ _ _ _ SH hf
noncomputable def g_X7_allTake (n : Nat) (v1 : Int32) (h : Hp) : Option (Int32 × Hp) := g_X7_allTake_0 n v1 h
theorem k_X7_allTake {X : Nat → Int32} {d : Nat} (hd : 1 ≤ d) {L hi : Nat} (hh : 96 ≤ hi) {n : Nat} {v1 : Int32} {h : Hp} {o : (Int32 × Hp)}  (SH : SHP L hi h) (hf : g_X7_allTake n v1 h = some o) : Calls X d 120 [.ref 16, .int v1] h (some (.int o.1), o.2) ∧ SHP L hi o.2 := by
  obtain ⟨d, rfl⟩ : ∃ z, d = z + 1 := ⟨d - 1, by omega⟩
  obtain ⟨r, S2⟩ := q_X7_allTake_0 hd hh SH hf
  exact ⟨⟨_, rfl, r⟩, S2⟩
noncomputable def g_X7_state_0 (n : Nat) (v1 : Int32) (v2 : Int32) (h : Hp) : Option (Int64 × Hp) :=
  (g_X7_areSteps v1 h).bind fun o1 =>
  if o1.1 ≠ 0 then
    (g_X7_within v2 0 7 o1.2).bind fun o3 =>
    if o3.1 ≠ 0 then
      (g_X7_make n 17 v1 (-1) (-1) o3.2).bind fun o5 =>
      if v2 = 0 then
        (g_X3_thinnest n 82 o5).bind fun o17 =>
        some ((Int32.toInt64 o17.1), o17.2)
      else
        if v2 = 1 then
          (g_X3_thickest n 82 o5).bind fun o16 =>
          some ((Int32.toInt64 o16.1), o16.2)
        else
          if v2 = 2 then
            (g_X3_spread n 82 o5).bind fun o15 =>
            some ((Int32.toInt64 o15.1), o15.2)
          else
            if v2 = 3 then
              some ((Int32.toInt64 (gI o5 82 7)), o5)
            else
              if v2 = 4 then
                (g_X3_allLength n 82 o5).bind fun o14 =>
                some ((o14.1 <<< (Int32.toInt64 (gI o14.2 82 7) &&& 63)), o14.2)
              else
                if v2 = 5 then
                  some ((Int32.toInt64 (gI o5 82 8)), o5)
                else
                  if v2 = 6 then
                    some ((Int32.toInt64 (gI o5 82 9)), o5)
                  else
                    (g_X7_allTake n v1 o5).bind fun o13 =>
                    some ((Int32.toInt64 o13.1), o13.2)
    else
      some ((-7), o3.2)
  else
    some ((-5), o1.2)
set_option maxRecDepth 100000 in
set_option maxHeartbeats 4000000 in
theorem q_X7_state_0 {X : Nat → Int32} {d : Nat} (hd : 7 ≤ (d + 1)) {L hi : Nat} (hh : 96 ≤ hi) {n : Nat} {v1 : Int32} {v2 : Int32} {h : Hp} {o : (Int64 × Hp)}  (SH : SHP L hi h) (hf : g_X7_state_0 n v1 v2 h = some o) : Run X (d + 1) 77 0 [some (.ref 16), some (.int v1), some (.int v2)] [] h (some (.long o.1), o.2) ∧ SHP L hi o.2 := by
  unfold g_X7_state_0 at hf
  refine And.imp_left (rs_aload_n i_X7_state_0 rfl) ?_
  refine And.imp_left (rs_iload_n i_X7_state_1 rfl) ?_
  obtain ⟨o1, e1, hf⟩ := bind_some hf
  obtain ⟨u1, SH2⟩ := k_X7_areSteps (X := X) (d := d) (by omega) (by omega) SH e1
  refine And.imp_left (rs_inV i_X7_state_2 m_X7_areSteps rfl (As := [.int v1]) (rest := []) rfl rfl (Nat.le_of_ble_eq_true rfl) (sO7 SH hh) u1 (st' := [.int o1.1]) rfl) ?_
  clear SH; have SH := SH2; clear SH2
  by_cases c2 : o1.1 ≠ 0
  · replace hf := (if_pos c2).symm.trans hf
    refine And.imp_left (rs_ifT i_X7_state_5 (ct_ne c2) (tg := 12) (by decide)) ?_
    refine And.imp_left (rs_iload_n i_X7_state_12 rfl) ?_
    refine And.imp_left (rs_iconst i_X7_state_13 (v := 0) (by decide)) ?_
    refine And.imp_left (rs_bipush i_X7_state_14 (v := 7) (by decide)) ?_
    obtain ⟨o3, e3, hf⟩ := bind_some hf
    obtain ⟨u3, SH2⟩ := k_X7_within (X := X) (d := d) (by omega) (by omega) SH e3
    refine And.imp_left (rs_inS i_X7_state_16 (by decide) m_X7_within rfl (As := [.int v2, .int 0, .int 7]) (rest := []) rfl rfl (Nat.le_of_ble_eq_true rfl) u3 (st' := [.int o3.1]) rfl) ?_
    clear SH; have SH := SH2; clear SH2
    by_cases c4 : o3.1 ≠ 0
    · replace hf := (if_pos c4).symm.trans hf
      refine And.imp_left (rs_ifT i_X7_state_19 (ct_ne c4) (tg := 26) (by decide)) ?_
      refine And.imp_left (rs_aload_n i_X7_state_26 rfl) ?_
      refine And.imp_left (rs_aload_n i_X7_state_27 rfl) ?_
      refine And.imp_left (rs_getR i_X7_state_28 (by decide) (by decide) (sO7 SH hh) (sR7_0 SH hh)) ?_
      refine And.imp_left (rs_iload_n i_X7_state_31 rfl) ?_
      refine And.imp_left (rs_iconst i_X7_state_32 (v := (-1)) (by decide)) ?_
      refine And.imp_left (rs_iconst i_X7_state_33 (v := (-1)) (by decide)) ?_
      obtain ⟨o5, e5, hf⟩ := bind_some hf
      obtain ⟨u5, SH2⟩ := k_X7_make (X := X) (d := d) (by omega) (by omega) (by decide) SH e5
      refine And.imp_left (rs_inV i_X7_state_34 m_X7_make rfl (As := [.ref 17, .int v1, .int (-1), .int (-1)]) (rest := []) rfl rfl (Nat.le_of_ble_eq_true rfl) (sO7 SH hh) u5 (st' := []) rfl) ?_
      clear SH; have SH := SH2; clear SH2
      refine And.imp_left (rs_iload_n i_X7_state_37 rfl) ?_
      by_cases c6 : v2 = 0
      · replace hf := (if_pos c6).symm.trans hf
        refine And.imp_left (rs_tsw i_X7_state_38 (off := 42) (by rw [c6]; decide) (tg := 80) (by decide)) ?_
        refine And.imp_left (rs_aload_n i_X7_state_80 rfl) ?_
        refine And.imp_left (rs_getR i_X7_state_81 (by decide) (by decide) (sO7 SH hh) (sR7_7 SH hh)) ?_
        obtain ⟨o17, e17, hf⟩ := bind_some hf
        obtain ⟨u17, SH2⟩ := k_X3_thinnest (X := X) (d := d) (by omega) (by omega) (by decide) SH e17
        refine And.imp_left (rs_inV i_X7_state_84 m_X3_thinnest rfl (As := []) (rest := []) rfl rfl (Nat.le_of_ble_eq_true rfl) (sO3 SH hh (by decide)) u17 (st' := [.int o17.1]) rfl) ?_
        clear SH; have SH := SH2; clear SH2
        refine And.imp_left (rs_i2l i_X7_state_87) ?_
        have hf := Option.some.inj hf
        subst hf
        exact ⟨rs_lret i_X7_state_88 m_X7_state rfl, SH⟩
      · replace hf := (if_neg c6).symm.trans hf
        by_cases c7 : v2 = 1
        · replace hf := (if_pos c7).symm.trans hf
          refine And.imp_left (rs_tsw i_X7_state_38 (off := 51) (by rw [c7]; decide) (tg := 89) (by decide)) ?_
          refine And.imp_left (rs_aload_n i_X7_state_89 rfl) ?_
          refine And.imp_left (rs_getR i_X7_state_90 (by decide) (by decide) (sO7 SH hh) (sR7_7 SH hh)) ?_
          obtain ⟨o16, e16, hf⟩ := bind_some hf
          obtain ⟨u16, SH2⟩ := k_X3_thickest (X := X) (d := d) (by omega) (by omega) (by decide) SH e16
          refine And.imp_left (rs_inV i_X7_state_93 m_X3_thickest rfl (As := []) (rest := []) rfl rfl (Nat.le_of_ble_eq_true rfl) (sO3 SH hh (by decide)) u16 (st' := [.int o16.1]) rfl) ?_
          clear SH; have SH := SH2; clear SH2
          refine And.imp_left (rs_i2l i_X7_state_96) ?_
          have hf := Option.some.inj hf
          subst hf
          exact ⟨rs_lret i_X7_state_97 m_X7_state rfl, SH⟩
        · replace hf := (if_neg c7).symm.trans hf
          by_cases c8 : v2 = 2
          · replace hf := (if_pos c8).symm.trans hf
            refine And.imp_left (rs_tsw i_X7_state_38 (off := 60) (by rw [c8]; decide) (tg := 98) (by decide)) ?_
            refine And.imp_left (rs_aload_n i_X7_state_98 rfl) ?_
            refine And.imp_left (rs_getR i_X7_state_99 (by decide) (by decide) (sO7 SH hh) (sR7_7 SH hh)) ?_
            obtain ⟨o15, e15, hf⟩ := bind_some hf
            obtain ⟨u15, SH2⟩ := k_X3_spread (X := X) (d := d) (by omega) (by omega) (by decide) SH e15
            refine And.imp_left (rs_inV i_X7_state_102 m_X3_spread rfl (As := []) (rest := []) rfl rfl (Nat.le_of_ble_eq_true rfl) (sO3 SH hh (by decide)) u15 (st' := [.int o15.1]) rfl) ?_
            clear SH; have SH := SH2; clear SH2
            refine And.imp_left (rs_i2l i_X7_state_105) ?_
            have hf := Option.some.inj hf
            subst hf
            exact ⟨rs_lret i_X7_state_106 m_X7_state rfl, SH⟩
          · replace hf := (if_neg c8).symm.trans hf
            by_cases c9 : v2 = 3
            · replace hf := (if_pos c9).symm.trans hf
              refine And.imp_left (rs_tsw i_X7_state_38 (off := 69) (by rw [c9]; decide) (tg := 107) (by decide)) ?_
              refine And.imp_left (rs_aload_n i_X7_state_107 rfl) ?_
              refine And.imp_left (rs_getR i_X7_state_108 (by decide) (by decide) (sO7 SH hh) (sR7_7 SH hh)) ?_
              refine And.imp_left (rs_getI i_X7_state_111 (by decide) (by decide) (sO3 SH hh (by decide))) ?_
              refine And.imp_left (rs_i2l i_X7_state_114) ?_
              have hf := Option.some.inj hf
              subst hf
              exact ⟨rs_lret i_X7_state_115 m_X7_state rfl, SH⟩
            · replace hf := (if_neg c9).symm.trans hf
              by_cases c10 : v2 = 4
              · replace hf := (if_pos c10).symm.trans hf
                refine And.imp_left (rs_tsw i_X7_state_38 (off := 78) (by rw [c10]; decide) (tg := 116) (by decide)) ?_
                refine And.imp_left (rs_aload_n i_X7_state_116 rfl) ?_
                refine And.imp_left (rs_getR i_X7_state_117 (by decide) (by decide) (sO7 SH hh) (sR7_7 SH hh)) ?_
                obtain ⟨o14, e14, hf⟩ := bind_some hf
                obtain ⟨u14, SH2⟩ := k_X3_allLength (X := X) (d := d) (by omega) (by omega) (by decide) SH e14
                refine And.imp_left (rs_inV i_X7_state_120 m_X3_allLength rfl (As := []) (rest := []) rfl rfl (Nat.le_of_ble_eq_true rfl) (sO3 SH hh (by decide)) u14 (st' := [.long o14.1]) rfl) ?_
                clear SH; have SH := SH2; clear SH2
                refine And.imp_left (rs_aload_n i_X7_state_123 rfl) ?_
                refine And.imp_left (rs_getR i_X7_state_124 (by decide) (by decide) (sO7 SH hh) (sR7_7 SH hh)) ?_
                refine And.imp_left (rs_getI i_X7_state_127 (by decide) (by decide) (sO3 SH hh (by decide))) ?_
                refine And.imp_left (rs_lshl i_X7_state_130) ?_
                have hf := Option.some.inj hf
                subst hf
                exact ⟨rs_lret i_X7_state_131 m_X7_state rfl, SH⟩
              · replace hf := (if_neg c10).symm.trans hf
                by_cases c11 : v2 = 5
                · replace hf := (if_pos c11).symm.trans hf
                  refine And.imp_left (rs_tsw i_X7_state_38 (off := 94) (by rw [c11]; decide) (tg := 132) (by decide)) ?_
                  refine And.imp_left (rs_aload_n i_X7_state_132 rfl) ?_
                  refine And.imp_left (rs_getR i_X7_state_133 (by decide) (by decide) (sO7 SH hh) (sR7_7 SH hh)) ?_
                  refine And.imp_left (rs_getI i_X7_state_136 (by decide) (by decide) (sO3 SH hh (by decide))) ?_
                  refine And.imp_left (rs_i2l i_X7_state_139) ?_
                  have hf := Option.some.inj hf
                  subst hf
                  exact ⟨rs_lret i_X7_state_140 m_X7_state rfl, SH⟩
                · replace hf := (if_neg c11).symm.trans hf
                  by_cases c12 : v2 = 6
                  · replace hf := (if_pos c12).symm.trans hf
                    refine And.imp_left (rs_tsw i_X7_state_38 (off := 103) (by rw [c12]; decide) (tg := 141) (by decide)) ?_
                    refine And.imp_left (rs_aload_n i_X7_state_141 rfl) ?_
                    refine And.imp_left (rs_getR i_X7_state_142 (by decide) (by decide) (sO7 SH hh) (sR7_7 SH hh)) ?_
                    refine And.imp_left (rs_getI i_X7_state_145 (by decide) (by decide) (sO3 SH hh (by decide))) ?_
                    refine And.imp_left (rs_i2l i_X7_state_148) ?_
                    have hf := Option.some.inj hf
                    subst hf
                    exact ⟨rs_lret i_X7_state_149 m_X7_state rfl, SH⟩
                  · replace hf := (if_neg c12).symm.trans hf
                    refine And.imp_left (rs_tsw i_X7_state_38 (off := 112) (swt_df (by have z0 := ne_ti c6; rw [show (0 : Int32).toInt = 0 from by decide] at z0; have z1 := ne_ti c7; rw [show (1 : Int32).toInt = 1 from by decide] at z1; have z2 := ne_ti c8; rw [show (2 : Int32).toInt = 2 from by decide] at z2; have z3 := ne_ti c9; rw [show (3 : Int32).toInt = 3 from by decide] at z3; have z4 := ne_ti c10; rw [show (4 : Int32).toInt = 4 from by decide] at z4; have z5 := ne_ti c11; rw [show (5 : Int32).toInt = 5 from by decide] at z5; have z6 := ne_ti c12; rw [show (6 : Int32).toInt = 6 from by decide] at z6; omega)) (tg := 150) (by decide)) ?_
                    refine And.imp_left (rs_aload_n i_X7_state_150 rfl) ?_
                    refine And.imp_left (rs_iload_n i_X7_state_151 rfl) ?_
                    obtain ⟨o13, e13, hf⟩ := bind_some hf
                    obtain ⟨u13, SH2⟩ := k_X7_allTake (X := X) (d := d) (by omega) (by omega) SH e13
                    refine And.imp_left (rs_inV i_X7_state_152 m_X7_allTake rfl (As := [.int v1]) (rest := []) rfl rfl (Nat.le_of_ble_eq_true rfl) (sO7 SH hh) u13 (st' := [.int o13.1]) rfl) ?_
                    clear SH; have SH := SH2; clear SH2
                    refine And.imp_left (rs_i2l i_X7_state_155) ?_
                    have hf := Option.some.inj hf
                    subst hf
                    exact ⟨rs_lret i_X7_state_156 m_X7_state rfl, SH⟩
    · replace hf := (if_neg c4).symm.trans hf
      refine And.imp_left (rs_ifF i_X7_state_19 (cf_ne c4)) ?_
      refine And.imp_left (rs_ldc2 i_X7_state_22 (v := (-7)) (by decide)) ?_
      have hf := Option.some.inj hf
      subst hf
      exact ⟨rs_lret i_X7_state_25 m_X7_state rfl, SH⟩
  · replace hf := (if_neg c2).symm.trans hf
    refine And.imp_left (rs_ifF i_X7_state_5 (cf_ne c2)) ?_
    refine And.imp_left (rs_ldc2 i_X7_state_8 (v := (-5)) (by decide)) ?_
    have hf := Option.some.inj hf
    subst hf
    exact ⟨rs_lret i_X7_state_11 m_X7_state rfl, SH⟩
noncomputable def g_X7_state (n : Nat) (v1 : Int32) (v2 : Int32) (h : Hp) : Option (Int64 × Hp) := g_X7_state_0 n v1 v2 h
theorem k_X7_state {X : Nat → Int32} {d : Nat} (hd : 7 ≤ d) {L hi : Nat} (hh : 96 ≤ hi) {n : Nat} {v1 : Int32} {v2 : Int32} {h : Hp} {o : (Int64 × Hp)}  (SH : SHP L hi h) (hf : g_X7_state n v1 v2 h = some o) : Calls X d 77 [.ref 16, .int v1, .int v2] h (some (.long o.1), o.2) ∧ SHP L hi o.2 := by
  obtain ⟨d, rfl⟩ : ∃ z, d = z + 1 := ⟨d - 1, by omega⟩
  obtain ⟨r, S2⟩ := q_X7_state_0 hd hh SH hf
  exact ⟨⟨_, rfl, r⟩, S2⟩
