theorem i_X8_drawn_0 : fetch 210 0 = some (.aload_n 0, 1, 0, 0, 0, 0) := by decide +kernel
theorem i_X8_drawn_1 : fetch 210 1 = some (.iload_n 1, 2, 0, 0, 0, 0) := by decide +kernel
theorem i_X8_drawn_2 : fetch 210 2 = some (.invokevirtual 286, 5, 128, 0, 0, 1223) := by decide +kernel
theorem i_X8_drawn_5 : fetch 210 5 = some (.ifCond .ne 6, 8, 0, 0, 0, 0) := by decide +kernel
theorem i_X8_drawn_8 : fetch 210 8 = some (.bipush (-5), 10, 0, 0, 0, 0) := by decide +kernel
theorem i_X8_drawn_10 : fetch 210 10 = some (.ireturn, 11, 0, 0, 0, 0) := by decide +kernel
theorem i_X8_drawn_11 : fetch 210 11 = some (.iload_n 2, 12, 0, 0, 0, 0) := by decide +kernel
theorem i_X8_drawn_12 : fetch 210 12 = some (.invokestatic 119, 15, 127, 0, 0, 1176) := by decide +kernel
theorem i_X8_drawn_15 : fetch 210 15 = some (.ifCond .eq 23, 18, 0, 0, 0, 0) := by decide +kernel
theorem i_X8_drawn_18 : fetch 210 18 = some (.iload_n 3, 19, 0, 0, 0, 0) := by decide +kernel
theorem i_X8_drawn_19 : fetch 210 19 = some (.iconst 0, 20, 0, 0, 0, 0) := by decide +kernel
theorem i_X8_drawn_20 : fetch 210 20 = some (.ldc 123, 22, 0, 0, 99999, 1179) := by decide +kernel
theorem i_X8_drawn_22 : fetch 210 22 = some (.invokestatic 112, 25, 126, 0, 0, 970) := by decide +kernel
theorem i_X8_drawn_25 : fetch 210 25 = some (.ifCond .eq 13, 28, 0, 0, 0, 0) := by decide +kernel
theorem i_X8_drawn_28 : fetch 210 28 = some (.iload 4, 30, 0, 0, 0, 0) := by decide +kernel
theorem i_X8_drawn_30 : fetch 210 30 = some (.iconst 0, 31, 0, 0, 0, 0) := by decide +kernel
theorem i_X8_drawn_31 : fetch 210 31 = some (.iconst 1, 32, 0, 0, 0, 0) := by decide +kernel
theorem i_X8_drawn_32 : fetch 210 32 = some (.invokestatic 112, 35, 126, 0, 0, 970) := by decide +kernel
theorem i_X8_drawn_35 : fetch 210 35 = some (.ifCond .ne 6, 38, 0, 0, 0, 0) := by decide +kernel
theorem i_X8_drawn_38 : fetch 210 38 = some (.bipush (-7), 40, 0, 0, 0, 0) := by decide +kernel
theorem i_X8_drawn_40 : fetch 210 40 = some (.ireturn, 41, 0, 0, 0, 0) := by decide +kernel
theorem i_X8_drawn_41 : fetch 210 41 = some (.aload_n 0, 42, 0, 0, 0, 0) := by decide +kernel
theorem i_X8_drawn_42 : fetch 210 42 = some (.iload_n 3, 43, 0, 0, 0, 0) := by decide +kernel
theorem i_X8_drawn_43 : fetch 210 43 = some (.i2l, 44, 0, 0, 0, 0) := by decide +kernel
theorem i_X8_drawn_44 : fetch 210 44 = some (.lconst 1, 45, 0, 0, 0, 0) := by decide +kernel
theorem i_X8_drawn_45 : fetch 210 45 = some (.ladd, 46, 0, 0, 0, 0) := by decide +kernel
theorem i_X8_drawn_46 : fetch 210 46 = some (.putfield 218, 49, 8, 46, 0, 1055) := by decide +kernel
theorem i_X8_drawn_49 : fetch 210 49 = some (.aload_n 0, 50, 0, 0, 0, 0) := by decide +kernel
theorem i_X8_drawn_50 : fetch 210 50 = some (.iconst 1, 51, 0, 0, 0, 0) := by decide +kernel
theorem i_X8_drawn_51 : fetch 210 51 = some (.putfield 214, 54, 8, 45, 0, 1054) := by decide +kernel
theorem i_X8_drawn_54 : fetch 210 54 = some (.aload_n 0, 55, 0, 0, 0, 0) := by decide +kernel
theorem i_X8_drawn_55 : fetch 210 55 = some (.iload_n 1, 56, 0, 0, 0, 0) := by decide +kernel
theorem i_X8_drawn_56 : fetch 210 56 = some (.invokevirtual 289, 59, 168, 0, 0, 1227) := by decide +kernel
theorem i_X8_drawn_59 : fetch 210 59 = some (.aload_n 0, 60, 0, 0, 0, 0) := by decide +kernel
theorem i_X8_drawn_60 : fetch 210 60 = some (.iconst 0, 61, 0, 0, 0, 0) := by decide +kernel
theorem i_X8_drawn_61 : fetch 210 61 = some (.putfield 214, 64, 8, 45, 0, 1054) := by decide +kernel
theorem i_X8_drawn_64 : fetch 210 64 = some (.iload 4, 66, 0, 0, 0, 0) := by decide +kernel
theorem i_X8_drawn_66 : fetch 210 66 = some (.ifCond .ne 11, 69, 0, 0, 0, 0) := by decide +kernel
theorem i_X8_drawn_69 : fetch 210 69 = some (.aload_n 0, 70, 0, 0, 0, 0) := by decide +kernel
theorem i_X8_drawn_70 : fetch 210 70 = some (.iload_n 2, 71, 0, 0, 0, 0) := by decide +kernel
theorem i_X8_drawn_71 : fetch 210 71 = some (.invokevirtual 202, 74, 154, 0, 0, 1256) := by decide +kernel
theorem i_X8_drawn_74 : fetch 210 74 = some (.goto 7, 77, 0, 0, 0, 0) := by decide +kernel
theorem i_X8_drawn_77 : fetch 210 77 = some (.aload_n 0, 78, 0, 0, 0, 0) := by decide +kernel
theorem i_X8_drawn_78 : fetch 210 78 = some (.invokevirtual 304, 81, 172, 0, 0, 1318) := by decide +kernel
theorem i_X8_drawn_81 : fetch 210 81 = some (.ireturn, 82, 0, 0, 0, 0) := by decide +kernel
def f_X8_drawn_64 (n : Nat) (v0 : Nat) (v2 : Int32) (v4 : Int32) (h : Hp) : Option (Int32 × Hp) :=
  if v4 ≠ 0 then
    if okO h v0 8 then
    (f_X8_spread n v0 h).bind fun o2 =>
    some (o2.1, o2.2)
    else none
  else
    if okO h v0 8 then
    (f_X8_thickOf v0 v2 h).bind fun o4 =>
    some (o4.1, o4.2)
    else none
set_option maxRecDepth 100000 in
set_option maxHeartbeats 4000000 in
theorem r_X8_drawn_64 {X : Nat → Int32} {d : Nat} (hd : 7 ≤ (d + 1)) {n : Nat} {v0 : Nat} {v2 : Int32} {v4 : Int32} {d1 : Int32} {d3 : Int32} {h : Hp} {o : (Int32 × Hp)} (hf : f_X8_drawn_64 n v0 v2 v4 h = some o) : Run X (d + 1) 210 64 [some (.ref v0), some (.int d1), some (.int v2), some (.int d3), some (.int v4)] [] h (some (.int o.1), o.2) := by
  unfold f_X8_drawn_64 at hf
  refine rs_iload i_X8_drawn_64 rfl ?_
  by_cases c1 : v4 ≠ 0
  · replace hf := (if_pos c1).symm.trans hf
    refine rs_ifT i_X8_drawn_66 (ct_ne c1) (tg := 77) (by decide) ?_
    refine rs_aload_n i_X8_drawn_77 rfl ?_
    obtain ⟨c3, hf⟩ := ite_some hf
    obtain ⟨o2, e2, hf⟩ := bind_some hf
    refine rs_inV i_X8_drawn_78 m_X8_spread rfl (As := []) (rest := []) rfl rfl (Nat.le_of_ble_eq_true rfl) c3 (c_X8_spread (by omega) e2) (st' := [.int o2.1]) rfl ?_
    have hf := Option.some.inj hf
    subst hf
    exact rs_iret i_X8_drawn_81 m_X8_drawn rfl
  · replace hf := (if_neg c1).symm.trans hf
    refine rs_ifF i_X8_drawn_66 (cf_ne c1) ?_
    refine rs_aload_n i_X8_drawn_69 rfl ?_
    refine rs_iload_n i_X8_drawn_70 rfl ?_
    obtain ⟨c5, hf⟩ := ite_some hf
    obtain ⟨o4, e4, hf⟩ := bind_some hf
    refine rs_inV i_X8_drawn_71 m_X8_thickOf rfl (As := [.int v2]) (rest := []) rfl rfl (Nat.le_of_ble_eq_true rfl) c5 (c_X8_thickOf (by omega) e4) (st' := [.int o4.1]) rfl ?_
    refine rs_goto i_X8_drawn_74 (tg := 81) (by decide) ?_
    have hf := Option.some.inj hf
    subst hf
    exact rs_iret i_X8_drawn_81 m_X8_drawn rfl
def f_X8_drawn_54 (n : Nat) (v0 : Nat) (v1 : Int32) (v2 : Int32) (v4 : Int32) (h : Hp) : Option (Int32 × Hp) :=
  if okO h v0 8 then
  (f_X8_goes n v0 v1 h).bind fun o1 =>
  if okO o1 v0 8 then
  f_X8_drawn_64 n v0 v2 v4 (hsi o1 v0 45 0)
  else none
  else none
set_option maxRecDepth 100000 in
set_option maxHeartbeats 4000000 in
theorem r_X8_drawn_54 {X : Nat → Int32} {d : Nat} (hd : 7 ≤ (d + 1)) {n : Nat} {v0 : Nat} {v1 : Int32} {v2 : Int32} {v4 : Int32} {d3 : Int32} {h : Hp} {o : (Int32 × Hp)} (hf : f_X8_drawn_54 n v0 v1 v2 v4 h = some o) : Run X (d + 1) 210 54 [some (.ref v0), some (.int v1), some (.int v2), some (.int d3), some (.int v4)] [] h (some (.int o.1), o.2) := by
  unfold f_X8_drawn_54 at hf
  refine rs_aload_n i_X8_drawn_54 rfl ?_
  refine rs_iload_n i_X8_drawn_55 rfl ?_
  obtain ⟨c2, hf⟩ := ite_some hf
  obtain ⟨o1, e1, hf⟩ := bind_some hf
  refine rs_inV i_X8_drawn_56 m_X8_goes rfl (As := [.int v1]) (rest := []) rfl rfl (Nat.le_of_ble_eq_true rfl) c2 (c_X8_goes (by omega) e1) (st' := []) rfl ?_
  refine rs_aload_n i_X8_drawn_59 rfl ?_
  refine rs_iconst i_X8_drawn_60 (v := 0) (by decide) ?_
  obtain ⟨c3, hf⟩ := ite_some hf
  refine rs_putZ i_X8_drawn_61 (by decide) (by decide) c3 ?_
  exact r_X8_drawn_64 hd hf
def f_X8_drawn_49 (n : Nat) (v0 : Nat) (v1 : Int32) (v2 : Int32) (v4 : Int32) (h : Hp) : Option (Int32 × Hp) :=
  if okO h v0 8 then
  f_X8_drawn_54 n v0 v1 v2 v4 (hsi h v0 45 1)
  else none
set_option maxRecDepth 100000 in
set_option maxHeartbeats 4000000 in
theorem r_X8_drawn_49 {X : Nat → Int32} {d : Nat} (hd : 7 ≤ (d + 1)) {n : Nat} {v0 : Nat} {v1 : Int32} {v2 : Int32} {v4 : Int32} {d3 : Int32} {h : Hp} {o : (Int32 × Hp)} (hf : f_X8_drawn_49 n v0 v1 v2 v4 h = some o) : Run X (d + 1) 210 49 [some (.ref v0), some (.int v1), some (.int v2), some (.int d3), some (.int v4)] [] h (some (.int o.1), o.2) := by
  unfold f_X8_drawn_49 at hf
  refine rs_aload_n i_X8_drawn_49 rfl ?_
  refine rs_iconst i_X8_drawn_50 (v := 1) (by decide) ?_
  obtain ⟨c1, hf⟩ := ite_some hf
  refine rs_putZ i_X8_drawn_51 (by decide) (by decide) c1 ?_
  exact r_X8_drawn_54 hd hf
def f_X8_drawn_0 (n : Nat) (v0 : Nat) (v1 : Int32) (v2 : Int32) (v3 : Int32) (v4 : Int32) (h : Hp) : Option (Int32 × Hp) :=
  if okO h v0 8 then
  (f_X8_areSteps v0 v1 h).bind fun o1 =>
  if o1.1 ≠ 0 then
    (f_X8_isCell v2 o1.2).bind fun o4 =>
    if o4.1 = 0 then
      some ((-7), o4.2)
    else
      (f_X8_in v3 0 99999 o4.2).bind fun o6 =>
      if o6.1 = 0 then
        some ((-7), o6.2)
      else
        (f_X8_in v4 0 1 o6.2).bind fun o8 =>
        if o8.1 ≠ 0 then
          if okO o8.2 v0 8 then
          f_X8_drawn_49 n v0 v1 v2 v4 (hsl o8.2 v0 46 ((Int32.toInt64 v3) + 1))
          else none
        else
          some ((-7), o8.2)
  else
    some ((-5), o1.2)
  else none
set_option maxRecDepth 100000 in
set_option maxHeartbeats 4000000 in
theorem r_X8_drawn_0 {X : Nat → Int32} {d : Nat} (hd : 7 ≤ (d + 1)) {n : Nat} {v0 : Nat} {v1 : Int32} {v2 : Int32} {v3 : Int32} {v4 : Int32} {h : Hp} {o : (Int32 × Hp)} (hf : f_X8_drawn_0 n v0 v1 v2 v3 v4 h = some o) : Run X (d + 1) 210 0 [some (.ref v0), some (.int v1), some (.int v2), some (.int v3), some (.int v4)] [] h (some (.int o.1), o.2) := by
  unfold f_X8_drawn_0 at hf
  refine rs_aload_n i_X8_drawn_0 rfl ?_
  refine rs_iload_n i_X8_drawn_1 rfl ?_
  obtain ⟨c2, hf⟩ := ite_some hf
  obtain ⟨o1, e1, hf⟩ := bind_some hf
  refine rs_inV i_X8_drawn_2 m_X8_areSteps rfl (As := [.int v1]) (rest := []) rfl rfl (Nat.le_of_ble_eq_true rfl) c2 (c_X8_areSteps (by omega) e1) (st' := [.int o1.1]) rfl ?_
  by_cases c3 : o1.1 ≠ 0
  · replace hf := (if_pos c3).symm.trans hf
    refine rs_ifT i_X8_drawn_5 (ct_ne c3) (tg := 11) (by decide) ?_
    refine rs_iload_n i_X8_drawn_11 rfl ?_
    obtain ⟨o4, e4, hf⟩ := bind_some hf
    refine rs_inS i_X8_drawn_12 (by decide) m_X8_isCell rfl (As := [.int v2]) (rest := []) rfl rfl (Nat.le_of_ble_eq_true rfl) (c_X8_isCell (by omega) e4) (st' := [.int o4.1]) rfl ?_
    by_cases c5 : o4.1 = 0
    · replace hf := (if_pos c5).symm.trans hf
      refine rs_ifT i_X8_drawn_15 (ct_eq c5) (tg := 38) (by decide) ?_
      refine rs_bipush i_X8_drawn_38 (v := (-7)) (by decide) ?_
      have hf := Option.some.inj hf
      subst hf
      exact rs_iret i_X8_drawn_40 m_X8_drawn rfl
    · replace hf := (if_neg c5).symm.trans hf
      refine rs_ifF i_X8_drawn_15 (cf_eq c5) ?_
      refine rs_iload_n i_X8_drawn_18 rfl ?_
      refine rs_iconst i_X8_drawn_19 (v := 0) (by decide) ?_
      refine rs_ldc i_X8_drawn_20 (v := 99999) (by decide) ?_
      obtain ⟨o6, e6, hf⟩ := bind_some hf
      refine rs_inS i_X8_drawn_22 (by decide) m_X8_in rfl (As := [.int v3, .int 0, .int 99999]) (rest := []) rfl rfl (Nat.le_of_ble_eq_true rfl) (c_X8_in (by omega) e6) (st' := [.int o6.1]) rfl ?_
      by_cases c7 : o6.1 = 0
      · replace hf := (if_pos c7).symm.trans hf
        refine rs_ifT i_X8_drawn_25 (ct_eq c7) (tg := 38) (by decide) ?_
        refine rs_bipush i_X8_drawn_38 (v := (-7)) (by decide) ?_
        have hf := Option.some.inj hf
        subst hf
        exact rs_iret i_X8_drawn_40 m_X8_drawn rfl
      · replace hf := (if_neg c7).symm.trans hf
        refine rs_ifF i_X8_drawn_25 (cf_eq c7) ?_
        refine rs_iload i_X8_drawn_28 rfl ?_
        refine rs_iconst i_X8_drawn_30 (v := 0) (by decide) ?_
        refine rs_iconst i_X8_drawn_31 (v := 1) (by decide) ?_
        obtain ⟨o8, e8, hf⟩ := bind_some hf
        refine rs_inS i_X8_drawn_32 (by decide) m_X8_in rfl (As := [.int v4, .int 0, .int 1]) (rest := []) rfl rfl (Nat.le_of_ble_eq_true rfl) (c_X8_in (by omega) e8) (st' := [.int o8.1]) rfl ?_
        by_cases c9 : o8.1 ≠ 0
        · replace hf := (if_pos c9).symm.trans hf
          refine rs_ifT i_X8_drawn_35 (ct_ne c9) (tg := 41) (by decide) ?_
          refine rs_aload_n i_X8_drawn_41 rfl ?_
          refine rs_iload_n i_X8_drawn_42 rfl ?_
          refine rs_i2l i_X8_drawn_43 ?_
          refine rs_lconst i_X8_drawn_44 (v := 1) (by decide) ?_
          refine rs_ladd i_X8_drawn_45 ?_
          obtain ⟨c10, hf⟩ := ite_some hf
          refine rs_putL i_X8_drawn_46 (by decide) c10 ?_
          exact r_X8_drawn_49 hd hf
        · replace hf := (if_neg c9).symm.trans hf
          refine rs_ifF i_X8_drawn_35 (cf_ne c9) ?_
          refine rs_bipush i_X8_drawn_38 (v := (-7)) (by decide) ?_
          have hf := Option.some.inj hf
          subst hf
          exact rs_iret i_X8_drawn_40 m_X8_drawn rfl
  · replace hf := (if_neg c3).symm.trans hf
    refine rs_ifF i_X8_drawn_5 (cf_ne c3) ?_
    refine rs_bipush i_X8_drawn_8 (v := (-5)) (by decide) ?_
    have hf := Option.some.inj hf
    subst hf
    exact rs_iret i_X8_drawn_10 m_X8_drawn rfl
def f_X8_drawn (n : Nat) (v0 : Nat) (v1 : Int32) (v2 : Int32) (v3 : Int32) (v4 : Int32) (h : Hp) : Option (Int32 × Hp) := f_X8_drawn_0 n v0 v1 v2 v3 v4 h
theorem c_X8_drawn {X : Nat → Int32} {d : Nat} (hd : 7 ≤ d) {n : Nat} {v0 : Nat} {v1 : Int32} {v2 : Int32} {v3 : Int32} {v4 : Int32} {h : Hp} {o : (Int32 × Hp)} (hf : f_X8_drawn n v0 v1 v2 v3 v4 h = some o) : Calls X d 210 [.ref v0, .int v1, .int v2, .int v3, .int v4] h (some (.int o.1), o.2) := by
  obtain ⟨d, rfl⟩ : ∃ z, d = z + 1 := ⟨d - 1, by omega⟩
  exact ⟨_, rfl, r_X8_drawn_0 hd hf⟩
theorem i_X8_image_0 : fetch 211 0 = some (.aload_n 0, 1, 0, 0, 0, 0) := by decide +kernel
theorem i_X8_image_1 : fetch 211 1 = some (.iconst 1, 2, 0, 0, 0, 0) := by decide +kernel
theorem i_X8_image_2 : fetch 211 2 = some (.putfield 355, 5, 8, 15, 0, 1024) := by decide +kernel
theorem i_X8_image_5 : fetch 211 5 = some (.aload_n 0, 6, 0, 0, 0, 0) := by decide +kernel
theorem i_X8_image_6 : fetch 211 6 = some (.aload_n 0, 7, 0, 0, 0, 0) := by decide +kernel
theorem i_X8_image_7 : fetch 211 7 = some (.getfield 17, 10, 8, 2, 0, 1011) := by decide +kernel
theorem i_X8_image_10 : fetch 211 10 = some (.putfield 358, 13, 8, 16, 0, 1025) := by decide +kernel
theorem i_X8_image_13 : fetch 211 13 = some (.aload_n 0, 14, 0, 0, 0, 0) := by decide +kernel
theorem i_X8_image_14 : fetch 211 14 = some (.aload_n 0, 15, 0, 0, 0, 0) := by decide +kernel
theorem i_X8_image_15 : fetch 211 15 = some (.getfield 21, 18, 8, 3, 0, 1012) := by decide +kernel
theorem i_X8_image_18 : fetch 211 18 = some (.putfield 361, 21, 8, 17, 0, 1026) := by decide +kernel
theorem i_X8_image_21 : fetch 211 21 = some (.aload_n 0, 22, 0, 0, 0, 0) := by decide +kernel
theorem i_X8_image_22 : fetch 211 22 = some (.aload_n 0, 23, 0, 0, 0, 0) := by decide +kernel
theorem i_X8_image_23 : fetch 211 23 = some (.getfield 24, 26, 8, 4, 0, 1013) := by decide +kernel
theorem i_X8_image_26 : fetch 211 26 = some (.putfield 364, 29, 8, 18, 0, 1027) := by decide +kernel
theorem i_X8_image_29 : fetch 211 29 = some (.aload_n 0, 30, 0, 0, 0, 0) := by decide +kernel
theorem i_X8_image_30 : fetch 211 30 = some (.aload_n 0, 31, 0, 0, 0, 0) := by decide +kernel
theorem i_X8_image_31 : fetch 211 31 = some (.getfield 135, 34, 8, 14, 0, 1023) := by decide +kernel
theorem i_X8_image_34 : fetch 211 34 = some (.putfield 367, 37, 8, 19, 0, 1028) := by decide +kernel
theorem i_X8_image_37 : fetch 211 37 = some (.iconst 0, 38, 0, 0, 0, 0) := by decide +kernel
theorem i_X8_image_38 : fetch 211 38 = some (.istore_n 1, 39, 0, 0, 0, 0) := by decide +kernel
theorem i_X8_image_39 : fetch 211 39 = some (.iload_n 1, 40, 0, 0, 0, 0) := by decide +kernel
theorem i_X8_image_40 : fetch 211 40 = some (.bipush 12, 42, 0, 0, 0, 0) := by decide +kernel
theorem i_X8_image_42 : fetch 211 42 = some (.if_icmp .ge 33, 45, 0, 0, 0, 0) := by decide +kernel
theorem i_X8_image_45 : fetch 211 45 = some (.aload_n 0, 46, 0, 0, 0, 0) := by decide +kernel
theorem i_X8_image_46 : fetch 211 46 = some (.getfield 45, 49, 8, 20, 0, 1029) := by decide +kernel
theorem i_X8_image_49 : fetch 211 49 = some (.iload_n 1, 50, 0, 0, 0, 0) := by decide +kernel
theorem i_X8_image_50 : fetch 211 50 = some (.aload_n 0, 51, 0, 0, 0, 0) := by decide +kernel
theorem i_X8_image_51 : fetch 211 51 = some (.getfield 8, 54, 8, 0, 0, 1009) := by decide +kernel
theorem i_X8_image_54 : fetch 211 54 = some (.iload_n 1, 55, 0, 0, 0, 0) := by decide +kernel
theorem i_X8_image_55 : fetch 211 55 = some (.iaload, 56, 0, 0, 0, 0) := by decide +kernel
theorem i_X8_image_56 : fetch 211 56 = some (.iastore, 57, 0, 0, 0, 0) := by decide +kernel
theorem i_X8_image_57 : fetch 211 57 = some (.aload_n 0, 58, 0, 0, 0, 0) := by decide +kernel
theorem i_X8_image_58 : fetch 211 58 = some (.getfield 48, 61, 8, 21, 0, 1030) := by decide +kernel
theorem i_X8_image_61 : fetch 211 61 = some (.iload_n 1, 62, 0, 0, 0, 0) := by decide +kernel
theorem i_X8_image_62 : fetch 211 62 = some (.aload_n 0, 63, 0, 0, 0, 0) := by decide +kernel
theorem i_X8_image_63 : fetch 211 63 = some (.getfield 14, 66, 8, 1, 0, 1010) := by decide +kernel
theorem i_X8_image_66 : fetch 211 66 = some (.iload_n 1, 67, 0, 0, 0, 0) := by decide +kernel
theorem i_X8_image_67 : fetch 211 67 = some (.iaload, 68, 0, 0, 0, 0) := by decide +kernel
theorem i_X8_image_68 : fetch 211 68 = some (.iastore, 69, 0, 0, 0, 0) := by decide +kernel
theorem i_X8_image_69 : fetch 211 69 = some (.iinc 1 1, 72, 0, 0, 0, 0) := by decide +kernel
theorem i_X8_image_72 : fetch 211 72 = some (.goto (-33), 75, 0, 0, 0, 0) := by decide +kernel
theorem i_X8_image_75 : fetch 211 75 = some (.aload_n 0, 76, 0, 0, 0, 0) := by decide +kernel
theorem i_X8_image_76 : fetch 211 76 = some (.getfield 116, 79, 8, 5, 0, 1014) := by decide +kernel
theorem i_X8_image_79 : fetch 211 79 = some (.ireturn, 80, 0, 0, 0, 0) := by decide +kernel
def f_X8_image_57 (n : Nat) (K39 : Nat → Int32 → Hp → Option (Int32 × Hp)) (v0 : Nat) (v1 : Int32) (h : Hp) : Option (Int32 × Hp) :=
  if okO h v0 8 then
  (gR h v0 21).bind fun a2 =>
  (gR h v0 1).bind fun a3 =>
  if okI h a3 v1 then
  if okI h a2 v1 then
  K39 v0 (v1 + 1) (hsi h a2 (ix v1) (gI h a3 (ix v1)))
  else none
  else none
  else none
set_option maxRecDepth 100000 in
set_option maxHeartbeats 4000000 in
theorem r_X8_image_57 {X : Nat → Int32} {d : Nat} (hd : 0 ≤ d) {n : Nat} {K39 : Nat → Int32 → Hp → Option (Int32 × Hp)} (HK39 : ∀ (v0 : Nat) (v1 : Int32) (h : Hp) (o : (Int32 × Hp)), K39 v0 v1 h = some o → Run X d 211 39 [some (.ref v0), some (.int v1)] [] h (some (.int o.1), o.2)) {v0 : Nat} {v1 : Int32} {h : Hp} {o : (Int32 × Hp)} (hf : f_X8_image_57 n K39 v0 v1 h = some o) : Run X d 211 57 [some (.ref v0), some (.int v1)] [] h (some (.int o.1), o.2) := by
  unfold f_X8_image_57 at hf
  refine rs_aload_n i_X8_image_57 rfl ?_
  obtain ⟨c1, hf⟩ := ite_some hf
  obtain ⟨a2, e2, hf⟩ := bind_some hf
  refine rs_getR i_X8_image_58 (by decide) (by decide) c1 e2 ?_
  refine rs_iload_n i_X8_image_61 rfl ?_
  refine rs_aload_n i_X8_image_62 rfl ?_
  obtain ⟨a3, e3, hf⟩ := bind_some hf
  refine rs_getR i_X8_image_63 (by decide) (by decide) c1 e3 ?_
  refine rs_iload_n i_X8_image_66 rfl ?_
  obtain ⟨c4, hf⟩ := ite_some hf
  refine rs_iald i_X8_image_67 c4 ?_
  obtain ⟨c5, hf⟩ := ite_some hf
  refine rs_iast i_X8_image_68 c5 ?_
  refine rs_iinc i_X8_image_69 rfl (v := v1 + 1) rfl (Nat.le_of_ble_eq_true rfl) (lv' := [some (.ref v0), some (.int (v1 + 1))]) rfl ?_
  refine rs_goto i_X8_image_72 (tg := 39) (by decide) ?_
  exact HK39 _ _ _ _ hf
def f_X8_image_39 (n : Nat) : Nat → Nat → Int32 → Hp → Option (Int32 × Hp)
  | 0, _, _, _ => none
  | m + 1, v0, v1, h =>
    if 12 ≤ v1 then
      if okO h v0 8 then
      some ((gI h v0 5), h)
      else none
    else
      if okO h v0 8 then
      (gR h v0 20).bind fun a4 =>
      (gR h v0 0).bind fun a5 =>
      if okI h a5 v1 then
      if okI h a4 v1 then
      f_X8_image_57 n (f_X8_image_39 n m) v0 v1 (hsi h a4 (ix v1) (gI h a5 (ix v1)))
      else none
      else none
      else none
set_option maxRecDepth 100000 in
set_option maxHeartbeats 4000000 in
theorem r_X8_image_39 {X : Nat → Int32} {d : Nat} (hd : 0 ≤ d) {n : Nat} : ∀ (m : Nat) (v0 : Nat) (v1 : Int32) (h : Hp) (o : (Int32 × Hp)), f_X8_image_39 n m v0 v1 h = some o → Run X d 211 39 [some (.ref v0), some (.int v1)] [] h (some (.int o.1), o.2) := by
  intro m
  induction m with
  | zero => intro v0 v1 h o hf; cases hf
  | succ m ih =>
    intro v0 v1 h o hf
    rw [f_X8_image_39] at hf
    refine rs_iload_n i_X8_image_39 rfl ?_
    refine rs_bipush i_X8_image_40 (v := 12) (by decide) ?_
    by_cases c1 : 12 ≤ v1
    · replace hf := (if_pos c1).symm.trans hf
      refine rs_icT i_X8_image_42 (ct_ge c1) (tg := 75) (by decide) ?_
      refine rs_aload_n i_X8_image_75 rfl ?_
      obtain ⟨c2, hf⟩ := ite_some hf
      refine rs_getI i_X8_image_76 (by decide) (by decide) c2 ?_
      have hf := Option.some.inj hf
      subst hf
      exact rs_iret i_X8_image_79 m_X8_image rfl
    · replace hf := (if_neg c1).symm.trans hf
      refine rs_icF i_X8_image_42 (cf_ge c1) ?_
      refine rs_aload_n i_X8_image_45 rfl ?_
      obtain ⟨c3, hf⟩ := ite_some hf
      obtain ⟨a4, e4, hf⟩ := bind_some hf
      refine rs_getR i_X8_image_46 (by decide) (by decide) c3 e4 ?_
      refine rs_iload_n i_X8_image_49 rfl ?_
      refine rs_aload_n i_X8_image_50 rfl ?_
      obtain ⟨a5, e5, hf⟩ := bind_some hf
      refine rs_getR i_X8_image_51 (by decide) (by decide) c3 e5 ?_
      refine rs_iload_n i_X8_image_54 rfl ?_
      obtain ⟨c6, hf⟩ := ite_some hf
      refine rs_iald i_X8_image_55 c6 ?_
      obtain ⟨c7, hf⟩ := ite_some hf
      refine rs_iast i_X8_image_56 c7 ?_
      exact r_X8_image_57 hd ih hf
def f_X8_image_29 (n : Nat) (v0 : Nat) (h : Hp) : Option (Int32 × Hp) :=
  if okO h v0 8 then
  f_X8_image_39 n n v0 0 (hsi h v0 19 (gI h v0 14))
  else none
set_option maxRecDepth 100000 in
set_option maxHeartbeats 4000000 in
theorem r_X8_image_29 {X : Nat → Int32} {d : Nat} (hd : 0 ≤ d) {n : Nat} {v0 : Nat} {h : Hp} {o : (Int32 × Hp)} (hf : f_X8_image_29 n v0 h = some o) : Run X d 211 29 [some (.ref v0), none] [] h (some (.int o.1), o.2) := by
  unfold f_X8_image_29 at hf
  refine rs_aload_n i_X8_image_29 rfl ?_
  refine rs_aload_n i_X8_image_30 rfl ?_
  obtain ⟨c1, hf⟩ := ite_some hf
  refine rs_getI i_X8_image_31 (by decide) (by decide) c1 ?_
  refine rs_putI i_X8_image_34 (by decide) c1 ?_
  refine rs_iconst i_X8_image_37 (v := 0) (by decide) ?_
  refine rs_istore_n i_X8_image_38 (Nat.le_of_ble_eq_true rfl) (lv' := [some (.ref v0), some (.int 0)]) rfl ?_
  exact r_X8_image_39 hd _ _ _ _ _ hf
def f_X8_image_21 (n : Nat) (v0 : Nat) (h : Hp) : Option (Int32 × Hp) :=
  if okO h v0 8 then
  f_X8_image_29 n v0 (hsi h v0 18 (gI h v0 4))
  else none
set_option maxRecDepth 100000 in
set_option maxHeartbeats 4000000 in
theorem r_X8_image_21 {X : Nat → Int32} {d : Nat} (hd : 0 ≤ d) {n : Nat} {v0 : Nat} {h : Hp} {o : (Int32 × Hp)} (hf : f_X8_image_21 n v0 h = some o) : Run X d 211 21 [some (.ref v0), none] [] h (some (.int o.1), o.2) := by
  unfold f_X8_image_21 at hf
  refine rs_aload_n i_X8_image_21 rfl ?_
  refine rs_aload_n i_X8_image_22 rfl ?_
  obtain ⟨c1, hf⟩ := ite_some hf
  refine rs_getI i_X8_image_23 (by decide) (by decide) c1 ?_
  refine rs_putI i_X8_image_26 (by decide) c1 ?_
  exact r_X8_image_29 hd hf
def f_X8_image_13 (n : Nat) (v0 : Nat) (h : Hp) : Option (Int32 × Hp) :=
  if okO h v0 8 then
  f_X8_image_21 n v0 (hsi h v0 17 (gI h v0 3))
  else none
set_option maxRecDepth 100000 in
set_option maxHeartbeats 4000000 in
theorem r_X8_image_13 {X : Nat → Int32} {d : Nat} (hd : 0 ≤ d) {n : Nat} {v0 : Nat} {h : Hp} {o : (Int32 × Hp)} (hf : f_X8_image_13 n v0 h = some o) : Run X d 211 13 [some (.ref v0), none] [] h (some (.int o.1), o.2) := by
  unfold f_X8_image_13 at hf
  refine rs_aload_n i_X8_image_13 rfl ?_
  refine rs_aload_n i_X8_image_14 rfl ?_
  obtain ⟨c1, hf⟩ := ite_some hf
  refine rs_getI i_X8_image_15 (by decide) (by decide) c1 ?_
  refine rs_putI i_X8_image_18 (by decide) c1 ?_
  exact r_X8_image_21 hd hf
def f_X8_image_5 (n : Nat) (v0 : Nat) (h : Hp) : Option (Int32 × Hp) :=
  if okO h v0 8 then
  f_X8_image_13 n v0 (hsi h v0 16 (gI h v0 2))
  else none
set_option maxRecDepth 100000 in
set_option maxHeartbeats 4000000 in
theorem r_X8_image_5 {X : Nat → Int32} {d : Nat} (hd : 0 ≤ d) {n : Nat} {v0 : Nat} {h : Hp} {o : (Int32 × Hp)} (hf : f_X8_image_5 n v0 h = some o) : Run X d 211 5 [some (.ref v0), none] [] h (some (.int o.1), o.2) := by
  unfold f_X8_image_5 at hf
  refine rs_aload_n i_X8_image_5 rfl ?_
  refine rs_aload_n i_X8_image_6 rfl ?_
  obtain ⟨c1, hf⟩ := ite_some hf
  refine rs_getI i_X8_image_7 (by decide) (by decide) c1 ?_
  refine rs_putI i_X8_image_10 (by decide) c1 ?_
  exact r_X8_image_13 hd hf
def f_X8_image_0 (n : Nat) (v0 : Nat) (h : Hp) : Option (Int32 × Hp) :=
  if okO h v0 8 then
  f_X8_image_5 n v0 (hsi h v0 15 1)
  else none
set_option maxRecDepth 100000 in
set_option maxHeartbeats 4000000 in
theorem r_X8_image_0 {X : Nat → Int32} {d : Nat} (hd : 0 ≤ d) {n : Nat} {v0 : Nat} {h : Hp} {o : (Int32 × Hp)} (hf : f_X8_image_0 n v0 h = some o) : Run X d 211 0 [some (.ref v0), none] [] h (some (.int o.1), o.2) := by
  unfold f_X8_image_0 at hf
  refine rs_aload_n i_X8_image_0 rfl ?_
  refine rs_iconst i_X8_image_1 (v := 1) (by decide) ?_
  obtain ⟨c1, hf⟩ := ite_some hf
  refine rs_putZ i_X8_image_2 (by decide) (by decide) c1 ?_
  exact r_X8_image_5 hd hf
def f_X8_image (n : Nat) (v0 : Nat) (h : Hp) : Option (Int32 × Hp) := f_X8_image_0 n v0 h
theorem c_X8_image {X : Nat → Int32} {d : Nat} (hd : 0 ≤ d) {n : Nat} {v0 : Nat} {h : Hp} {o : (Int32 × Hp)} (hf : f_X8_image n v0 h = some o) : Calls X d 211 [.ref v0] h (some (.int o.1), o.2) := by
  exact ⟨_, rfl, r_X8_image_0 hd hf⟩
theorem i_X8_back_0 : fetch 212 0 = some (.aload_n 0, 1, 0, 0, 0, 0) := by decide +kernel
theorem i_X8_back_1 : fetch 212 1 = some (.getfield 355, 4, 8, 15, 0, 1024) := by decide +kernel
theorem i_X8_back_4 : fetch 212 4 = some (.ifCond .ne 6, 7, 0, 0, 0, 0) := by decide +kernel
theorem i_X8_back_7 : fetch 212 7 = some (.bipush (-3), 9, 0, 0, 0, 0) := by decide +kernel
theorem i_X8_back_9 : fetch 212 9 = some (.ireturn, 10, 0, 0, 0, 0) := by decide +kernel
theorem i_X8_back_10 : fetch 212 10 = some (.aload_n 0, 11, 0, 0, 0, 0) := by decide +kernel
theorem i_X8_back_11 : fetch 212 11 = some (.aload_n 0, 12, 0, 0, 0, 0) := by decide +kernel
theorem i_X8_back_12 : fetch 212 12 = some (.getfield 358, 15, 8, 16, 0, 1025) := by decide +kernel
theorem i_X8_back_15 : fetch 212 15 = some (.putfield 17, 18, 8, 2, 0, 1011) := by decide +kernel
theorem i_X8_back_18 : fetch 212 18 = some (.aload_n 0, 19, 0, 0, 0, 0) := by decide +kernel
theorem i_X8_back_19 : fetch 212 19 = some (.aload_n 0, 20, 0, 0, 0, 0) := by decide +kernel
theorem i_X8_back_20 : fetch 212 20 = some (.getfield 361, 23, 8, 17, 0, 1026) := by decide +kernel
theorem i_X8_back_23 : fetch 212 23 = some (.putfield 21, 26, 8, 3, 0, 1012) := by decide +kernel
theorem i_X8_back_26 : fetch 212 26 = some (.aload_n 0, 27, 0, 0, 0, 0) := by decide +kernel
theorem i_X8_back_27 : fetch 212 27 = some (.aload_n 0, 28, 0, 0, 0, 0) := by decide +kernel
theorem i_X8_back_28 : fetch 212 28 = some (.getfield 364, 31, 8, 18, 0, 1027) := by decide +kernel
theorem i_X8_back_31 : fetch 212 31 = some (.putfield 24, 34, 8, 4, 0, 1013) := by decide +kernel
theorem i_X8_back_34 : fetch 212 34 = some (.aload_n 0, 35, 0, 0, 0, 0) := by decide +kernel
theorem i_X8_back_35 : fetch 212 35 = some (.aload_n 0, 36, 0, 0, 0, 0) := by decide +kernel
theorem i_X8_back_36 : fetch 212 36 = some (.getfield 367, 39, 8, 19, 0, 1028) := by decide +kernel
theorem i_X8_back_39 : fetch 212 39 = some (.putfield 135, 42, 8, 14, 0, 1023) := by decide +kernel
theorem i_X8_back_42 : fetch 212 42 = some (.iconst 0, 43, 0, 0, 0, 0) := by decide +kernel
theorem i_X8_back_43 : fetch 212 43 = some (.istore_n 1, 44, 0, 0, 0, 0) := by decide +kernel
theorem i_X8_back_44 : fetch 212 44 = some (.iload_n 1, 45, 0, 0, 0, 0) := by decide +kernel
theorem i_X8_back_45 : fetch 212 45 = some (.bipush 12, 47, 0, 0, 0, 0) := by decide +kernel
theorem i_X8_back_47 : fetch 212 47 = some (.if_icmp .ge 33, 50, 0, 0, 0, 0) := by decide +kernel
theorem i_X8_back_50 : fetch 212 50 = some (.aload_n 0, 51, 0, 0, 0, 0) := by decide +kernel
theorem i_X8_back_51 : fetch 212 51 = some (.getfield 8, 54, 8, 0, 0, 1009) := by decide +kernel
theorem i_X8_back_54 : fetch 212 54 = some (.iload_n 1, 55, 0, 0, 0, 0) := by decide +kernel
theorem i_X8_back_55 : fetch 212 55 = some (.aload_n 0, 56, 0, 0, 0, 0) := by decide +kernel
theorem i_X8_back_56 : fetch 212 56 = some (.getfield 45, 59, 8, 20, 0, 1029) := by decide +kernel
theorem i_X8_back_59 : fetch 212 59 = some (.iload_n 1, 60, 0, 0, 0, 0) := by decide +kernel
theorem i_X8_back_60 : fetch 212 60 = some (.iaload, 61, 0, 0, 0, 0) := by decide +kernel
theorem i_X8_back_61 : fetch 212 61 = some (.iastore, 62, 0, 0, 0, 0) := by decide +kernel
theorem i_X8_back_62 : fetch 212 62 = some (.aload_n 0, 63, 0, 0, 0, 0) := by decide +kernel
theorem i_X8_back_63 : fetch 212 63 = some (.getfield 14, 66, 8, 1, 0, 1010) := by decide +kernel
theorem i_X8_back_66 : fetch 212 66 = some (.iload_n 1, 67, 0, 0, 0, 0) := by decide +kernel
theorem i_X8_back_67 : fetch 212 67 = some (.aload_n 0, 68, 0, 0, 0, 0) := by decide +kernel
theorem i_X8_back_68 : fetch 212 68 = some (.getfield 48, 71, 8, 21, 0, 1030) := by decide +kernel
theorem i_X8_back_71 : fetch 212 71 = some (.iload_n 1, 72, 0, 0, 0, 0) := by decide +kernel
theorem i_X8_back_72 : fetch 212 72 = some (.iaload, 73, 0, 0, 0, 0) := by decide +kernel
theorem i_X8_back_73 : fetch 212 73 = some (.iastore, 74, 0, 0, 0, 0) := by decide +kernel
theorem i_X8_back_74 : fetch 212 74 = some (.iinc 1 1, 77, 0, 0, 0, 0) := by decide +kernel
theorem i_X8_back_77 : fetch 212 77 = some (.goto (-33), 80, 0, 0, 0, 0) := by decide +kernel
theorem i_X8_back_80 : fetch 212 80 = some (.aload_n 0, 81, 0, 0, 0, 0) := by decide +kernel
theorem i_X8_back_81 : fetch 212 81 = some (.getfield 116, 84, 8, 5, 0, 1014) := by decide +kernel
theorem i_X8_back_84 : fetch 212 84 = some (.ireturn, 85, 0, 0, 0, 0) := by decide +kernel
def f_X8_back_62 (n : Nat) (K44 : Nat → Int32 → Hp → Option (Int32 × Hp)) (v0 : Nat) (v1 : Int32) (h : Hp) : Option (Int32 × Hp) :=
  if okO h v0 8 then
  (gR h v0 1).bind fun a2 =>
  (gR h v0 21).bind fun a3 =>
  if okI h a3 v1 then
  if okI h a2 v1 then
  K44 v0 (v1 + 1) (hsi h a2 (ix v1) (gI h a3 (ix v1)))
  else none
  else none
  else none
set_option maxRecDepth 100000 in
set_option maxHeartbeats 4000000 in
theorem r_X8_back_62 {X : Nat → Int32} {d : Nat} (hd : 0 ≤ d) {n : Nat} {K44 : Nat → Int32 → Hp → Option (Int32 × Hp)} (HK44 : ∀ (v0 : Nat) (v1 : Int32) (h : Hp) (o : (Int32 × Hp)), K44 v0 v1 h = some o → Run X d 212 44 [some (.ref v0), some (.int v1)] [] h (some (.int o.1), o.2)) {v0 : Nat} {v1 : Int32} {h : Hp} {o : (Int32 × Hp)} (hf : f_X8_back_62 n K44 v0 v1 h = some o) : Run X d 212 62 [some (.ref v0), some (.int v1)] [] h (some (.int o.1), o.2) := by
  unfold f_X8_back_62 at hf
  refine rs_aload_n i_X8_back_62 rfl ?_
  obtain ⟨c1, hf⟩ := ite_some hf
  obtain ⟨a2, e2, hf⟩ := bind_some hf
  refine rs_getR i_X8_back_63 (by decide) (by decide) c1 e2 ?_
  refine rs_iload_n i_X8_back_66 rfl ?_
  refine rs_aload_n i_X8_back_67 rfl ?_
  obtain ⟨a3, e3, hf⟩ := bind_some hf
  refine rs_getR i_X8_back_68 (by decide) (by decide) c1 e3 ?_
  refine rs_iload_n i_X8_back_71 rfl ?_
  obtain ⟨c4, hf⟩ := ite_some hf
  refine rs_iald i_X8_back_72 c4 ?_
  obtain ⟨c5, hf⟩ := ite_some hf
  refine rs_iast i_X8_back_73 c5 ?_
  refine rs_iinc i_X8_back_74 rfl (v := v1 + 1) rfl (Nat.le_of_ble_eq_true rfl) (lv' := [some (.ref v0), some (.int (v1 + 1))]) rfl ?_
  refine rs_goto i_X8_back_77 (tg := 44) (by decide) ?_
  exact HK44 _ _ _ _ hf
def f_X8_back_44 (n : Nat) : Nat → Nat → Int32 → Hp → Option (Int32 × Hp)
  | 0, _, _, _ => none
  | m + 1, v0, v1, h =>
    if 12 ≤ v1 then
      if okO h v0 8 then
      some ((gI h v0 5), h)
      else none
    else
      if okO h v0 8 then
      (gR h v0 0).bind fun a4 =>
      (gR h v0 20).bind fun a5 =>
      if okI h a5 v1 then
      if okI h a4 v1 then
      f_X8_back_62 n (f_X8_back_44 n m) v0 v1 (hsi h a4 (ix v1) (gI h a5 (ix v1)))
      else none
      else none
      else none
set_option maxRecDepth 100000 in
set_option maxHeartbeats 4000000 in
theorem r_X8_back_44 {X : Nat → Int32} {d : Nat} (hd : 0 ≤ d) {n : Nat} : ∀ (m : Nat) (v0 : Nat) (v1 : Int32) (h : Hp) (o : (Int32 × Hp)), f_X8_back_44 n m v0 v1 h = some o → Run X d 212 44 [some (.ref v0), some (.int v1)] [] h (some (.int o.1), o.2) := by
  intro m
  induction m with
  | zero => intro v0 v1 h o hf; cases hf
  | succ m ih =>
    intro v0 v1 h o hf
    rw [f_X8_back_44] at hf
    refine rs_iload_n i_X8_back_44 rfl ?_
    refine rs_bipush i_X8_back_45 (v := 12) (by decide) ?_
    by_cases c1 : 12 ≤ v1
    · replace hf := (if_pos c1).symm.trans hf
      refine rs_icT i_X8_back_47 (ct_ge c1) (tg := 80) (by decide) ?_
      refine rs_aload_n i_X8_back_80 rfl ?_
      obtain ⟨c2, hf⟩ := ite_some hf
      refine rs_getI i_X8_back_81 (by decide) (by decide) c2 ?_
      have hf := Option.some.inj hf
      subst hf
      exact rs_iret i_X8_back_84 m_X8_back rfl
    · replace hf := (if_neg c1).symm.trans hf
      refine rs_icF i_X8_back_47 (cf_ge c1) ?_
      refine rs_aload_n i_X8_back_50 rfl ?_
      obtain ⟨c3, hf⟩ := ite_some hf
      obtain ⟨a4, e4, hf⟩ := bind_some hf
      refine rs_getR i_X8_back_51 (by decide) (by decide) c3 e4 ?_
      refine rs_iload_n i_X8_back_54 rfl ?_
      refine rs_aload_n i_X8_back_55 rfl ?_
      obtain ⟨a5, e5, hf⟩ := bind_some hf
      refine rs_getR i_X8_back_56 (by decide) (by decide) c3 e5 ?_
      refine rs_iload_n i_X8_back_59 rfl ?_
      obtain ⟨c6, hf⟩ := ite_some hf
      refine rs_iald i_X8_back_60 c6 ?_
      obtain ⟨c7, hf⟩ := ite_some hf
      refine rs_iast i_X8_back_61 c7 ?_
      exact r_X8_back_62 hd ih hf
def f_X8_back_34 (n : Nat) (v0 : Nat) (h : Hp) : Option (Int32 × Hp) :=
  if okO h v0 8 then
  f_X8_back_44 n n v0 0 (hsi h v0 14 (gI h v0 19))
  else none
set_option maxRecDepth 100000 in
set_option maxHeartbeats 4000000 in
theorem r_X8_back_34 {X : Nat → Int32} {d : Nat} (hd : 0 ≤ d) {n : Nat} {v0 : Nat} {h : Hp} {o : (Int32 × Hp)} (hf : f_X8_back_34 n v0 h = some o) : Run X d 212 34 [some (.ref v0), none] [] h (some (.int o.1), o.2) := by
  unfold f_X8_back_34 at hf
  refine rs_aload_n i_X8_back_34 rfl ?_
  refine rs_aload_n i_X8_back_35 rfl ?_
  obtain ⟨c1, hf⟩ := ite_some hf
  refine rs_getI i_X8_back_36 (by decide) (by decide) c1 ?_
  refine rs_putI i_X8_back_39 (by decide) c1 ?_
  refine rs_iconst i_X8_back_42 (v := 0) (by decide) ?_
  refine rs_istore_n i_X8_back_43 (Nat.le_of_ble_eq_true rfl) (lv' := [some (.ref v0), some (.int 0)]) rfl ?_
  exact r_X8_back_44 hd _ _ _ _ _ hf
def f_X8_back_26 (n : Nat) (v0 : Nat) (h : Hp) : Option (Int32 × Hp) :=
  if okO h v0 8 then
  f_X8_back_34 n v0 (hsi h v0 4 (gI h v0 18))
  else none
set_option maxRecDepth 100000 in
set_option maxHeartbeats 4000000 in
theorem r_X8_back_26 {X : Nat → Int32} {d : Nat} (hd : 0 ≤ d) {n : Nat} {v0 : Nat} {h : Hp} {o : (Int32 × Hp)} (hf : f_X8_back_26 n v0 h = some o) : Run X d 212 26 [some (.ref v0), none] [] h (some (.int o.1), o.2) := by
  unfold f_X8_back_26 at hf
  refine rs_aload_n i_X8_back_26 rfl ?_
  refine rs_aload_n i_X8_back_27 rfl ?_
  obtain ⟨c1, hf⟩ := ite_some hf
  refine rs_getI i_X8_back_28 (by decide) (by decide) c1 ?_
  refine rs_putI i_X8_back_31 (by decide) c1 ?_
  exact r_X8_back_34 hd hf
def f_X8_back_18 (n : Nat) (v0 : Nat) (h : Hp) : Option (Int32 × Hp) :=
  if okO h v0 8 then
  f_X8_back_26 n v0 (hsi h v0 3 (gI h v0 17))
  else none
set_option maxRecDepth 100000 in
set_option maxHeartbeats 4000000 in
theorem r_X8_back_18 {X : Nat → Int32} {d : Nat} (hd : 0 ≤ d) {n : Nat} {v0 : Nat} {h : Hp} {o : (Int32 × Hp)} (hf : f_X8_back_18 n v0 h = some o) : Run X d 212 18 [some (.ref v0), none] [] h (some (.int o.1), o.2) := by
  unfold f_X8_back_18 at hf
  refine rs_aload_n i_X8_back_18 rfl ?_
  refine rs_aload_n i_X8_back_19 rfl ?_
  obtain ⟨c1, hf⟩ := ite_some hf
  refine rs_getI i_X8_back_20 (by decide) (by decide) c1 ?_
  refine rs_putI i_X8_back_23 (by decide) c1 ?_
  exact r_X8_back_26 hd hf
def f_X8_back_0 (n : Nat) (v0 : Nat) (h : Hp) : Option (Int32 × Hp) :=
  if okO h v0 8 then
  if (gI h v0 15) ≠ 0 then
    f_X8_back_18 n v0 (hsi h v0 2 (gI h v0 16))
  else
    some ((-3), h)
  else none
set_option maxRecDepth 100000 in
set_option maxHeartbeats 4000000 in
theorem r_X8_back_0 {X : Nat → Int32} {d : Nat} (hd : 0 ≤ d) {n : Nat} {v0 : Nat} {h : Hp} {o : (Int32 × Hp)} (hf : f_X8_back_0 n v0 h = some o) : Run X d 212 0 [some (.ref v0), none] [] h (some (.int o.1), o.2) := by
  unfold f_X8_back_0 at hf
  refine rs_aload_n i_X8_back_0 rfl ?_
  obtain ⟨c1, hf⟩ := ite_some hf
  refine rs_getI i_X8_back_1 (by decide) (by decide) c1 ?_
  by_cases c2 : (gI h v0 15) ≠ 0
  · replace hf := (if_pos c2).symm.trans hf
    refine rs_ifT i_X8_back_4 (ct_ne c2) (tg := 10) (by decide) ?_
    refine rs_aload_n i_X8_back_10 rfl ?_
    refine rs_aload_n i_X8_back_11 rfl ?_
    refine rs_getI i_X8_back_12 (by decide) (by decide) c1 ?_
    refine rs_putI i_X8_back_15 (by decide) c1 ?_
    exact r_X8_back_18 hd hf
  · replace hf := (if_neg c2).symm.trans hf
    refine rs_ifF i_X8_back_4 (cf_ne c2) ?_
    refine rs_bipush i_X8_back_7 (v := (-3)) (by decide) ?_
    have hf := Option.some.inj hf
    subst hf
    exact rs_iret i_X8_back_9 m_X8_back rfl
def f_X8_back (n : Nat) (v0 : Nat) (h : Hp) : Option (Int32 × Hp) := f_X8_back_0 n v0 h
theorem c_X8_back {X : Nat → Int32} {d : Nat} (hd : 0 ≤ d) {n : Nat} {v0 : Nat} {h : Hp} {o : (Int32 × Hp)} (hf : f_X8_back n v0 h = some o) : Calls X d 212 [.ref v0] h (some (.int o.1), o.2) := by
  exact ⟨_, rfl, r_X8_back_0 hd hf⟩
theorem i_X8_sheet_0 : fetch 213 0 = some (.iload_n 1, 1, 0, 0, 0, 0) := by decide +kernel
theorem i_X8_sheet_1 : fetch 213 1 = some (.iconst 0, 2, 0, 0, 0, 0) := by decide +kernel
theorem i_X8_sheet_2 : fetch 213 2 = some (.iconst 3, 3, 0, 0, 0, 0) := by decide +kernel
theorem i_X8_sheet_3 : fetch 213 3 = some (.invokestatic 112, 6, 126, 0, 0, 970) := by decide +kernel
theorem i_X8_sheet_6 : fetch 213 6 = some (.ifCond .eq 23, 9, 0, 0, 0, 0) := by decide +kernel
theorem i_X8_sheet_9 : fetch 213 9 = some (.iload_n 2, 10, 0, 0, 0, 0) := by decide +kernel
theorem i_X8_sheet_10 : fetch 213 10 = some (.iconst (-1), 11, 0, 0, 0, 0) := by decide +kernel
theorem i_X8_sheet_11 : fetch 213 11 = some (.iconst 2, 12, 0, 0, 0, 0) := by decide +kernel
theorem i_X8_sheet_12 : fetch 213 12 = some (.invokestatic 112, 15, 126, 0, 0, 970) := by decide +kernel
theorem i_X8_sheet_15 : fetch 213 15 = some (.ifCond .eq 14, 18, 0, 0, 0, 0) := by decide +kernel
theorem i_X8_sheet_18 : fetch 213 18 = some (.iload_n 2, 19, 0, 0, 0, 0) := by decide +kernel
theorem i_X8_sheet_19 : fetch 213 19 = some (.iconst (-1), 20, 0, 0, 0, 0) := by decide +kernel
theorem i_X8_sheet_20 : fetch 213 20 = some (.if_icmp .eq 12, 23, 0, 0, 0, 0) := by decide +kernel
theorem i_X8_sheet_23 : fetch 213 23 = some (.iload_n 3, 24, 0, 0, 0, 0) := by decide +kernel
theorem i_X8_sheet_24 : fetch 213 24 = some (.bipush 40, 26, 0, 0, 0, 0) := by decide +kernel
theorem i_X8_sheet_26 : fetch 213 26 = some (.if_icmp .le 6, 29, 0, 0, 0, 0) := by decide +kernel
theorem i_X8_sheet_29 : fetch 213 29 = some (.bipush (-2), 31, 0, 0, 0, 0) := by decide +kernel
theorem i_X8_sheet_31 : fetch 213 31 = some (.ireturn, 32, 0, 0, 0, 0) := by decide +kernel
theorem i_X8_sheet_32 : fetch 213 32 = some (.iload_n 2, 33, 0, 0, 0, 0) := by decide +kernel
theorem i_X8_sheet_33 : fetch 213 33 = some (.iconst (-1), 34, 0, 0, 0, 0) := by decide +kernel
theorem i_X8_sheet_34 : fetch 213 34 = some (.if_icmp .eq 10, 37, 0, 0, 0, 0) := by decide +kernel
theorem i_X8_sheet_37 : fetch 213 37 = some (.iload_n 3, 38, 0, 0, 0, 0) := by decide +kernel
theorem i_X8_sheet_38 : fetch 213 38 = some (.ifCond .ge 6, 41, 0, 0, 0, 0) := by decide +kernel
theorem i_X8_sheet_41 : fetch 213 41 = some (.bipush (-14), 43, 0, 0, 0, 0) := by decide +kernel
theorem i_X8_sheet_43 : fetch 213 43 = some (.ireturn, 44, 0, 0, 0, 0) := by decide +kernel
theorem i_X8_sheet_44 : fetch 213 44 = some (.aload_n 0, 45, 0, 0, 0, 0) := by decide +kernel
theorem i_X8_sheet_45 : fetch 213 45 = some (.getfield 51, 48, 8, 22, 0, 1031) := by decide +kernel
theorem i_X8_sheet_48 : fetch 213 48 = some (.iload_n 1, 49, 0, 0, 0, 0) := by decide +kernel
theorem i_X8_sheet_49 : fetch 213 49 = some (.iload_n 2, 50, 0, 0, 0, 0) := by decide +kernel
theorem i_X8_sheet_50 : fetch 213 50 = some (.iastore, 51, 0, 0, 0, 0) := by decide +kernel
theorem i_X8_sheet_51 : fetch 213 51 = some (.aload_n 0, 52, 0, 0, 0, 0) := by decide +kernel
theorem i_X8_sheet_52 : fetch 213 52 = some (.getfield 54, 55, 8, 23, 0, 1032) := by decide +kernel
theorem i_X8_sheet_55 : fetch 213 55 = some (.iload_n 1, 56, 0, 0, 0, 0) := by decide +kernel
theorem i_X8_sheet_56 : fetch 213 56 = some (.iload_n 2, 57, 0, 0, 0, 0) := by decide +kernel
theorem i_X8_sheet_57 : fetch 213 57 = some (.iconst (-1), 58, 0, 0, 0, 0) := by decide +kernel
theorem i_X8_sheet_58 : fetch 213 58 = some (.if_icmp .ne 7, 61, 0, 0, 0, 0) := by decide +kernel
theorem i_X8_sheet_61 : fetch 213 61 = some (.iconst 0, 62, 0, 0, 0, 0) := by decide +kernel
theorem i_X8_sheet_62 : fetch 213 62 = some (.goto 4, 65, 0, 0, 0, 0) := by decide +kernel
theorem i_X8_sheet_65 : fetch 213 65 = some (.iload_n 3, 66, 0, 0, 0, 0) := by decide +kernel
theorem i_X8_sheet_66 : fetch 213 66 = some (.iastore, 67, 0, 0, 0, 0) := by decide +kernel
theorem i_X8_sheet_67 : fetch 213 67 = some (.iconst 0, 68, 0, 0, 0, 0) := by decide +kernel
theorem i_X8_sheet_68 : fetch 213 68 = some (.istore 4, 70, 0, 0, 0, 0) := by decide +kernel
theorem i_X8_sheet_70 : fetch 213 70 = some (.iload 4, 72, 0, 0, 0, 0) := by decide +kernel
theorem i_X8_sheet_72 : fetch 213 72 = some (.bipush 40, 74, 0, 0, 0, 0) := by decide +kernel
theorem i_X8_sheet_74 : fetch 213 74 = some (.if_icmp .ge 22, 77, 0, 0, 0, 0) := by decide +kernel
theorem i_X8_sheet_77 : fetch 213 77 = some (.aload_n 0, 78, 0, 0, 0, 0) := by decide +kernel
theorem i_X8_sheet_78 : fetch 213 78 = some (.getfield 57, 81, 8, 24, 0, 1033) := by decide +kernel
theorem i_X8_sheet_81 : fetch 213 81 = some (.bipush 40, 83, 0, 0, 0, 0) := by decide +kernel
theorem i_X8_sheet_83 : fetch 213 83 = some (.iload_n 1, 84, 0, 0, 0, 0) := by decide +kernel
theorem i_X8_sheet_84 : fetch 213 84 = some (.imul, 85, 0, 0, 0, 0) := by decide +kernel
theorem i_X8_sheet_85 : fetch 213 85 = some (.iload 4, 87, 0, 0, 0, 0) := by decide +kernel
theorem i_X8_sheet_87 : fetch 213 87 = some (.iadd, 88, 0, 0, 0, 0) := by decide +kernel
theorem i_X8_sheet_88 : fetch 213 88 = some (.iconst 0, 89, 0, 0, 0, 0) := by decide +kernel
theorem i_X8_sheet_89 : fetch 213 89 = some (.iastore, 90, 0, 0, 0, 0) := by decide +kernel
theorem i_X8_sheet_90 : fetch 213 90 = some (.iinc 4 1, 93, 0, 0, 0, 0) := by decide +kernel
theorem i_X8_sheet_93 : fetch 213 93 = some (.goto (-23), 96, 0, 0, 0, 0) := by decide +kernel
theorem i_X8_sheet_96 : fetch 213 96 = some (.iconst 1, 97, 0, 0, 0, 0) := by decide +kernel
theorem i_X8_sheet_97 : fetch 213 97 = some (.ireturn, 98, 0, 0, 0, 0) := by decide +kernel
def f_X8_sheet_70 (n : Nat) : Nat → Nat → Int32 → Int32 → Hp → Option (Int32 × Hp)
  | 0, _, _, _, _ => none
  | m + 1, v0, v1, v4, h =>
    if 40 ≤ v4 then
      some (1, h)
    else
      if okO h v0 8 then
      (gR h v0 24).bind fun a3 =>
      if okI h a3 ((40 * v1) + v4) then
      (f_X8_sheet_70 n m) v0 v1 (v4 + 1) (hsi h a3 (ix ((40 * v1) + v4)) 0)
      else none
      else none
set_option maxRecDepth 100000 in
set_option maxHeartbeats 4000000 in
theorem r_X8_sheet_70 {X : Nat → Int32} {d : Nat} (hd : 1 ≤ (d + 1)) {n : Nat} : ∀ (m : Nat) (v0 : Nat) (v1 : Int32) (v4 : Int32) (d2 : Int32) (d3 : Int32) (h : Hp) (o : (Int32 × Hp)), f_X8_sheet_70 n m v0 v1 v4 h = some o → Run X (d + 1) 213 70 [some (.ref v0), some (.int v1), some (.int d2), some (.int d3), some (.int v4)] [] h (some (.int o.1), o.2) := by
  intro m
  induction m with
  | zero => intro v0 v1 v4 d2 d3 h o hf; cases hf
  | succ m ih =>
    intro v0 v1 v4 d2 d3 h o hf
    rw [f_X8_sheet_70] at hf
    refine rs_iload i_X8_sheet_70 rfl ?_
    refine rs_bipush i_X8_sheet_72 (v := 40) (by decide) ?_
    by_cases c1 : 40 ≤ v4
    · replace hf := (if_pos c1).symm.trans hf
      refine rs_icT i_X8_sheet_74 (ct_ge c1) (tg := 96) (by decide) ?_
      refine rs_iconst i_X8_sheet_96 (v := 1) (by decide) ?_
      have hf := Option.some.inj hf
      subst hf
      exact rs_iret i_X8_sheet_97 m_X8_sheet rfl
    · replace hf := (if_neg c1).symm.trans hf
      refine rs_icF i_X8_sheet_74 (cf_ge c1) ?_
      refine rs_aload_n i_X8_sheet_77 rfl ?_
      obtain ⟨c2, hf⟩ := ite_some hf
      obtain ⟨a3, e3, hf⟩ := bind_some hf
      refine rs_getR i_X8_sheet_78 (by decide) (by decide) c2 e3 ?_
      refine rs_bipush i_X8_sheet_81 (v := 40) (by decide) ?_
      refine rs_iload_n i_X8_sheet_83 rfl ?_
      refine rs_imul i_X8_sheet_84 ?_
      refine rs_iload i_X8_sheet_85 rfl ?_
      refine rs_iadd i_X8_sheet_87 ?_
      refine rs_iconst i_X8_sheet_88 (v := 0) (by decide) ?_
      obtain ⟨c4, hf⟩ := ite_some hf
      refine rs_iast i_X8_sheet_89 c4 ?_
      refine rs_iinc i_X8_sheet_90 rfl (v := v4 + 1) rfl (Nat.le_of_ble_eq_true rfl) (lv' := [some (.ref v0), some (.int v1), some (.int d2), some (.int d3), some (.int (v4 + 1))]) rfl ?_
      refine rs_goto i_X8_sheet_93 (tg := 70) (by decide) ?_
      exact ih _ _ _ _ _ _ _ hf
def f_X8_sheet_66 (n : Nat) (v0 : Nat) (v1 : Int32) (s0 : Nat) (s1 : Int32) (s2 : Int32) (h : Hp) : Option (Int32 × Hp) :=
  if okI h s0 s1 then
  f_X8_sheet_70 n n v0 v1 0 (hsi h s0 (ix s1) s2)
  else none
set_option maxRecDepth 100000 in
set_option maxHeartbeats 4000000 in
theorem r_X8_sheet_66 {X : Nat → Int32} {d : Nat} (hd : 1 ≤ (d + 1)) {n : Nat} {v0 : Nat} {v1 : Int32} {s0 : Nat} {s1 : Int32} {s2 : Int32} {d2 : Int32} {d3 : Int32} {h : Hp} {o : (Int32 × Hp)} (hf : f_X8_sheet_66 n v0 v1 s0 s1 s2 h = some o) : Run X (d + 1) 213 66 [some (.ref v0), some (.int v1), some (.int d2), some (.int d3), none] [.int s2, .int s1, .ref s0] h (some (.int o.1), o.2) := by
  unfold f_X8_sheet_66 at hf
  obtain ⟨c1, hf⟩ := ite_some hf
  refine rs_iast i_X8_sheet_66 c1 ?_
  refine rs_iconst i_X8_sheet_67 (v := 0) (by decide) ?_
  refine rs_istore i_X8_sheet_68 (Nat.le_of_ble_eq_true rfl) (lv' := [some (.ref v0), some (.int v1), some (.int d2), some (.int d3), some (.int 0)]) rfl ?_
  exact r_X8_sheet_70 hd _ _ _ _ _ _ _ _ hf
def f_X8_sheet_51 (n : Nat) (v0 : Nat) (v1 : Int32) (v2 : Int32) (v3 : Int32) (h : Hp) : Option (Int32 × Hp) :=
  if okO h v0 8 then
  (gR h v0 23).bind fun a2 =>
  if v2 ≠ (-1) then
    f_X8_sheet_66 n v0 v1 a2 v1 v3 h
  else
    f_X8_sheet_66 n v0 v1 a2 v1 0 h
  else none
set_option maxRecDepth 100000 in
set_option maxHeartbeats 4000000 in
theorem r_X8_sheet_51 {X : Nat → Int32} {d : Nat} (hd : 1 ≤ (d + 1)) {n : Nat} {v0 : Nat} {v1 : Int32} {v2 : Int32} {v3 : Int32} {h : Hp} {o : (Int32 × Hp)} (hf : f_X8_sheet_51 n v0 v1 v2 v3 h = some o) : Run X (d + 1) 213 51 [some (.ref v0), some (.int v1), some (.int v2), some (.int v3), none] [] h (some (.int o.1), o.2) := by
  unfold f_X8_sheet_51 at hf
  refine rs_aload_n i_X8_sheet_51 rfl ?_
  obtain ⟨c1, hf⟩ := ite_some hf
  obtain ⟨a2, e2, hf⟩ := bind_some hf
  refine rs_getR i_X8_sheet_52 (by decide) (by decide) c1 e2 ?_
  refine rs_iload_n i_X8_sheet_55 rfl ?_
  refine rs_iload_n i_X8_sheet_56 rfl ?_
  refine rs_iconst i_X8_sheet_57 (v := (-1)) (by decide) ?_
  by_cases c3 : v2 ≠ (-1)
  · replace hf := (if_pos c3).symm.trans hf
    refine rs_icT i_X8_sheet_58 (ct_ne c3) (tg := 65) (by decide) ?_
    refine rs_iload_n i_X8_sheet_65 rfl ?_
    exact r_X8_sheet_66 hd hf
  · replace hf := (if_neg c3).symm.trans hf
    refine rs_icF i_X8_sheet_58 (cf_ne c3) ?_
    refine rs_iconst i_X8_sheet_61 (v := 0) (by decide) ?_
    refine rs_goto i_X8_sheet_62 (tg := 66) (by decide) ?_
    exact r_X8_sheet_66 hd hf
def f_X8_sheet_44 (n : Nat) (v0 : Nat) (v1 : Int32) (v2 : Int32) (v3 : Int32) (h : Hp) : Option (Int32 × Hp) :=
  if okO h v0 8 then
  (gR h v0 22).bind fun a2 =>
  if okI h a2 v1 then
  f_X8_sheet_51 n v0 v1 v2 v3 (hsi h a2 (ix v1) v2)
  else none
  else none
set_option maxRecDepth 100000 in
set_option maxHeartbeats 4000000 in
theorem r_X8_sheet_44 {X : Nat → Int32} {d : Nat} (hd : 1 ≤ (d + 1)) {n : Nat} {v0 : Nat} {v1 : Int32} {v2 : Int32} {v3 : Int32} {h : Hp} {o : (Int32 × Hp)} (hf : f_X8_sheet_44 n v0 v1 v2 v3 h = some o) : Run X (d + 1) 213 44 [some (.ref v0), some (.int v1), some (.int v2), some (.int v3), none] [] h (some (.int o.1), o.2) := by
  unfold f_X8_sheet_44 at hf
  refine rs_aload_n i_X8_sheet_44 rfl ?_
  obtain ⟨c1, hf⟩ := ite_some hf
  obtain ⟨a2, e2, hf⟩ := bind_some hf
  refine rs_getR i_X8_sheet_45 (by decide) (by decide) c1 e2 ?_
  refine rs_iload_n i_X8_sheet_48 rfl ?_
  refine rs_iload_n i_X8_sheet_49 rfl ?_
  obtain ⟨c3, hf⟩ := ite_some hf
  refine rs_iast i_X8_sheet_50 c3 ?_
  exact r_X8_sheet_51 hd hf
def f_X8_sheet_32 (n : Nat) (v0 : Nat) (v1 : Int32) (v2 : Int32) (v3 : Int32) (h : Hp) : Option (Int32 × Hp) :=
  if v2 = (-1) then
    f_X8_sheet_44 n v0 v1 v2 v3 h
  else
    if 0 ≤ v3 then
      f_X8_sheet_44 n v0 v1 v2 v3 h
    else
      some ((-14), h)
set_option maxRecDepth 100000 in
set_option maxHeartbeats 4000000 in
theorem r_X8_sheet_32 {X : Nat → Int32} {d : Nat} (hd : 1 ≤ (d + 1)) {n : Nat} {v0 : Nat} {v1 : Int32} {v2 : Int32} {v3 : Int32} {h : Hp} {o : (Int32 × Hp)} (hf : f_X8_sheet_32 n v0 v1 v2 v3 h = some o) : Run X (d + 1) 213 32 [some (.ref v0), some (.int v1), some (.int v2), some (.int v3), none] [] h (some (.int o.1), o.2) := by
  unfold f_X8_sheet_32 at hf
  refine rs_iload_n i_X8_sheet_32 rfl ?_
  refine rs_iconst i_X8_sheet_33 (v := (-1)) (by decide) ?_
  by_cases c1 : v2 = (-1)
  · replace hf := (if_pos c1).symm.trans hf
    refine rs_icT i_X8_sheet_34 (ct_eq c1) (tg := 44) (by decide) ?_
    exact r_X8_sheet_44 hd hf
  · replace hf := (if_neg c1).symm.trans hf
    refine rs_icF i_X8_sheet_34 (cf_eq c1) ?_
    refine rs_iload_n i_X8_sheet_37 rfl ?_
    by_cases c2 : 0 ≤ v3
    · replace hf := (if_pos c2).symm.trans hf
      refine rs_ifT i_X8_sheet_38 (ct_ge c2) (tg := 44) (by decide) ?_
      exact r_X8_sheet_44 hd hf
    · replace hf := (if_neg c2).symm.trans hf
      refine rs_ifF i_X8_sheet_38 (cf_ge c2) ?_
      refine rs_bipush i_X8_sheet_41 (v := (-14)) (by decide) ?_
      have hf := Option.some.inj hf
      subst hf
      exact rs_iret i_X8_sheet_43 m_X8_sheet rfl
def f_X8_sheet_0 (n : Nat) (v0 : Nat) (v1 : Int32) (v2 : Int32) (v3 : Int32) (h : Hp) : Option (Int32 × Hp) :=
  (f_X8_in v1 0 3 h).bind fun o1 =>
  if o1.1 = 0 then
    some ((-2), o1.2)
  else
    (f_X8_in v2 (-1) 2 o1.2).bind fun o3 =>
    if o3.1 = 0 then
      some ((-2), o3.2)
    else
      if v2 = (-1) then
        f_X8_sheet_32 n v0 v1 v2 v3 o3.2
      else
        if v3 ≤ 40 then
          f_X8_sheet_32 n v0 v1 v2 v3 o3.2
        else
          some ((-2), o3.2)
set_option maxRecDepth 100000 in
set_option maxHeartbeats 4000000 in
theorem r_X8_sheet_0 {X : Nat → Int32} {d : Nat} (hd : 1 ≤ (d + 1)) {n : Nat} {v0 : Nat} {v1 : Int32} {v2 : Int32} {v3 : Int32} {h : Hp} {o : (Int32 × Hp)} (hf : f_X8_sheet_0 n v0 v1 v2 v3 h = some o) : Run X (d + 1) 213 0 [some (.ref v0), some (.int v1), some (.int v2), some (.int v3), none] [] h (some (.int o.1), o.2) := by
  unfold f_X8_sheet_0 at hf
  refine rs_iload_n i_X8_sheet_0 rfl ?_
  refine rs_iconst i_X8_sheet_1 (v := 0) (by decide) ?_
  refine rs_iconst i_X8_sheet_2 (v := 3) (by decide) ?_
  obtain ⟨o1, e1, hf⟩ := bind_some hf
  refine rs_inS i_X8_sheet_3 (by decide) m_X8_in rfl (As := [.int v1, .int 0, .int 3]) (rest := []) rfl rfl (Nat.le_of_ble_eq_true rfl) (c_X8_in (by omega) e1) (st' := [.int o1.1]) rfl ?_
  by_cases c2 : o1.1 = 0
  · replace hf := (if_pos c2).symm.trans hf
    refine rs_ifT i_X8_sheet_6 (ct_eq c2) (tg := 29) (by decide) ?_
    refine rs_bipush i_X8_sheet_29 (v := (-2)) (by decide) ?_
    have hf := Option.some.inj hf
    subst hf
    exact rs_iret i_X8_sheet_31 m_X8_sheet rfl
  · replace hf := (if_neg c2).symm.trans hf
    refine rs_ifF i_X8_sheet_6 (cf_eq c2) ?_
    refine rs_iload_n i_X8_sheet_9 rfl ?_
    refine rs_iconst i_X8_sheet_10 (v := (-1)) (by decide) ?_
    refine rs_iconst i_X8_sheet_11 (v := 2) (by decide) ?_
    obtain ⟨o3, e3, hf⟩ := bind_some hf
    refine rs_inS i_X8_sheet_12 (by decide) m_X8_in rfl (As := [.int v2, .int (-1), .int 2]) (rest := []) rfl rfl (Nat.le_of_ble_eq_true rfl) (c_X8_in (by omega) e3) (st' := [.int o3.1]) rfl ?_
    by_cases c4 : o3.1 = 0
    · replace hf := (if_pos c4).symm.trans hf
      refine rs_ifT i_X8_sheet_15 (ct_eq c4) (tg := 29) (by decide) ?_
      refine rs_bipush i_X8_sheet_29 (v := (-2)) (by decide) ?_
      have hf := Option.some.inj hf
      subst hf
      exact rs_iret i_X8_sheet_31 m_X8_sheet rfl
    · replace hf := (if_neg c4).symm.trans hf
      refine rs_ifF i_X8_sheet_15 (cf_eq c4) ?_
      refine rs_iload_n i_X8_sheet_18 rfl ?_
      refine rs_iconst i_X8_sheet_19 (v := (-1)) (by decide) ?_
      by_cases c5 : v2 = (-1)
      · replace hf := (if_pos c5).symm.trans hf
        refine rs_icT i_X8_sheet_20 (ct_eq c5) (tg := 32) (by decide) ?_
        exact r_X8_sheet_32 hd hf
      · replace hf := (if_neg c5).symm.trans hf
        refine rs_icF i_X8_sheet_20 (cf_eq c5) ?_
        refine rs_iload_n i_X8_sheet_23 rfl ?_
        refine rs_bipush i_X8_sheet_24 (v := 40) (by decide) ?_
        by_cases c6 : v3 ≤ 40
        · replace hf := (if_pos c6).symm.trans hf
          refine rs_icT i_X8_sheet_26 (ct_le c6) (tg := 32) (by decide) ?_
          exact r_X8_sheet_32 hd hf
        · replace hf := (if_neg c6).symm.trans hf
          refine rs_icF i_X8_sheet_26 (cf_le c6) ?_
          refine rs_bipush i_X8_sheet_29 (v := (-2)) (by decide) ?_
          have hf := Option.some.inj hf
          subst hf
          exact rs_iret i_X8_sheet_31 m_X8_sheet rfl
def f_X8_sheet (n : Nat) (v0 : Nat) (v1 : Int32) (v2 : Int32) (v3 : Int32) (h : Hp) : Option (Int32 × Hp) := f_X8_sheet_0 n v0 v1 v2 v3 h
theorem c_X8_sheet {X : Nat → Int32} {d : Nat} (hd : 1 ≤ d) {n : Nat} {v0 : Nat} {v1 : Int32} {v2 : Int32} {v3 : Int32} {h : Hp} {o : (Int32 × Hp)} (hf : f_X8_sheet n v0 v1 v2 v3 h = some o) : Calls X d 213 [.ref v0, .int v1, .int v2, .int v3] h (some (.int o.1), o.2) := by
  obtain ⟨d, rfl⟩ : ∃ z, d = z + 1 := ⟨d - 1, by omega⟩
  exact ⟨_, rfl, r_X8_sheet_0 hd hf⟩
theorem i_X8_cell_0 : fetch 214 0 = some (.iload_n 1, 1, 0, 0, 0, 0) := by decide +kernel
theorem i_X8_cell_1 : fetch 214 1 = some (.iconst 0, 2, 0, 0, 0, 0) := by decide +kernel
theorem i_X8_cell_2 : fetch 214 2 = some (.iconst 3, 3, 0, 0, 0, 0) := by decide +kernel
theorem i_X8_cell_3 : fetch 214 3 = some (.invokestatic 112, 6, 126, 0, 0, 970) := by decide +kernel
theorem i_X8_cell_6 : fetch 214 6 = some (.ifCond .ne 6, 9, 0, 0, 0, 0) := by decide +kernel
theorem i_X8_cell_9 : fetch 214 9 = some (.bipush (-2), 11, 0, 0, 0, 0) := by decide +kernel
theorem i_X8_cell_11 : fetch 214 11 = some (.ireturn, 12, 0, 0, 0, 0) := by decide +kernel
theorem i_X8_cell_12 : fetch 214 12 = some (.aload_n 0, 13, 0, 0, 0, 0) := by decide +kernel
theorem i_X8_cell_13 : fetch 214 13 = some (.getfield 51, 16, 8, 22, 0, 1031) := by decide +kernel
theorem i_X8_cell_16 : fetch 214 16 = some (.iload_n 1, 17, 0, 0, 0, 0) := by decide +kernel
theorem i_X8_cell_17 : fetch 214 17 = some (.iaload, 18, 0, 0, 0, 0) := by decide +kernel
theorem i_X8_cell_18 : fetch 214 18 = some (.iconst (-1), 19, 0, 0, 0, 0) := by decide +kernel
theorem i_X8_cell_19 : fetch 214 19 = some (.if_icmp .ne 6, 22, 0, 0, 0, 0) := by decide +kernel
theorem i_X8_cell_22 : fetch 214 22 = some (.bipush (-11), 24, 0, 0, 0, 0) := by decide +kernel
theorem i_X8_cell_24 : fetch 214 24 = some (.ireturn, 25, 0, 0, 0, 0) := by decide +kernel
theorem i_X8_cell_25 : fetch 214 25 = some (.iload_n 2, 26, 0, 0, 0, 0) := by decide +kernel
theorem i_X8_cell_26 : fetch 214 26 = some (.iconst 0, 27, 0, 0, 0, 0) := by decide +kernel
theorem i_X8_cell_27 : fetch 214 27 = some (.aload_n 0, 28, 0, 0, 0, 0) := by decide +kernel
theorem i_X8_cell_28 : fetch 214 28 = some (.getfield 54, 31, 8, 23, 0, 1032) := by decide +kernel
theorem i_X8_cell_31 : fetch 214 31 = some (.iload_n 1, 32, 0, 0, 0, 0) := by decide +kernel
theorem i_X8_cell_32 : fetch 214 32 = some (.iaload, 33, 0, 0, 0, 0) := by decide +kernel
theorem i_X8_cell_33 : fetch 214 33 = some (.iconst 1, 34, 0, 0, 0, 0) := by decide +kernel
theorem i_X8_cell_34 : fetch 214 34 = some (.isub, 35, 0, 0, 0, 0) := by decide +kernel
theorem i_X8_cell_35 : fetch 214 35 = some (.invokestatic 112, 38, 126, 0, 0, 970) := by decide +kernel
theorem i_X8_cell_38 : fetch 214 38 = some (.ifCond .ne 6, 41, 0, 0, 0, 0) := by decide +kernel
theorem i_X8_cell_41 : fetch 214 41 = some (.bipush (-12), 43, 0, 0, 0, 0) := by decide +kernel
theorem i_X8_cell_43 : fetch 214 43 = some (.ireturn, 44, 0, 0, 0, 0) := by decide +kernel
theorem i_X8_cell_44 : fetch 214 44 = some (.aload_n 0, 45, 0, 0, 0, 0) := by decide +kernel
theorem i_X8_cell_45 : fetch 214 45 = some (.getfield 57, 48, 8, 24, 0, 1033) := by decide +kernel
theorem i_X8_cell_48 : fetch 214 48 = some (.bipush 40, 50, 0, 0, 0, 0) := by decide +kernel
theorem i_X8_cell_50 : fetch 214 50 = some (.iload_n 1, 51, 0, 0, 0, 0) := by decide +kernel
theorem i_X8_cell_51 : fetch 214 51 = some (.imul, 52, 0, 0, 0, 0) := by decide +kernel
theorem i_X8_cell_52 : fetch 214 52 = some (.iload_n 2, 53, 0, 0, 0, 0) := by decide +kernel
theorem i_X8_cell_53 : fetch 214 53 = some (.iadd, 54, 0, 0, 0, 0) := by decide +kernel
theorem i_X8_cell_54 : fetch 214 54 = some (.aload_n 0, 55, 0, 0, 0, 0) := by decide +kernel
theorem i_X8_cell_55 : fetch 214 55 = some (.getfield 51, 58, 8, 22, 0, 1031) := by decide +kernel
theorem i_X8_cell_58 : fetch 214 58 = some (.iload_n 1, 59, 0, 0, 0, 0) := by decide +kernel
theorem i_X8_cell_59 : fetch 214 59 = some (.iaload, 60, 0, 0, 0, 0) := by decide +kernel
theorem i_X8_cell_60 : fetch 214 60 = some (.ifCond .ne 8, 63, 0, 0, 0, 0) := by decide +kernel
theorem i_X8_cell_63 : fetch 214 63 = some (.iload_n 3, 64, 0, 0, 0, 0) := by decide +kernel
theorem i_X8_cell_64 : fetch 214 64 = some (.i2b, 65, 0, 0, 0, 0) := by decide +kernel
theorem i_X8_cell_65 : fetch 214 65 = some (.goto 19, 68, 0, 0, 0, 0) := by decide +kernel
theorem i_X8_cell_68 : fetch 214 68 = some (.aload_n 0, 69, 0, 0, 0, 0) := by decide +kernel
theorem i_X8_cell_69 : fetch 214 69 = some (.getfield 51, 72, 8, 22, 0, 1031) := by decide +kernel
theorem i_X8_cell_72 : fetch 214 72 = some (.iload_n 1, 73, 0, 0, 0, 0) := by decide +kernel
theorem i_X8_cell_73 : fetch 214 73 = some (.iaload, 74, 0, 0, 0, 0) := by decide +kernel
theorem i_X8_cell_74 : fetch 214 74 = some (.iconst 1, 75, 0, 0, 0, 0) := by decide +kernel
theorem i_X8_cell_75 : fetch 214 75 = some (.if_icmp .ne 8, 78, 0, 0, 0, 0) := by decide +kernel
theorem i_X8_cell_78 : fetch 214 78 = some (.iload_n 3, 79, 0, 0, 0, 0) := by decide +kernel
theorem i_X8_cell_79 : fetch 214 79 = some (.i2s, 80, 0, 0, 0, 0) := by decide +kernel
theorem i_X8_cell_80 : fetch 214 80 = some (.goto 4, 83, 0, 0, 0, 0) := by decide +kernel
theorem i_X8_cell_83 : fetch 214 83 = some (.iload_n 3, 84, 0, 0, 0, 0) := by decide +kernel
theorem i_X8_cell_84 : fetch 214 84 = some (.iastore, 85, 0, 0, 0, 0) := by decide +kernel
theorem i_X8_cell_85 : fetch 214 85 = some (.iconst 1, 86, 0, 0, 0, 0) := by decide +kernel
theorem i_X8_cell_86 : fetch 214 86 = some (.ireturn, 87, 0, 0, 0, 0) := by decide +kernel
def f_X8_cell_84 (s0 : Nat) (s1 : Int32) (s2 : Int32) (h : Hp) : Option (Int32 × Hp) :=
  if okI h s0 s1 then
  some (1, (hsi h s0 (ix s1) s2))
  else none
set_option maxRecDepth 100000 in
set_option maxHeartbeats 4000000 in
theorem r_X8_cell_84 {X : Nat → Int32} {d : Nat} (hd : 1 ≤ (d + 1)) {s0 : Nat} {s1 : Int32} {s2 : Int32} {d0 : Nat} {d1 : Int32} {d2 : Int32} {d3 : Int32} {h : Hp} {o : (Int32 × Hp)} (hf : f_X8_cell_84 s0 s1 s2 h = some o) : Run X (d + 1) 214 84 [some (.ref d0), some (.int d1), some (.int d2), some (.int d3)] [.int s2, .int s1, .ref s0] h (some (.int o.1), o.2) := by
  unfold f_X8_cell_84 at hf
  obtain ⟨c1, hf⟩ := ite_some hf
  refine rs_iast i_X8_cell_84 c1 ?_
  refine rs_iconst i_X8_cell_85 (v := 1) (by decide) ?_
  have hf := Option.some.inj hf
  subst hf
  exact rs_iret i_X8_cell_86 m_X8_cell rfl
def f_X8_cell_0 (v0 : Nat) (v1 : Int32) (v2 : Int32) (v3 : Int32) (h : Hp) : Option (Int32 × Hp) :=
  (f_X8_in v1 0 3 h).bind fun o1 =>
  if o1.1 ≠ 0 then
    if okO o1.2 v0 8 then
    (gR o1.2 v0 22).bind fun a4 =>
    if okI o1.2 a4 v1 then
    if (gI o1.2 a4 (ix v1)) ≠ (-1) then
      (gR o1.2 v0 23).bind fun a7 =>
      if okI o1.2 a7 v1 then
      (f_X8_in v2 0 ((gI o1.2 a7 (ix v1)) - 1) o1.2).bind fun o9 =>
      if o9.1 ≠ 0 then
        if okO o9.2 v0 8 then
        (gR o9.2 v0 24).bind fun a12 =>
        (gR o9.2 v0 22).bind fun a13 =>
        if okI o9.2 a13 v1 then
        if (gI o9.2 a13 (ix v1)) ≠ 0 then
          if (gI o9.2 a13 (ix v1)) ≠ 1 then
            f_X8_cell_84 a12 ((40 * v1) + v2) v3 o9.2
          else
            f_X8_cell_84 a12 ((40 * v1) + v2) ((Int32.toInt16 v3).toInt32) o9.2
        else
          f_X8_cell_84 a12 ((40 * v1) + v2) ((Int32.toInt8 v3).toInt32) o9.2
        else none
        else none
      else
        some ((-12), o9.2)
      else none
    else
      some ((-11), o1.2)
    else none
    else none
  else
    some ((-2), o1.2)
set_option maxRecDepth 100000 in
set_option maxHeartbeats 4000000 in
theorem r_X8_cell_0 {X : Nat → Int32} {d : Nat} (hd : 1 ≤ (d + 1)) {v0 : Nat} {v1 : Int32} {v2 : Int32} {v3 : Int32} {h : Hp} {o : (Int32 × Hp)} (hf : f_X8_cell_0 v0 v1 v2 v3 h = some o) : Run X (d + 1) 214 0 [some (.ref v0), some (.int v1), some (.int v2), some (.int v3)] [] h (some (.int o.1), o.2) := by
  unfold f_X8_cell_0 at hf
  refine rs_iload_n i_X8_cell_0 rfl ?_
  refine rs_iconst i_X8_cell_1 (v := 0) (by decide) ?_
  refine rs_iconst i_X8_cell_2 (v := 3) (by decide) ?_
  obtain ⟨o1, e1, hf⟩ := bind_some hf
  refine rs_inS i_X8_cell_3 (by decide) m_X8_in rfl (As := [.int v1, .int 0, .int 3]) (rest := []) rfl rfl (Nat.le_of_ble_eq_true rfl) (c_X8_in (by omega) e1) (st' := [.int o1.1]) rfl ?_
  by_cases c2 : o1.1 ≠ 0
  · replace hf := (if_pos c2).symm.trans hf
    refine rs_ifT i_X8_cell_6 (ct_ne c2) (tg := 12) (by decide) ?_
    refine rs_aload_n i_X8_cell_12 rfl ?_
    obtain ⟨c3, hf⟩ := ite_some hf
    obtain ⟨a4, e4, hf⟩ := bind_some hf
    refine rs_getR i_X8_cell_13 (by decide) (by decide) c3 e4 ?_
    refine rs_iload_n i_X8_cell_16 rfl ?_
    obtain ⟨c5, hf⟩ := ite_some hf
    refine rs_iald i_X8_cell_17 c5 ?_
    refine rs_iconst i_X8_cell_18 (v := (-1)) (by decide) ?_
    by_cases c6 : (gI o1.2 a4 (ix v1)) ≠ (-1)
    · replace hf := (if_pos c6).symm.trans hf
      refine rs_icT i_X8_cell_19 (ct_ne c6) (tg := 25) (by decide) ?_
      refine rs_iload_n i_X8_cell_25 rfl ?_
      refine rs_iconst i_X8_cell_26 (v := 0) (by decide) ?_
      refine rs_aload_n i_X8_cell_27 rfl ?_
      obtain ⟨a7, e7, hf⟩ := bind_some hf
      refine rs_getR i_X8_cell_28 (by decide) (by decide) c3 e7 ?_
      refine rs_iload_n i_X8_cell_31 rfl ?_
      obtain ⟨c8, hf⟩ := ite_some hf
      refine rs_iald i_X8_cell_32 c8 ?_
      refine rs_iconst i_X8_cell_33 (v := 1) (by decide) ?_
      refine rs_isub i_X8_cell_34 ?_
      obtain ⟨o9, e9, hf⟩ := bind_some hf
      refine rs_inS i_X8_cell_35 (by decide) m_X8_in rfl (As := [.int v2, .int 0, .int ((gI o1.2 a7 (ix v1)) - 1)]) (rest := []) rfl rfl (Nat.le_of_ble_eq_true rfl) (c_X8_in (by omega) e9) (st' := [.int o9.1]) rfl ?_
      by_cases c10 : o9.1 ≠ 0
      · replace hf := (if_pos c10).symm.trans hf
        refine rs_ifT i_X8_cell_38 (ct_ne c10) (tg := 44) (by decide) ?_
        refine rs_aload_n i_X8_cell_44 rfl ?_
        obtain ⟨c11, hf⟩ := ite_some hf
        obtain ⟨a12, e12, hf⟩ := bind_some hf
        refine rs_getR i_X8_cell_45 (by decide) (by decide) c11 e12 ?_
        refine rs_bipush i_X8_cell_48 (v := 40) (by decide) ?_
        refine rs_iload_n i_X8_cell_50 rfl ?_
        refine rs_imul i_X8_cell_51 ?_
        refine rs_iload_n i_X8_cell_52 rfl ?_
        refine rs_iadd i_X8_cell_53 ?_
        refine rs_aload_n i_X8_cell_54 rfl ?_
        obtain ⟨a13, e13, hf⟩ := bind_some hf
        refine rs_getR i_X8_cell_55 (by decide) (by decide) c11 e13 ?_
        refine rs_iload_n i_X8_cell_58 rfl ?_
        obtain ⟨c14, hf⟩ := ite_some hf
        refine rs_iald i_X8_cell_59 c14 ?_
        by_cases c15 : (gI o9.2 a13 (ix v1)) ≠ 0
        · replace hf := (if_pos c15).symm.trans hf
          refine rs_ifT i_X8_cell_60 (ct_ne c15) (tg := 68) (by decide) ?_
          refine rs_aload_n i_X8_cell_68 rfl ?_
          refine rs_getR i_X8_cell_69 (by decide) (by decide) c11 e13 ?_
          refine rs_iload_n i_X8_cell_72 rfl ?_
          refine rs_iald i_X8_cell_73 c14 ?_
          refine rs_iconst i_X8_cell_74 (v := 1) (by decide) ?_
          by_cases c16 : (gI o9.2 a13 (ix v1)) ≠ 1
          · replace hf := (if_pos c16).symm.trans hf
            refine rs_icT i_X8_cell_75 (ct_ne c16) (tg := 83) (by decide) ?_
            refine rs_iload_n i_X8_cell_83 rfl ?_
            exact r_X8_cell_84 hd hf
          · replace hf := (if_neg c16).symm.trans hf
            refine rs_icF i_X8_cell_75 (cf_ne c16) ?_
            refine rs_iload_n i_X8_cell_78 rfl ?_
            refine rs_i2s i_X8_cell_79 ?_
            refine rs_goto i_X8_cell_80 (tg := 84) (by decide) ?_
            exact r_X8_cell_84 hd hf
        · replace hf := (if_neg c15).symm.trans hf
          refine rs_ifF i_X8_cell_60 (cf_ne c15) ?_
          refine rs_iload_n i_X8_cell_63 rfl ?_
          refine rs_i2b i_X8_cell_64 ?_
          refine rs_goto i_X8_cell_65 (tg := 84) (by decide) ?_
          exact r_X8_cell_84 hd hf
      · replace hf := (if_neg c10).symm.trans hf
        refine rs_ifF i_X8_cell_38 (cf_ne c10) ?_
        refine rs_bipush i_X8_cell_41 (v := (-12)) (by decide) ?_
        have hf := Option.some.inj hf
        subst hf
        exact rs_iret i_X8_cell_43 m_X8_cell rfl
    · replace hf := (if_neg c6).symm.trans hf
      refine rs_icF i_X8_cell_19 (cf_ne c6) ?_
      refine rs_bipush i_X8_cell_22 (v := (-11)) (by decide) ?_
      have hf := Option.some.inj hf
      subst hf
      exact rs_iret i_X8_cell_24 m_X8_cell rfl
  · replace hf := (if_neg c2).symm.trans hf
    refine rs_ifF i_X8_cell_6 (cf_ne c2) ?_
    refine rs_bipush i_X8_cell_9 (v := (-2)) (by decide) ?_
    have hf := Option.some.inj hf
    subst hf
    exact rs_iret i_X8_cell_11 m_X8_cell rfl
def f_X8_cell (v0 : Nat) (v1 : Int32) (v2 : Int32) (v3 : Int32) (h : Hp) : Option (Int32 × Hp) := f_X8_cell_0 v0 v1 v2 v3 h
theorem c_X8_cell {X : Nat → Int32} {d : Nat} (hd : 1 ≤ d) {v0 : Nat} {v1 : Int32} {v2 : Int32} {v3 : Int32} {h : Hp} {o : (Int32 × Hp)} (hf : f_X8_cell v0 v1 v2 v3 h = some o) : Calls X d 214 [.ref v0, .int v1, .int v2, .int v3] h (some (.int o.1), o.2) := by
  obtain ⟨d, rfl⟩ : ∃ z, d = z + 1 := ⟨d - 1, by omega⟩
  exact ⟨_, rfl, r_X8_cell_0 hd hf⟩
theorem i_X8_copy_0 : fetch 215 0 = some (.iload_n 1, 1, 0, 0, 0, 0) := by decide +kernel
theorem i_X8_copy_1 : fetch 215 1 = some (.iconst 0, 2, 0, 0, 0, 0) := by decide +kernel
theorem i_X8_copy_2 : fetch 215 2 = some (.iconst 3, 3, 0, 0, 0, 0) := by decide +kernel
theorem i_X8_copy_3 : fetch 215 3 = some (.invokestatic 112, 6, 126, 0, 0, 970) := by decide +kernel
theorem i_X8_copy_6 : fetch 215 6 = some (.ifCond .eq 12, 9, 0, 0, 0, 0) := by decide +kernel
theorem i_X8_copy_9 : fetch 215 9 = some (.iload_n 3, 10, 0, 0, 0, 0) := by decide +kernel
theorem i_X8_copy_10 : fetch 215 10 = some (.iconst 0, 11, 0, 0, 0, 0) := by decide +kernel
theorem i_X8_copy_11 : fetch 215 11 = some (.iconst 3, 12, 0, 0, 0, 0) := by decide +kernel
theorem i_X8_copy_12 : fetch 215 12 = some (.invokestatic 112, 15, 126, 0, 0, 970) := by decide +kernel
theorem i_X8_copy_15 : fetch 215 15 = some (.ifCond .ne 6, 18, 0, 0, 0, 0) := by decide +kernel
theorem i_X8_copy_18 : fetch 215 18 = some (.bipush (-2), 20, 0, 0, 0, 0) := by decide +kernel
theorem i_X8_copy_20 : fetch 215 20 = some (.ireturn, 21, 0, 0, 0, 0) := by decide +kernel
theorem i_X8_copy_21 : fetch 215 21 = some (.aload_n 0, 22, 0, 0, 0, 0) := by decide +kernel
theorem i_X8_copy_22 : fetch 215 22 = some (.getfield 51, 25, 8, 22, 0, 1031) := by decide +kernel
theorem i_X8_copy_25 : fetch 215 25 = some (.iload_n 1, 26, 0, 0, 0, 0) := by decide +kernel
theorem i_X8_copy_26 : fetch 215 26 = some (.iaload, 27, 0, 0, 0, 0) := by decide +kernel
theorem i_X8_copy_27 : fetch 215 27 = some (.iconst (-1), 28, 0, 0, 0, 0) := by decide +kernel
theorem i_X8_copy_28 : fetch 215 28 = some (.if_icmp .eq 13, 31, 0, 0, 0, 0) := by decide +kernel
theorem i_X8_copy_31 : fetch 215 31 = some (.aload_n 0, 32, 0, 0, 0, 0) := by decide +kernel
theorem i_X8_copy_32 : fetch 215 32 = some (.getfield 51, 35, 8, 22, 0, 1031) := by decide +kernel
theorem i_X8_copy_35 : fetch 215 35 = some (.iload_n 3, 36, 0, 0, 0, 0) := by decide +kernel
theorem i_X8_copy_36 : fetch 215 36 = some (.iaload, 37, 0, 0, 0, 0) := by decide +kernel
theorem i_X8_copy_37 : fetch 215 37 = some (.iconst (-1), 38, 0, 0, 0, 0) := by decide +kernel
theorem i_X8_copy_38 : fetch 215 38 = some (.if_icmp .ne 6, 41, 0, 0, 0, 0) := by decide +kernel
theorem i_X8_copy_41 : fetch 215 41 = some (.bipush (-11), 43, 0, 0, 0, 0) := by decide +kernel
theorem i_X8_copy_43 : fetch 215 43 = some (.ireturn, 44, 0, 0, 0, 0) := by decide +kernel
theorem i_X8_copy_44 : fetch 215 44 = some (.aload_n 0, 45, 0, 0, 0, 0) := by decide +kernel
theorem i_X8_copy_45 : fetch 215 45 = some (.getfield 51, 48, 8, 22, 0, 1031) := by decide +kernel
theorem i_X8_copy_48 : fetch 215 48 = some (.iload_n 1, 49, 0, 0, 0, 0) := by decide +kernel
theorem i_X8_copy_49 : fetch 215 49 = some (.iaload, 50, 0, 0, 0, 0) := by decide +kernel
theorem i_X8_copy_50 : fetch 215 50 = some (.aload_n 0, 51, 0, 0, 0, 0) := by decide +kernel
theorem i_X8_copy_51 : fetch 215 51 = some (.getfield 51, 54, 8, 22, 0, 1031) := by decide +kernel
theorem i_X8_copy_54 : fetch 215 54 = some (.iload_n 3, 55, 0, 0, 0, 0) := by decide +kernel
theorem i_X8_copy_55 : fetch 215 55 = some (.iaload, 56, 0, 0, 0, 0) := by decide +kernel
theorem i_X8_copy_56 : fetch 215 56 = some (.if_icmp .eq 6, 59, 0, 0, 0, 0) := by decide +kernel
theorem i_X8_copy_59 : fetch 215 59 = some (.bipush (-13), 61, 0, 0, 0, 0) := by decide +kernel
theorem i_X8_copy_61 : fetch 215 61 = some (.ireturn, 62, 0, 0, 0, 0) := by decide +kernel
theorem i_X8_copy_62 : fetch 215 62 = some (.iload 5, 64, 0, 0, 0, 0) := by decide +kernel
theorem i_X8_copy_64 : fetch 215 64 = some (.ifCond .lt 60, 67, 0, 0, 0, 0) := by decide +kernel
theorem i_X8_copy_67 : fetch 215 67 = some (.iload_n 2, 68, 0, 0, 0, 0) := by decide +kernel
theorem i_X8_copy_68 : fetch 215 68 = some (.ifCond .lt 56, 71, 0, 0, 0, 0) := by decide +kernel
theorem i_X8_copy_71 : fetch 215 71 = some (.iload 4, 73, 0, 0, 0, 0) := by decide +kernel
theorem i_X8_copy_73 : fetch 215 73 = some (.ifCond .lt 51, 76, 0, 0, 0, 0) := by decide +kernel
theorem i_X8_copy_76 : fetch 215 76 = some (.iload_n 2, 77, 0, 0, 0, 0) := by decide +kernel
theorem i_X8_copy_77 : fetch 215 77 = some (.aload_n 0, 78, 0, 0, 0, 0) := by decide +kernel
theorem i_X8_copy_78 : fetch 215 78 = some (.getfield 54, 81, 8, 23, 0, 1032) := by decide +kernel
theorem i_X8_copy_81 : fetch 215 81 = some (.iload_n 1, 82, 0, 0, 0, 0) := by decide +kernel
theorem i_X8_copy_82 : fetch 215 82 = some (.iaload, 83, 0, 0, 0, 0) := by decide +kernel
theorem i_X8_copy_83 : fetch 215 83 = some (.if_icmp .gt 41, 86, 0, 0, 0, 0) := by decide +kernel
theorem i_X8_copy_86 : fetch 215 86 = some (.iload 4, 88, 0, 0, 0, 0) := by decide +kernel
theorem i_X8_copy_88 : fetch 215 88 = some (.aload_n 0, 89, 0, 0, 0, 0) := by decide +kernel
theorem i_X8_copy_89 : fetch 215 89 = some (.getfield 54, 92, 8, 23, 0, 1032) := by decide +kernel
theorem i_X8_copy_92 : fetch 215 92 = some (.iload_n 3, 93, 0, 0, 0, 0) := by decide +kernel
theorem i_X8_copy_93 : fetch 215 93 = some (.iaload, 94, 0, 0, 0, 0) := by decide +kernel
theorem i_X8_copy_94 : fetch 215 94 = some (.if_icmp .gt 30, 97, 0, 0, 0, 0) := by decide +kernel
theorem i_X8_copy_97 : fetch 215 97 = some (.iload 5, 99, 0, 0, 0, 0) := by decide +kernel
theorem i_X8_copy_99 : fetch 215 99 = some (.aload_n 0, 100, 0, 0, 0, 0) := by decide +kernel
theorem i_X8_copy_100 : fetch 215 100 = some (.getfield 54, 103, 8, 23, 0, 1032) := by decide +kernel
theorem i_X8_copy_103 : fetch 215 103 = some (.iload_n 1, 104, 0, 0, 0, 0) := by decide +kernel
theorem i_X8_copy_104 : fetch 215 104 = some (.iaload, 105, 0, 0, 0, 0) := by decide +kernel
theorem i_X8_copy_105 : fetch 215 105 = some (.iload_n 2, 106, 0, 0, 0, 0) := by decide +kernel
theorem i_X8_copy_106 : fetch 215 106 = some (.isub, 107, 0, 0, 0, 0) := by decide +kernel
theorem i_X8_copy_107 : fetch 215 107 = some (.if_icmp .gt 17, 110, 0, 0, 0, 0) := by decide +kernel
theorem i_X8_copy_110 : fetch 215 110 = some (.iload 5, 112, 0, 0, 0, 0) := by decide +kernel
theorem i_X8_copy_112 : fetch 215 112 = some (.aload_n 0, 113, 0, 0, 0, 0) := by decide +kernel
theorem i_X8_copy_113 : fetch 215 113 = some (.getfield 54, 116, 8, 23, 0, 1032) := by decide +kernel
theorem i_X8_copy_116 : fetch 215 116 = some (.iload_n 3, 117, 0, 0, 0, 0) := by decide +kernel
theorem i_X8_copy_117 : fetch 215 117 = some (.iaload, 118, 0, 0, 0, 0) := by decide +kernel
theorem i_X8_copy_118 : fetch 215 118 = some (.iload 4, 120, 0, 0, 0, 0) := by decide +kernel
theorem i_X8_copy_120 : fetch 215 120 = some (.isub, 121, 0, 0, 0, 0) := by decide +kernel
theorem i_X8_copy_121 : fetch 215 121 = some (.if_icmp .le 6, 124, 0, 0, 0, 0) := by decide +kernel
theorem i_X8_copy_124 : fetch 215 124 = some (.bipush (-12), 126, 0, 0, 0, 0) := by decide +kernel
theorem i_X8_copy_126 : fetch 215 126 = some (.ireturn, 127, 0, 0, 0, 0) := by decide +kernel
theorem i_X8_copy_127 : fetch 215 127 = some (.bipush 40, 129, 0, 0, 0, 0) := by decide +kernel
theorem i_X8_copy_129 : fetch 215 129 = some (.iload_n 1, 130, 0, 0, 0, 0) := by decide +kernel
theorem i_X8_copy_130 : fetch 215 130 = some (.imul, 131, 0, 0, 0, 0) := by decide +kernel
theorem i_X8_copy_131 : fetch 215 131 = some (.iload_n 2, 132, 0, 0, 0, 0) := by decide +kernel
theorem i_X8_copy_132 : fetch 215 132 = some (.iadd, 133, 0, 0, 0, 0) := by decide +kernel
theorem i_X8_copy_133 : fetch 215 133 = some (.istore 6, 135, 0, 0, 0, 0) := by decide +kernel
theorem i_X8_copy_135 : fetch 215 135 = some (.bipush 40, 137, 0, 0, 0, 0) := by decide +kernel
theorem i_X8_copy_137 : fetch 215 137 = some (.iload_n 3, 138, 0, 0, 0, 0) := by decide +kernel
theorem i_X8_copy_138 : fetch 215 138 = some (.imul, 139, 0, 0, 0, 0) := by decide +kernel
theorem i_X8_copy_139 : fetch 215 139 = some (.iload 4, 141, 0, 0, 0, 0) := by decide +kernel
theorem i_X8_copy_141 : fetch 215 141 = some (.iadd, 142, 0, 0, 0, 0) := by decide +kernel
theorem i_X8_copy_142 : fetch 215 142 = some (.istore 7, 144, 0, 0, 0, 0) := by decide +kernel
theorem i_X8_copy_144 : fetch 215 144 = some (.iconst 0, 145, 0, 0, 0, 0) := by decide +kernel
theorem i_X8_copy_145 : fetch 215 145 = some (.istore 8, 147, 0, 0, 0, 0) := by decide +kernel
theorem i_X8_copy_147 : fetch 215 147 = some (.iload 8, 149, 0, 0, 0, 0) := by decide +kernel
theorem i_X8_copy_149 : fetch 215 149 = some (.iload 5, 151, 0, 0, 0, 0) := by decide +kernel
theorem i_X8_copy_151 : fetch 215 151 = some (.if_icmp .ge 50, 154, 0, 0, 0, 0) := by decide +kernel
theorem i_X8_copy_154 : fetch 215 154 = some (.iload 6, 156, 0, 0, 0, 0) := by decide +kernel
theorem i_X8_copy_156 : fetch 215 156 = some (.iload 7, 158, 0, 0, 0, 0) := by decide +kernel
theorem i_X8_copy_158 : fetch 215 158 = some (.if_icmp .ge 13, 161, 0, 0, 0, 0) := by decide +kernel
theorem i_X8_copy_161 : fetch 215 161 = some (.iload 5, 163, 0, 0, 0, 0) := by decide +kernel
theorem i_X8_copy_163 : fetch 215 163 = some (.iconst 1, 164, 0, 0, 0, 0) := by decide +kernel
theorem i_X8_copy_164 : fetch 215 164 = some (.isub, 165, 0, 0, 0, 0) := by decide +kernel
theorem i_X8_copy_165 : fetch 215 165 = some (.iload 8, 167, 0, 0, 0, 0) := by decide +kernel
theorem i_X8_copy_167 : fetch 215 167 = some (.isub, 168, 0, 0, 0, 0) := by decide +kernel
theorem i_X8_copy_168 : fetch 215 168 = some (.goto 5, 171, 0, 0, 0, 0) := by decide +kernel
theorem i_X8_copy_171 : fetch 215 171 = some (.iload 8, 173, 0, 0, 0, 0) := by decide +kernel
theorem i_X8_copy_173 : fetch 215 173 = some (.istore 9, 175, 0, 0, 0, 0) := by decide +kernel
theorem i_X8_copy_175 : fetch 215 175 = some (.aload_n 0, 176, 0, 0, 0, 0) := by decide +kernel
theorem i_X8_copy_176 : fetch 215 176 = some (.getfield 57, 179, 8, 24, 0, 1033) := by decide +kernel
theorem i_X8_copy_179 : fetch 215 179 = some (.iload 7, 181, 0, 0, 0, 0) := by decide +kernel
theorem i_X8_copy_181 : fetch 215 181 = some (.iload 9, 183, 0, 0, 0, 0) := by decide +kernel
theorem i_X8_copy_183 : fetch 215 183 = some (.iadd, 184, 0, 0, 0, 0) := by decide +kernel
theorem i_X8_copy_184 : fetch 215 184 = some (.aload_n 0, 185, 0, 0, 0, 0) := by decide +kernel
theorem i_X8_copy_185 : fetch 215 185 = some (.getfield 57, 188, 8, 24, 0, 1033) := by decide +kernel
theorem i_X8_copy_188 : fetch 215 188 = some (.iload 6, 190, 0, 0, 0, 0) := by decide +kernel
theorem i_X8_copy_190 : fetch 215 190 = some (.iload 9, 192, 0, 0, 0, 0) := by decide +kernel
theorem i_X8_copy_192 : fetch 215 192 = some (.iadd, 193, 0, 0, 0, 0) := by decide +kernel
theorem i_X8_copy_193 : fetch 215 193 = some (.iaload, 194, 0, 0, 0, 0) := by decide +kernel
theorem i_X8_copy_194 : fetch 215 194 = some (.iastore, 195, 0, 0, 0, 0) := by decide +kernel
theorem i_X8_copy_195 : fetch 215 195 = some (.iinc 8 1, 198, 0, 0, 0, 0) := by decide +kernel
theorem i_X8_copy_198 : fetch 215 198 = some (.goto (-51), 201, 0, 0, 0, 0) := by decide +kernel
theorem i_X8_copy_201 : fetch 215 201 = some (.iload 5, 203, 0, 0, 0, 0) := by decide +kernel
theorem i_X8_copy_203 : fetch 215 203 = some (.ireturn, 204, 0, 0, 0, 0) := by decide +kernel
def f_X8_copy_173 (n : Nat) (K147 : Nat → Int32 → Int32 → Int32 → Int32 → Hp → Option (Int32 × Hp)) (v0 : Nat) (v5 : Int32) (v6 : Int32) (v7 : Int32) (v8 : Int32) (s0 : Int32) (h : Hp) : Option (Int32 × Hp) :=
  if okO h v0 8 then
  (gR h v0 24).bind fun a2 =>
  if okI h a2 (v6 + s0) then
  if okI h a2 (v7 + s0) then
  K147 v0 v5 v6 v7 (v8 + 1) (hsi h a2 (ix (v7 + s0)) (gI h a2 (ix (v6 + s0))))
  else none
  else none
  else none
set_option maxRecDepth 100000 in
set_option maxHeartbeats 4000000 in
theorem r_X8_copy_173 {X : Nat → Int32} {d : Nat} (hd : 1 ≤ (d + 1)) {n : Nat} {K147 : Nat → Int32 → Int32 → Int32 → Int32 → Hp → Option (Int32 × Hp)} (HK147 : ∀ (v0 : Nat) (v5 : Int32) (v6 : Int32) (v7 : Int32) (v8 : Int32) (d1 : Int32) (d2 : Int32) (d3 : Int32) (d4 : Int32) (w9 : Option Value) (h : Hp) (o : (Int32 × Hp)), K147 v0 v5 v6 v7 v8 h = some o → Run X (d + 1) 215 147 [some (.ref v0), some (.int d1), some (.int d2), some (.int d3), some (.int d4), some (.int v5), some (.int v6), some (.int v7), some (.int v8), w9] [] h (some (.int o.1), o.2)) {v0 : Nat} {v5 : Int32} {v6 : Int32} {v7 : Int32} {v8 : Int32} {s0 : Int32} {d1 : Int32} {d2 : Int32} {d3 : Int32} {d4 : Int32} {w9 : Option Value} {h : Hp} {o : (Int32 × Hp)} (hf : f_X8_copy_173 n K147 v0 v5 v6 v7 v8 s0 h = some o) : Run X (d + 1) 215 173 [some (.ref v0), some (.int d1), some (.int d2), some (.int d3), some (.int d4), some (.int v5), some (.int v6), some (.int v7), some (.int v8), w9] [.int s0] h (some (.int o.1), o.2) := by
  unfold f_X8_copy_173 at hf
  refine rs_istore i_X8_copy_173 (Nat.le_of_ble_eq_true rfl) (lv' := [some (.ref v0), some (.int d1), some (.int d2), some (.int d3), some (.int d4), some (.int v5), some (.int v6), some (.int v7), some (.int v8), some (.int s0)]) rfl ?_
  refine rs_aload_n i_X8_copy_175 rfl ?_
  obtain ⟨c1, hf⟩ := ite_some hf
  obtain ⟨a2, e2, hf⟩ := bind_some hf
  refine rs_getR i_X8_copy_176 (by decide) (by decide) c1 e2 ?_
  refine rs_iload i_X8_copy_179 rfl ?_
  refine rs_iload i_X8_copy_181 rfl ?_
  refine rs_iadd i_X8_copy_183 ?_
  refine rs_aload_n i_X8_copy_184 rfl ?_
  refine rs_getR i_X8_copy_185 (by decide) (by decide) c1 e2 ?_
  refine rs_iload i_X8_copy_188 rfl ?_
  refine rs_iload i_X8_copy_190 rfl ?_
  refine rs_iadd i_X8_copy_192 ?_
  obtain ⟨c3, hf⟩ := ite_some hf
  refine rs_iald i_X8_copy_193 c3 ?_
  obtain ⟨c4, hf⟩ := ite_some hf
  refine rs_iast i_X8_copy_194 c4 ?_
  refine rs_iinc i_X8_copy_195 rfl (v := v8 + 1) rfl (Nat.le_of_ble_eq_true rfl) (lv' := [some (.ref v0), some (.int d1), some (.int d2), some (.int d3), some (.int d4), some (.int v5), some (.int v6), some (.int v7), some (.int (v8 + 1)), some (.int s0)]) rfl ?_
  refine rs_goto i_X8_copy_198 (tg := 147) (by decide) ?_
  exact HK147 _ _ _ _ _ _ _ _ _ _ _ _ hf
def f_X8_copy_147 (n : Nat) : Nat → Nat → Int32 → Int32 → Int32 → Int32 → Hp → Option (Int32 × Hp)
  | 0, _, _, _, _, _, _ => none
  | m + 1, v0, v5, v6, v7, v8, h =>
    if v5 ≤ v8 then
      some (v5, h)
    else
      if v7 ≤ v6 then
        f_X8_copy_173 n (f_X8_copy_147 n m) v0 v5 v6 v7 v8 v8 h
      else
        f_X8_copy_173 n (f_X8_copy_147 n m) v0 v5 v6 v7 v8 ((v5 - 1) - v8) h
set_option maxRecDepth 100000 in
set_option maxHeartbeats 4000000 in
theorem r_X8_copy_147 {X : Nat → Int32} {d : Nat} (hd : 1 ≤ (d + 1)) {n : Nat} : ∀ (m : Nat) (v0 : Nat) (v5 : Int32) (v6 : Int32) (v7 : Int32) (v8 : Int32) (d1 : Int32) (d2 : Int32) (d3 : Int32) (d4 : Int32) (w9 : Option Value) (h : Hp) (o : (Int32 × Hp)), f_X8_copy_147 n m v0 v5 v6 v7 v8 h = some o → Run X (d + 1) 215 147 [some (.ref v0), some (.int d1), some (.int d2), some (.int d3), some (.int d4), some (.int v5), some (.int v6), some (.int v7), some (.int v8), w9] [] h (some (.int o.1), o.2) := by
  intro m
  induction m with
  | zero => intro v0 v5 v6 v7 v8 d1 d2 d3 d4 w9 h o hf; cases hf
  | succ m ih =>
    intro v0 v5 v6 v7 v8 d1 d2 d3 d4 w9 h o hf
    rw [f_X8_copy_147] at hf
    refine rs_iload i_X8_copy_147 rfl ?_
    refine rs_iload i_X8_copy_149 rfl ?_
    by_cases c1 : v5 ≤ v8
    · replace hf := (if_pos c1).symm.trans hf
      refine rs_icT i_X8_copy_151 (ct_ge c1) (tg := 201) (by decide) ?_
      refine rs_iload i_X8_copy_201 rfl ?_
      have hf := Option.some.inj hf
      subst hf
      exact rs_iret i_X8_copy_203 m_X8_copy rfl
    · replace hf := (if_neg c1).symm.trans hf
      refine rs_icF i_X8_copy_151 (cf_ge c1) ?_
      refine rs_iload i_X8_copy_154 rfl ?_
      refine rs_iload i_X8_copy_156 rfl ?_
      by_cases c2 : v7 ≤ v6
      · replace hf := (if_pos c2).symm.trans hf
        refine rs_icT i_X8_copy_158 (ct_ge c2) (tg := 171) (by decide) ?_
        refine rs_iload i_X8_copy_171 rfl ?_
        exact r_X8_copy_173 hd ih hf
      · replace hf := (if_neg c2).symm.trans hf
        refine rs_icF i_X8_copy_158 (cf_ge c2) ?_
        refine rs_iload i_X8_copy_161 rfl ?_
        refine rs_iconst i_X8_copy_163 (v := 1) (by decide) ?_
        refine rs_isub i_X8_copy_164 ?_
        refine rs_iload i_X8_copy_165 rfl ?_
        refine rs_isub i_X8_copy_167 ?_
        refine rs_goto i_X8_copy_168 (tg := 173) (by decide) ?_
        exact r_X8_copy_173 hd ih hf
def f_X8_copy_0 (n : Nat) (v0 : Nat) (v1 : Int32) (v2 : Int32) (v3 : Int32) (v4 : Int32) (v5 : Int32) (h : Hp) : Option (Int32 × Hp) :=
  (f_X8_in v1 0 3 h).bind fun o1 =>
  if o1.1 = 0 then
    some ((-2), o1.2)
  else
    (f_X8_in v3 0 3 o1.2).bind fun o3 =>
    if o3.1 ≠ 0 then
      if okO o3.2 v0 8 then
      (gR o3.2 v0 22).bind fun a6 =>
      if okI o3.2 a6 v1 then
      if (gI o3.2 a6 (ix v1)) = (-1) then
        some ((-11), o3.2)
      else
        if okI o3.2 a6 v3 then
        if (gI o3.2 a6 (ix v3)) ≠ (-1) then
          if (gI o3.2 a6 (ix v1)) = (gI o3.2 a6 (ix v3)) then
            if v5 < 0 then
              some ((-12), o3.2)
            else
              if v2 < 0 then
                some ((-12), o3.2)
              else
                if v4 < 0 then
                  some ((-12), o3.2)
                else
                  (gR o3.2 v0 23).bind fun a15 =>
                  if okI o3.2 a15 v1 then
                  if (gI o3.2 a15 (ix v1)) < v2 then
                    some ((-12), o3.2)
                  else
                    if okI o3.2 a15 v3 then
                    if (gI o3.2 a15 (ix v3)) < v4 then
                      some ((-12), o3.2)
                    else
                      if ((gI o3.2 a15 (ix v1)) - v2) < v5 then
                        some ((-12), o3.2)
                      else
                        if v5 ≤ ((gI o3.2 a15 (ix v3)) - v4) then
                          f_X8_copy_147 n n v0 v5 ((40 * v1) + v2) ((40 * v3) + v4) 0 o3.2
                        else
                          some ((-12), o3.2)
                    else none
                  else none
          else
            some ((-13), o3.2)
        else
          some ((-11), o3.2)
        else none
      else none
      else none
    else
      some ((-2), o3.2)
set_option maxRecDepth 100000 in
set_option maxHeartbeats 4000000 in
theorem r_X8_copy_0 {X : Nat → Int32} {d : Nat} (hd : 1 ≤ (d + 1)) {n : Nat} {v0 : Nat} {v1 : Int32} {v2 : Int32} {v3 : Int32} {v4 : Int32} {v5 : Int32} {h : Hp} {o : (Int32 × Hp)} (hf : f_X8_copy_0 n v0 v1 v2 v3 v4 v5 h = some o) : Run X (d + 1) 215 0 [some (.ref v0), some (.int v1), some (.int v2), some (.int v3), some (.int v4), some (.int v5), none, none, none, none] [] h (some (.int o.1), o.2) := by
  unfold f_X8_copy_0 at hf
  refine rs_iload_n i_X8_copy_0 rfl ?_
  refine rs_iconst i_X8_copy_1 (v := 0) (by decide) ?_
  refine rs_iconst i_X8_copy_2 (v := 3) (by decide) ?_
  obtain ⟨o1, e1, hf⟩ := bind_some hf
  refine rs_inS i_X8_copy_3 (by decide) m_X8_in rfl (As := [.int v1, .int 0, .int 3]) (rest := []) rfl rfl (Nat.le_of_ble_eq_true rfl) (c_X8_in (by omega) e1) (st' := [.int o1.1]) rfl ?_
  by_cases c2 : o1.1 = 0
  · replace hf := (if_pos c2).symm.trans hf
    refine rs_ifT i_X8_copy_6 (ct_eq c2) (tg := 18) (by decide) ?_
    refine rs_bipush i_X8_copy_18 (v := (-2)) (by decide) ?_
    have hf := Option.some.inj hf
    subst hf
    exact rs_iret i_X8_copy_20 m_X8_copy rfl
  · replace hf := (if_neg c2).symm.trans hf
    refine rs_ifF i_X8_copy_6 (cf_eq c2) ?_
    refine rs_iload_n i_X8_copy_9 rfl ?_
    refine rs_iconst i_X8_copy_10 (v := 0) (by decide) ?_
    refine rs_iconst i_X8_copy_11 (v := 3) (by decide) ?_
    obtain ⟨o3, e3, hf⟩ := bind_some hf
    refine rs_inS i_X8_copy_12 (by decide) m_X8_in rfl (As := [.int v3, .int 0, .int 3]) (rest := []) rfl rfl (Nat.le_of_ble_eq_true rfl) (c_X8_in (by omega) e3) (st' := [.int o3.1]) rfl ?_
    by_cases c4 : o3.1 ≠ 0
    · replace hf := (if_pos c4).symm.trans hf
      refine rs_ifT i_X8_copy_15 (ct_ne c4) (tg := 21) (by decide) ?_
      refine rs_aload_n i_X8_copy_21 rfl ?_
      obtain ⟨c5, hf⟩ := ite_some hf
      obtain ⟨a6, e6, hf⟩ := bind_some hf
      refine rs_getR i_X8_copy_22 (by decide) (by decide) c5 e6 ?_
      refine rs_iload_n i_X8_copy_25 rfl ?_
      obtain ⟨c7, hf⟩ := ite_some hf
      refine rs_iald i_X8_copy_26 c7 ?_
      refine rs_iconst i_X8_copy_27 (v := (-1)) (by decide) ?_
      by_cases c8 : (gI o3.2 a6 (ix v1)) = (-1)
      · replace hf := (if_pos c8).symm.trans hf
        refine rs_icT i_X8_copy_28 (ct_eq c8) (tg := 41) (by decide) ?_
        refine rs_bipush i_X8_copy_41 (v := (-11)) (by decide) ?_
        have hf := Option.some.inj hf
        subst hf
        exact rs_iret i_X8_copy_43 m_X8_copy rfl
      · replace hf := (if_neg c8).symm.trans hf
        refine rs_icF i_X8_copy_28 (cf_eq c8) ?_
        refine rs_aload_n i_X8_copy_31 rfl ?_
        refine rs_getR i_X8_copy_32 (by decide) (by decide) c5 e6 ?_
        refine rs_iload_n i_X8_copy_35 rfl ?_
        obtain ⟨c9, hf⟩ := ite_some hf
        refine rs_iald i_X8_copy_36 c9 ?_
        refine rs_iconst i_X8_copy_37 (v := (-1)) (by decide) ?_
        by_cases c10 : (gI o3.2 a6 (ix v3)) ≠ (-1)
        · replace hf := (if_pos c10).symm.trans hf
          refine rs_icT i_X8_copy_38 (ct_ne c10) (tg := 44) (by decide) ?_
          refine rs_aload_n i_X8_copy_44 rfl ?_
          refine rs_getR i_X8_copy_45 (by decide) (by decide) c5 e6 ?_
          refine rs_iload_n i_X8_copy_48 rfl ?_
          refine rs_iald i_X8_copy_49 c7 ?_
          refine rs_aload_n i_X8_copy_50 rfl ?_
          refine rs_getR i_X8_copy_51 (by decide) (by decide) c5 e6 ?_
          refine rs_iload_n i_X8_copy_54 rfl ?_
          refine rs_iald i_X8_copy_55 c9 ?_
          by_cases c11 : (gI o3.2 a6 (ix v1)) = (gI o3.2 a6 (ix v3))
          · replace hf := (if_pos c11).symm.trans hf
            refine rs_icT i_X8_copy_56 (ct_eq c11) (tg := 62) (by decide) ?_
            refine rs_iload i_X8_copy_62 rfl ?_
            by_cases c12 : v5 < 0
            · replace hf := (if_pos c12).symm.trans hf
              refine rs_ifT i_X8_copy_64 (ct_lt c12) (tg := 124) (by decide) ?_
              refine rs_bipush i_X8_copy_124 (v := (-12)) (by decide) ?_
              have hf := Option.some.inj hf
              subst hf
              exact rs_iret i_X8_copy_126 m_X8_copy rfl
            · replace hf := (if_neg c12).symm.trans hf
              refine rs_ifF i_X8_copy_64 (cf_lt c12) ?_
              refine rs_iload_n i_X8_copy_67 rfl ?_
              by_cases c13 : v2 < 0
              · replace hf := (if_pos c13).symm.trans hf
                refine rs_ifT i_X8_copy_68 (ct_lt c13) (tg := 124) (by decide) ?_
                refine rs_bipush i_X8_copy_124 (v := (-12)) (by decide) ?_
                have hf := Option.some.inj hf
                subst hf
                exact rs_iret i_X8_copy_126 m_X8_copy rfl
              · replace hf := (if_neg c13).symm.trans hf
                refine rs_ifF i_X8_copy_68 (cf_lt c13) ?_
                refine rs_iload i_X8_copy_71 rfl ?_
                by_cases c14 : v4 < 0
                · replace hf := (if_pos c14).symm.trans hf
                  refine rs_ifT i_X8_copy_73 (ct_lt c14) (tg := 124) (by decide) ?_
                  refine rs_bipush i_X8_copy_124 (v := (-12)) (by decide) ?_
                  have hf := Option.some.inj hf
                  subst hf
                  exact rs_iret i_X8_copy_126 m_X8_copy rfl
                · replace hf := (if_neg c14).symm.trans hf
                  refine rs_ifF i_X8_copy_73 (cf_lt c14) ?_
                  refine rs_iload_n i_X8_copy_76 rfl ?_
                  refine rs_aload_n i_X8_copy_77 rfl ?_
                  obtain ⟨a15, e15, hf⟩ := bind_some hf
                  refine rs_getR i_X8_copy_78 (by decide) (by decide) c5 e15 ?_
                  refine rs_iload_n i_X8_copy_81 rfl ?_
                  obtain ⟨c16, hf⟩ := ite_some hf
                  refine rs_iald i_X8_copy_82 c16 ?_
                  by_cases c17 : (gI o3.2 a15 (ix v1)) < v2
                  · replace hf := (if_pos c17).symm.trans hf
                    refine rs_icT i_X8_copy_83 (ct_gt c17) (tg := 124) (by decide) ?_
                    refine rs_bipush i_X8_copy_124 (v := (-12)) (by decide) ?_
                    have hf := Option.some.inj hf
                    subst hf
                    exact rs_iret i_X8_copy_126 m_X8_copy rfl
                  · replace hf := (if_neg c17).symm.trans hf
                    refine rs_icF i_X8_copy_83 (cf_gt c17) ?_
                    refine rs_iload i_X8_copy_86 rfl ?_
                    refine rs_aload_n i_X8_copy_88 rfl ?_
                    refine rs_getR i_X8_copy_89 (by decide) (by decide) c5 e15 ?_
                    refine rs_iload_n i_X8_copy_92 rfl ?_
                    obtain ⟨c18, hf⟩ := ite_some hf
                    refine rs_iald i_X8_copy_93 c18 ?_
                    by_cases c19 : (gI o3.2 a15 (ix v3)) < v4
                    · replace hf := (if_pos c19).symm.trans hf
                      refine rs_icT i_X8_copy_94 (ct_gt c19) (tg := 124) (by decide) ?_
                      refine rs_bipush i_X8_copy_124 (v := (-12)) (by decide) ?_
                      have hf := Option.some.inj hf
                      subst hf
                      exact rs_iret i_X8_copy_126 m_X8_copy rfl
                    · replace hf := (if_neg c19).symm.trans hf
                      refine rs_icF i_X8_copy_94 (cf_gt c19) ?_
                      refine rs_iload i_X8_copy_97 rfl ?_
                      refine rs_aload_n i_X8_copy_99 rfl ?_
                      refine rs_getR i_X8_copy_100 (by decide) (by decide) c5 e15 ?_
                      refine rs_iload_n i_X8_copy_103 rfl ?_
                      refine rs_iald i_X8_copy_104 c16 ?_
                      refine rs_iload_n i_X8_copy_105 rfl ?_
                      refine rs_isub i_X8_copy_106 ?_
                      by_cases c20 : ((gI o3.2 a15 (ix v1)) - v2) < v5
                      · replace hf := (if_pos c20).symm.trans hf
                        refine rs_icT i_X8_copy_107 (ct_gt c20) (tg := 124) (by decide) ?_
                        refine rs_bipush i_X8_copy_124 (v := (-12)) (by decide) ?_
                        have hf := Option.some.inj hf
                        subst hf
                        exact rs_iret i_X8_copy_126 m_X8_copy rfl
                      · replace hf := (if_neg c20).symm.trans hf
                        refine rs_icF i_X8_copy_107 (cf_gt c20) ?_
                        refine rs_iload i_X8_copy_110 rfl ?_
                        refine rs_aload_n i_X8_copy_112 rfl ?_
                        refine rs_getR i_X8_copy_113 (by decide) (by decide) c5 e15 ?_
                        refine rs_iload_n i_X8_copy_116 rfl ?_
                        refine rs_iald i_X8_copy_117 c18 ?_
                        refine rs_iload i_X8_copy_118 rfl ?_
                        refine rs_isub i_X8_copy_120 ?_
                        by_cases c21 : v5 ≤ ((gI o3.2 a15 (ix v3)) - v4)
                        · replace hf := (if_pos c21).symm.trans hf
                          refine rs_icT i_X8_copy_121 (ct_le c21) (tg := 127) (by decide) ?_
                          refine rs_bipush i_X8_copy_127 (v := 40) (by decide) ?_
                          refine rs_iload_n i_X8_copy_129 rfl ?_
                          refine rs_imul i_X8_copy_130 ?_
                          refine rs_iload_n i_X8_copy_131 rfl ?_
                          refine rs_iadd i_X8_copy_132 ?_
                          refine rs_istore i_X8_copy_133 (Nat.le_of_ble_eq_true rfl) (lv' := [some (.ref v0), some (.int v1), some (.int v2), some (.int v3), some (.int v4), some (.int v5), some (.int ((40 * v1) + v2)), none, none, none]) rfl ?_
                          refine rs_bipush i_X8_copy_135 (v := 40) (by decide) ?_
                          refine rs_iload_n i_X8_copy_137 rfl ?_
                          refine rs_imul i_X8_copy_138 ?_
                          refine rs_iload i_X8_copy_139 rfl ?_
                          refine rs_iadd i_X8_copy_141 ?_
                          refine rs_istore i_X8_copy_142 (Nat.le_of_ble_eq_true rfl) (lv' := [some (.ref v0), some (.int v1), some (.int v2), some (.int v3), some (.int v4), some (.int v5), some (.int ((40 * v1) + v2)), some (.int ((40 * v3) + v4)), none, none]) rfl ?_
                          refine rs_iconst i_X8_copy_144 (v := 0) (by decide) ?_
                          refine rs_istore i_X8_copy_145 (Nat.le_of_ble_eq_true rfl) (lv' := [some (.ref v0), some (.int v1), some (.int v2), some (.int v3), some (.int v4), some (.int v5), some (.int ((40 * v1) + v2)), some (.int ((40 * v3) + v4)), some (.int 0), none]) rfl ?_
                          exact r_X8_copy_147 hd _ _ _ _ _ _ _ _ _ _ _ _ _ hf
                        · replace hf := (if_neg c21).symm.trans hf
                          refine rs_icF i_X8_copy_121 (cf_le c21) ?_
                          refine rs_bipush i_X8_copy_124 (v := (-12)) (by decide) ?_
                          have hf := Option.some.inj hf
                          subst hf
                          exact rs_iret i_X8_copy_126 m_X8_copy rfl
          · replace hf := (if_neg c11).symm.trans hf
            refine rs_icF i_X8_copy_56 (cf_eq c11) ?_
            refine rs_bipush i_X8_copy_59 (v := (-13)) (by decide) ?_
            have hf := Option.some.inj hf
            subst hf
            exact rs_iret i_X8_copy_61 m_X8_copy rfl
        · replace hf := (if_neg c10).symm.trans hf
          refine rs_icF i_X8_copy_38 (cf_ne c10) ?_
          refine rs_bipush i_X8_copy_41 (v := (-11)) (by decide) ?_
          have hf := Option.some.inj hf
          subst hf
          exact rs_iret i_X8_copy_43 m_X8_copy rfl
    · replace hf := (if_neg c4).symm.trans hf
      refine rs_ifF i_X8_copy_15 (cf_ne c4) ?_
      refine rs_bipush i_X8_copy_18 (v := (-2)) (by decide) ?_
      have hf := Option.some.inj hf
      subst hf
      exact rs_iret i_X8_copy_20 m_X8_copy rfl
def f_X8_copy (n : Nat) (v0 : Nat) (v1 : Int32) (v2 : Int32) (v3 : Int32) (v4 : Int32) (v5 : Int32) (h : Hp) : Option (Int32 × Hp) := f_X8_copy_0 n v0 v1 v2 v3 v4 v5 h
theorem c_X8_copy {X : Nat → Int32} {d : Nat} (hd : 1 ≤ d) {n : Nat} {v0 : Nat} {v1 : Int32} {v2 : Int32} {v3 : Int32} {v4 : Int32} {v5 : Int32} {h : Hp} {o : (Int32 × Hp)} (hf : f_X8_copy n v0 v1 v2 v3 v4 v5 h = some o) : Calls X d 215 [.ref v0, .int v1, .int v2, .int v3, .int v4, .int v5] h (some (.int o.1), o.2) := by
  obtain ⟨d, rfl⟩ : ∃ z, d = z + 1 := ⟨d - 1, by omega⟩
  exact ⟨_, rfl, r_X8_copy_0 hd hf⟩
theorem i_X8_stepsBy_0 : fetch 216 0 = some (.iload_n 1, 1, 0, 0, 0, 0) := by decide +kernel
theorem i_X8_stepsBy_1 : fetch 216 1 = some (.iconst 0, 2, 0, 0, 0, 0) := by decide +kernel
theorem i_X8_stepsBy_2 : fetch 216 2 = some (.iconst 3, 3, 0, 0, 0, 0) := by decide +kernel
theorem i_X8_stepsBy_3 : fetch 216 3 = some (.invokestatic 112, 6, 126, 0, 0, 970) := by decide +kernel
theorem i_X8_stepsBy_6 : fetch 216 6 = some (.ifCond .eq 23, 9, 0, 0, 0, 0) := by decide +kernel
theorem i_X8_stepsBy_9 : fetch 216 9 = some (.iload_n 2, 10, 0, 0, 0, 0) := by decide +kernel
theorem i_X8_stepsBy_10 : fetch 216 10 = some (.iconst 0, 11, 0, 0, 0, 0) := by decide +kernel
theorem i_X8_stepsBy_11 : fetch 216 11 = some (.iconst 2, 12, 0, 0, 0, 0) := by decide +kernel
theorem i_X8_stepsBy_12 : fetch 216 12 = some (.invokestatic 112, 15, 126, 0, 0, 970) := by decide +kernel
theorem i_X8_stepsBy_15 : fetch 216 15 = some (.ifCond .eq 14, 18, 0, 0, 0, 0) := by decide +kernel
theorem i_X8_stepsBy_18 : fetch 216 18 = some (.iload 4, 20, 0, 0, 0, 0) := by decide +kernel
theorem i_X8_stepsBy_20 : fetch 216 20 = some (.iconst 0, 21, 0, 0, 0, 0) := by decide +kernel
theorem i_X8_stepsBy_21 : fetch 216 21 = some (.bipush 12, 23, 0, 0, 0, 0) := by decide +kernel
theorem i_X8_stepsBy_23 : fetch 216 23 = some (.invokestatic 112, 26, 126, 0, 0, 970) := by decide +kernel
theorem i_X8_stepsBy_26 : fetch 216 26 = some (.ifCond .ne 6, 29, 0, 0, 0, 0) := by decide +kernel
theorem i_X8_stepsBy_29 : fetch 216 29 = some (.bipush (-2), 31, 0, 0, 0, 0) := by decide +kernel
theorem i_X8_stepsBy_31 : fetch 216 31 = some (.ireturn, 32, 0, 0, 0, 0) := by decide +kernel
theorem i_X8_stepsBy_32 : fetch 216 32 = some (.aload_n 0, 33, 0, 0, 0, 0) := by decide +kernel
theorem i_X8_stepsBy_33 : fetch 216 33 = some (.getfield 51, 36, 8, 22, 0, 1031) := by decide +kernel
theorem i_X8_stepsBy_36 : fetch 216 36 = some (.iload_n 1, 37, 0, 0, 0, 0) := by decide +kernel
theorem i_X8_stepsBy_37 : fetch 216 37 = some (.iaload, 38, 0, 0, 0, 0) := by decide +kernel
theorem i_X8_stepsBy_38 : fetch 216 38 = some (.iconst (-1), 39, 0, 0, 0, 0) := by decide +kernel
theorem i_X8_stepsBy_39 : fetch 216 39 = some (.if_icmp .ne 6, 42, 0, 0, 0, 0) := by decide +kernel
theorem i_X8_stepsBy_42 : fetch 216 42 = some (.bipush (-11), 44, 0, 0, 0, 0) := by decide +kernel
theorem i_X8_stepsBy_44 : fetch 216 44 = some (.ireturn, 45, 0, 0, 0, 0) := by decide +kernel
theorem i_X8_stepsBy_45 : fetch 216 45 = some (.aload_n 0, 46, 0, 0, 0, 0) := by decide +kernel
theorem i_X8_stepsBy_46 : fetch 216 46 = some (.getfield 51, 49, 8, 22, 0, 1031) := by decide +kernel
theorem i_X8_stepsBy_49 : fetch 216 49 = some (.iload_n 1, 50, 0, 0, 0, 0) := by decide +kernel
theorem i_X8_stepsBy_50 : fetch 216 50 = some (.iaload, 51, 0, 0, 0, 0) := by decide +kernel
theorem i_X8_stepsBy_51 : fetch 216 51 = some (.iload_n 2, 52, 0, 0, 0, 0) := by decide +kernel
theorem i_X8_stepsBy_52 : fetch 216 52 = some (.if_icmp .eq 6, 55, 0, 0, 0, 0) := by decide +kernel
theorem i_X8_stepsBy_55 : fetch 216 55 = some (.bipush (-13), 57, 0, 0, 0, 0) := by decide +kernel
theorem i_X8_stepsBy_57 : fetch 216 57 = some (.ireturn, 58, 0, 0, 0, 0) := by decide +kernel
theorem i_X8_stepsBy_58 : fetch 216 58 = some (.iconst 0, 59, 0, 0, 0, 0) := by decide +kernel
theorem i_X8_stepsBy_59 : fetch 216 59 = some (.istore 5, 61, 0, 0, 0, 0) := by decide +kernel
theorem i_X8_stepsBy_61 : fetch 216 61 = some (.iconst 0, 62, 0, 0, 0, 0) := by decide +kernel
theorem i_X8_stepsBy_62 : fetch 216 62 = some (.istore 6, 64, 0, 0, 0, 0) := by decide +kernel
theorem i_X8_stepsBy_64 : fetch 216 64 = some (.iload 6, 66, 0, 0, 0, 0) := by decide +kernel
theorem i_X8_stepsBy_66 : fetch 216 66 = some (.iload 4, 68, 0, 0, 0, 0) := by decide +kernel
theorem i_X8_stepsBy_68 : fetch 216 68 = some (.if_icmp .ge 94, 71, 0, 0, 0, 0) := by decide +kernel
theorem i_X8_stepsBy_71 : fetch 216 71 = some (.iload_n 3, 72, 0, 0, 0, 0) := by decide +kernel
theorem i_X8_stepsBy_72 : fetch 216 72 = some (.iconst 3, 73, 0, 0, 0, 0) := by decide +kernel
theorem i_X8_stepsBy_73 : fetch 216 73 = some (.iload 6, 75, 0, 0, 0, 0) := by decide +kernel
theorem i_X8_stepsBy_75 : fetch 216 75 = some (.imul, 76, 0, 0, 0, 0) := by decide +kernel
theorem i_X8_stepsBy_76 : fetch 216 76 = some (.iadd, 77, 0, 0, 0, 0) := by decide +kernel
theorem i_X8_stepsBy_77 : fetch 216 77 = some (.istore 7, 79, 0, 0, 0, 0) := by decide +kernel
theorem i_X8_stepsBy_79 : fetch 216 79 = some (.iload_n 3, 80, 0, 0, 0, 0) := by decide +kernel
theorem i_X8_stepsBy_80 : fetch 216 80 = some (.ifCond .lt 22, 83, 0, 0, 0, 0) := by decide +kernel
theorem i_X8_stepsBy_83 : fetch 216 83 = some (.iload 7, 85, 0, 0, 0, 0) := by decide +kernel
theorem i_X8_stepsBy_85 : fetch 216 85 = some (.iload_n 3, 86, 0, 0, 0, 0) := by decide +kernel
theorem i_X8_stepsBy_86 : fetch 216 86 = some (.if_icmp .lt 16, 89, 0, 0, 0, 0) := by decide +kernel
theorem i_X8_stepsBy_89 : fetch 216 89 = some (.iload 7, 91, 0, 0, 0, 0) := by decide +kernel
theorem i_X8_stepsBy_91 : fetch 216 91 = some (.aload_n 0, 92, 0, 0, 0, 0) := by decide +kernel
theorem i_X8_stepsBy_92 : fetch 216 92 = some (.getfield 54, 95, 8, 23, 0, 1032) := by decide +kernel
theorem i_X8_stepsBy_95 : fetch 216 95 = some (.iload_n 1, 96, 0, 0, 0, 0) := by decide +kernel
theorem i_X8_stepsBy_96 : fetch 216 96 = some (.iaload, 97, 0, 0, 0, 0) := by decide +kernel
theorem i_X8_stepsBy_97 : fetch 216 97 = some (.iconst 3, 98, 0, 0, 0, 0) := by decide +kernel
theorem i_X8_stepsBy_98 : fetch 216 98 = some (.isub, 99, 0, 0, 0, 0) := by decide +kernel
theorem i_X8_stepsBy_99 : fetch 216 99 = some (.if_icmp .le 6, 102, 0, 0, 0, 0) := by decide +kernel
theorem i_X8_stepsBy_102 : fetch 216 102 = some (.bipush (-12), 104, 0, 0, 0, 0) := by decide +kernel
theorem i_X8_stepsBy_104 : fetch 216 104 = some (.ireturn, 105, 0, 0, 0, 0) := by decide +kernel
theorem i_X8_stepsBy_105 : fetch 216 105 = some (.bipush 40, 107, 0, 0, 0, 0) := by decide +kernel
theorem i_X8_stepsBy_107 : fetch 216 107 = some (.iload_n 1, 108, 0, 0, 0, 0) := by decide +kernel
theorem i_X8_stepsBy_108 : fetch 216 108 = some (.imul, 109, 0, 0, 0, 0) := by decide +kernel
theorem i_X8_stepsBy_109 : fetch 216 109 = some (.iload 7, 111, 0, 0, 0, 0) := by decide +kernel
theorem i_X8_stepsBy_111 : fetch 216 111 = some (.iadd, 112, 0, 0, 0, 0) := by decide +kernel
theorem i_X8_stepsBy_112 : fetch 216 112 = some (.istore 8, 114, 0, 0, 0, 0) := by decide +kernel
theorem i_X8_stepsBy_114 : fetch 216 114 = some (.iload 5, 116, 0, 0, 0, 0) := by decide +kernel
theorem i_X8_stepsBy_116 : fetch 216 116 = some (.aload_n 0, 117, 0, 0, 0, 0) := by decide +kernel
theorem i_X8_stepsBy_117 : fetch 216 117 = some (.aload_n 0, 118, 0, 0, 0, 0) := by decide +kernel
theorem i_X8_stepsBy_118 : fetch 216 118 = some (.getfield 57, 121, 8, 24, 0, 1033) := by decide +kernel
theorem i_X8_stepsBy_121 : fetch 216 121 = some (.iload 8, 123, 0, 0, 0, 0) := by decide +kernel
theorem i_X8_stepsBy_123 : fetch 216 123 = some (.iaload, 124, 0, 0, 0, 0) := by decide +kernel
theorem i_X8_stepsBy_124 : fetch 216 124 = some (.aload_n 0, 125, 0, 0, 0, 0) := by decide +kernel
theorem i_X8_stepsBy_125 : fetch 216 125 = some (.getfield 57, 128, 8, 24, 0, 1033) := by decide +kernel
theorem i_X8_stepsBy_128 : fetch 216 128 = some (.iload 8, 130, 0, 0, 0, 0) := by decide +kernel
theorem i_X8_stepsBy_130 : fetch 216 130 = some (.iconst 1, 131, 0, 0, 0, 0) := by decide +kernel
theorem i_X8_stepsBy_131 : fetch 216 131 = some (.iadd, 132, 0, 0, 0, 0) := by decide +kernel
theorem i_X8_stepsBy_132 : fetch 216 132 = some (.iaload, 133, 0, 0, 0, 0) := by decide +kernel
theorem i_X8_stepsBy_133 : fetch 216 133 = some (.aload_n 0, 134, 0, 0, 0, 0) := by decide +kernel
theorem i_X8_stepsBy_134 : fetch 216 134 = some (.getfield 57, 137, 8, 24, 0, 1033) := by decide +kernel
theorem i_X8_stepsBy_137 : fetch 216 137 = some (.iload 8, 139, 0, 0, 0, 0) := by decide +kernel
theorem i_X8_stepsBy_139 : fetch 216 139 = some (.iconst 2, 140, 0, 0, 0, 0) := by decide +kernel
theorem i_X8_stepsBy_140 : fetch 216 140 = some (.iadd, 141, 0, 0, 0, 0) := by decide +kernel
theorem i_X8_stepsBy_141 : fetch 216 141 = some (.iaload, 142, 0, 0, 0, 0) := by decide +kernel
theorem i_X8_stepsBy_142 : fetch 216 142 = some (.invokevirtual 370, 145, 150, 0, 0, 1494) := by decide +kernel
theorem i_X8_stepsBy_145 : fetch 216 145 = some (.ifCond .lt 7, 148, 0, 0, 0, 0) := by decide +kernel
theorem i_X8_stepsBy_148 : fetch 216 148 = some (.iconst 1, 149, 0, 0, 0, 0) := by decide +kernel
theorem i_X8_stepsBy_149 : fetch 216 149 = some (.goto 4, 152, 0, 0, 0, 0) := by decide +kernel
theorem i_X8_stepsBy_152 : fetch 216 152 = some (.iconst 0, 153, 0, 0, 0, 0) := by decide +kernel
theorem i_X8_stepsBy_153 : fetch 216 153 = some (.iadd, 154, 0, 0, 0, 0) := by decide +kernel
theorem i_X8_stepsBy_154 : fetch 216 154 = some (.istore 5, 156, 0, 0, 0, 0) := by decide +kernel
theorem i_X8_stepsBy_156 : fetch 216 156 = some (.iinc 6 1, 159, 0, 0, 0, 0) := by decide +kernel
theorem i_X8_stepsBy_159 : fetch 216 159 = some (.goto (-95), 162, 0, 0, 0, 0) := by decide +kernel
theorem i_X8_stepsBy_162 : fetch 216 162 = some (.iload 5, 164, 0, 0, 0, 0) := by decide +kernel
theorem i_X8_stepsBy_164 : fetch 216 164 = some (.ireturn, 165, 0, 0, 0, 0) := by decide +kernel
def f_X8_stepsBy_153 (n : Nat) (K64 : Nat → Int32 → Int32 → Int32 → Int32 → Int32 → Hp → Option (Int32 × Hp)) (v0 : Nat) (v1 : Int32) (v3 : Int32) (v4 : Int32) (v6 : Int32) (s0 : Int32) (s1 : Int32) (h : Hp) : Option (Int32 × Hp) :=
  K64 v0 v1 v3 v4 (s0 + s1) (v6 + 1) h
set_option maxRecDepth 100000 in
set_option maxHeartbeats 4000000 in
theorem r_X8_stepsBy_153 {X : Nat → Int32} {d : Nat} (hd : 2 ≤ (d + 1)) {n : Nat} {K64 : Nat → Int32 → Int32 → Int32 → Int32 → Int32 → Hp → Option (Int32 × Hp)} (HK64 : ∀ (v0 : Nat) (v1 : Int32) (v3 : Int32) (v4 : Int32) (v5 : Int32) (v6 : Int32) (d2 : Int32) (w7 : Option Value) (w8 : Option Value) (h : Hp) (o : (Int32 × Hp)), K64 v0 v1 v3 v4 v5 v6 h = some o → Run X (d + 1) 216 64 [some (.ref v0), some (.int v1), some (.int d2), some (.int v3), some (.int v4), some (.int v5), some (.int v6), w7, w8] [] h (some (.int o.1), o.2)) {v0 : Nat} {v1 : Int32} {v3 : Int32} {v4 : Int32} {v6 : Int32} {s0 : Int32} {s1 : Int32} {d2 : Int32} {d5 : Int32} {d7 : Int32} {d8 : Int32} {h : Hp} {o : (Int32 × Hp)} (hf : f_X8_stepsBy_153 n K64 v0 v1 v3 v4 v6 s0 s1 h = some o) : Run X (d + 1) 216 153 [some (.ref v0), some (.int v1), some (.int d2), some (.int v3), some (.int v4), some (.int d5), some (.int v6), some (.int d7), some (.int d8)] [.int s1, .int s0] h (some (.int o.1), o.2) := by
  unfold f_X8_stepsBy_153 at hf
  refine rs_iadd i_X8_stepsBy_153 ?_
  refine rs_istore i_X8_stepsBy_154 (Nat.le_of_ble_eq_true rfl) (lv' := [some (.ref v0), some (.int v1), some (.int d2), some (.int v3), some (.int v4), some (.int (s0 + s1)), some (.int v6), some (.int d7), some (.int d8)]) rfl ?_
  refine rs_iinc i_X8_stepsBy_156 rfl (v := v6 + 1) rfl (Nat.le_of_ble_eq_true rfl) (lv' := [some (.ref v0), some (.int v1), some (.int d2), some (.int v3), some (.int v4), some (.int (s0 + s1)), some (.int (v6 + 1)), some (.int d7), some (.int d8)]) rfl ?_
  refine rs_goto i_X8_stepsBy_159 (tg := 64) (by decide) ?_
  exact HK64 _ _ _ _ _ _ _ _ _ _ _ hf
def f_X8_stepsBy_64 (n : Nat) : Nat → Nat → Int32 → Int32 → Int32 → Int32 → Int32 → Hp → Option (Int32 × Hp)
  | 0, _, _, _, _, _, _, _ => none
  | m + 1, v0, v1, v3, v4, v5, v6, h =>
    if v4 ≤ v6 then
      some (v5, h)
    else
      if v3 < 0 then
        some ((-12), h)
      else
        if (v3 + (3 * v6)) < v3 then
          some ((-12), h)
        else
          if okO h v0 8 then
          (gR h v0 23).bind fun a5 =>
          if okI h a5 v1 then
          if (v3 + (3 * v6)) ≤ ((gI h a5 (ix v1)) - 3) then
            (gR h v0 24).bind fun a8 =>
            if okI h a8 ((40 * v1) + (v3 + (3 * v6))) then
            if okI h a8 (((40 * v1) + (v3 + (3 * v6))) + 1) then
            if okI h a8 (((40 * v1) + (v3 + (3 * v6))) + 2) then
            (f_X8_step v0 (gI h a8 (ix ((40 * v1) + (v3 + (3 * v6))))) (gI h a8 (ix (((40 * v1) + (v3 + (3 * v6))) + 1))) (gI h a8 (ix (((40 * v1) + (v3 + (3 * v6))) + 2))) h).bind fun o12 =>
            if o12.1 < 0 then
              f_X8_stepsBy_153 n (f_X8_stepsBy_64 n m) v0 v1 v3 v4 v6 v5 0 o12.2
            else
              f_X8_stepsBy_153 n (f_X8_stepsBy_64 n m) v0 v1 v3 v4 v6 v5 1 o12.2
            else none
            else none
            else none
          else
            some ((-12), h)
          else none
          else none
set_option maxRecDepth 100000 in
set_option maxHeartbeats 4000000 in
theorem r_X8_stepsBy_64 {X : Nat → Int32} {d : Nat} (hd : 2 ≤ (d + 1)) {n : Nat} : ∀ (m : Nat) (v0 : Nat) (v1 : Int32) (v3 : Int32) (v4 : Int32) (v5 : Int32) (v6 : Int32) (d2 : Int32) (w7 : Option Value) (w8 : Option Value) (h : Hp) (o : (Int32 × Hp)), f_X8_stepsBy_64 n m v0 v1 v3 v4 v5 v6 h = some o → Run X (d + 1) 216 64 [some (.ref v0), some (.int v1), some (.int d2), some (.int v3), some (.int v4), some (.int v5), some (.int v6), w7, w8] [] h (some (.int o.1), o.2) := by
  intro m
  induction m with
  | zero => intro v0 v1 v3 v4 v5 v6 d2 w7 w8 h o hf; cases hf
  | succ m ih =>
    intro v0 v1 v3 v4 v5 v6 d2 w7 w8 h o hf
    rw [f_X8_stepsBy_64] at hf
    refine rs_iload i_X8_stepsBy_64 rfl ?_
    refine rs_iload i_X8_stepsBy_66 rfl ?_
    by_cases c1 : v4 ≤ v6
    · replace hf := (if_pos c1).symm.trans hf
      refine rs_icT i_X8_stepsBy_68 (ct_ge c1) (tg := 162) (by decide) ?_
      refine rs_iload i_X8_stepsBy_162 rfl ?_
      have hf := Option.some.inj hf
      subst hf
      exact rs_iret i_X8_stepsBy_164 m_X8_stepsBy rfl
    · replace hf := (if_neg c1).symm.trans hf
      refine rs_icF i_X8_stepsBy_68 (cf_ge c1) ?_
      refine rs_iload_n i_X8_stepsBy_71 rfl ?_
      refine rs_iconst i_X8_stepsBy_72 (v := 3) (by decide) ?_
      refine rs_iload i_X8_stepsBy_73 rfl ?_
      refine rs_imul i_X8_stepsBy_75 ?_
      refine rs_iadd i_X8_stepsBy_76 ?_
      refine rs_istore i_X8_stepsBy_77 (Nat.le_of_ble_eq_true rfl) (lv' := [some (.ref v0), some (.int v1), some (.int d2), some (.int v3), some (.int v4), some (.int v5), some (.int v6), some (.int (v3 + (3 * v6))), w8]) rfl ?_
      refine rs_iload_n i_X8_stepsBy_79 rfl ?_
      by_cases c2 : v3 < 0
      · replace hf := (if_pos c2).symm.trans hf
        refine rs_ifT i_X8_stepsBy_80 (ct_lt c2) (tg := 102) (by decide) ?_
        refine rs_bipush i_X8_stepsBy_102 (v := (-12)) (by decide) ?_
        have hf := Option.some.inj hf
        subst hf
        exact rs_iret i_X8_stepsBy_104 m_X8_stepsBy rfl
      · replace hf := (if_neg c2).symm.trans hf
        refine rs_ifF i_X8_stepsBy_80 (cf_lt c2) ?_
        refine rs_iload i_X8_stepsBy_83 rfl ?_
        refine rs_iload_n i_X8_stepsBy_85 rfl ?_
        by_cases c3 : (v3 + (3 * v6)) < v3
        · replace hf := (if_pos c3).symm.trans hf
          refine rs_icT i_X8_stepsBy_86 (ct_lt c3) (tg := 102) (by decide) ?_
          refine rs_bipush i_X8_stepsBy_102 (v := (-12)) (by decide) ?_
          have hf := Option.some.inj hf
          subst hf
          exact rs_iret i_X8_stepsBy_104 m_X8_stepsBy rfl
        · replace hf := (if_neg c3).symm.trans hf
          refine rs_icF i_X8_stepsBy_86 (cf_lt c3) ?_
          refine rs_iload i_X8_stepsBy_89 rfl ?_
          refine rs_aload_n i_X8_stepsBy_91 rfl ?_
          obtain ⟨c4, hf⟩ := ite_some hf
          obtain ⟨a5, e5, hf⟩ := bind_some hf
          refine rs_getR i_X8_stepsBy_92 (by decide) (by decide) c4 e5 ?_
          refine rs_iload_n i_X8_stepsBy_95 rfl ?_
          obtain ⟨c6, hf⟩ := ite_some hf
          refine rs_iald i_X8_stepsBy_96 c6 ?_
          refine rs_iconst i_X8_stepsBy_97 (v := 3) (by decide) ?_
          refine rs_isub i_X8_stepsBy_98 ?_
          by_cases c7 : (v3 + (3 * v6)) ≤ ((gI h a5 (ix v1)) - 3)
          · replace hf := (if_pos c7).symm.trans hf
            refine rs_icT i_X8_stepsBy_99 (ct_le c7) (tg := 105) (by decide) ?_
            refine rs_bipush i_X8_stepsBy_105 (v := 40) (by decide) ?_
            refine rs_iload_n i_X8_stepsBy_107 rfl ?_
            refine rs_imul i_X8_stepsBy_108 ?_
            refine rs_iload i_X8_stepsBy_109 rfl ?_
            refine rs_iadd i_X8_stepsBy_111 ?_
            refine rs_istore i_X8_stepsBy_112 (Nat.le_of_ble_eq_true rfl) (lv' := [some (.ref v0), some (.int v1), some (.int d2), some (.int v3), some (.int v4), some (.int v5), some (.int v6), some (.int (v3 + (3 * v6))), some (.int ((40 * v1) + (v3 + (3 * v6))))]) rfl ?_
            refine rs_iload i_X8_stepsBy_114 rfl ?_
            refine rs_aload_n i_X8_stepsBy_116 rfl ?_
            refine rs_aload_n i_X8_stepsBy_117 rfl ?_
            obtain ⟨a8, e8, hf⟩ := bind_some hf
            refine rs_getR i_X8_stepsBy_118 (by decide) (by decide) c4 e8 ?_
            refine rs_iload i_X8_stepsBy_121 rfl ?_
            obtain ⟨c9, hf⟩ := ite_some hf
            refine rs_iald i_X8_stepsBy_123 c9 ?_
            refine rs_aload_n i_X8_stepsBy_124 rfl ?_
            refine rs_getR i_X8_stepsBy_125 (by decide) (by decide) c4 e8 ?_
            refine rs_iload i_X8_stepsBy_128 rfl ?_
            refine rs_iconst i_X8_stepsBy_130 (v := 1) (by decide) ?_
            refine rs_iadd i_X8_stepsBy_131 ?_
            obtain ⟨c10, hf⟩ := ite_some hf
            refine rs_iald i_X8_stepsBy_132 c10 ?_
            refine rs_aload_n i_X8_stepsBy_133 rfl ?_
            refine rs_getR i_X8_stepsBy_134 (by decide) (by decide) c4 e8 ?_
            refine rs_iload i_X8_stepsBy_137 rfl ?_
            refine rs_iconst i_X8_stepsBy_139 (v := 2) (by decide) ?_
            refine rs_iadd i_X8_stepsBy_140 ?_
            obtain ⟨c11, hf⟩ := ite_some hf
            refine rs_iald i_X8_stepsBy_141 c11 ?_
            obtain ⟨o12, e12, hf⟩ := bind_some hf
            refine rs_inV i_X8_stepsBy_142 m_X8_step rfl (As := [.int (gI h a8 (ix ((40 * v1) + (v3 + (3 * v6))))), .int (gI h a8 (ix (((40 * v1) + (v3 + (3 * v6))) + 1))), .int (gI h a8 (ix (((40 * v1) + (v3 + (3 * v6))) + 2)))]) (rest := [.int v5]) rfl rfl (Nat.le_of_ble_eq_true rfl) c4 (c_X8_step (by omega) e12) (st' := [.int o12.1, .int v5]) rfl ?_
            by_cases c13 : o12.1 < 0
            · replace hf := (if_pos c13).symm.trans hf
              refine rs_ifT i_X8_stepsBy_145 (ct_lt c13) (tg := 152) (by decide) ?_
              refine rs_iconst i_X8_stepsBy_152 (v := 0) (by decide) ?_
              exact r_X8_stepsBy_153 hd ih hf
            · replace hf := (if_neg c13).symm.trans hf
              refine rs_ifF i_X8_stepsBy_145 (cf_lt c13) ?_
              refine rs_iconst i_X8_stepsBy_148 (v := 1) (by decide) ?_
              refine rs_goto i_X8_stepsBy_149 (tg := 153) (by decide) ?_
              exact r_X8_stepsBy_153 hd ih hf
          · replace hf := (if_neg c7).symm.trans hf
            refine rs_icF i_X8_stepsBy_99 (cf_le c7) ?_
            refine rs_bipush i_X8_stepsBy_102 (v := (-12)) (by decide) ?_
            have hf := Option.some.inj hf
            subst hf
            exact rs_iret i_X8_stepsBy_104 m_X8_stepsBy rfl
def f_X8_stepsBy_0 (n : Nat) (v0 : Nat) (v1 : Int32) (v2 : Int32) (v3 : Int32) (v4 : Int32) (h : Hp) : Option (Int32 × Hp) :=
  (f_X8_in v1 0 3 h).bind fun o1 =>
  if o1.1 = 0 then
    some ((-2), o1.2)
  else
    (f_X8_in v2 0 2 o1.2).bind fun o3 =>
    if o3.1 = 0 then
      some ((-2), o3.2)
    else
      (f_X8_in v4 0 12 o3.2).bind fun o5 =>
      if o5.1 ≠ 0 then
        if okO o5.2 v0 8 then
        (gR o5.2 v0 22).bind fun a8 =>
        if okI o5.2 a8 v1 then
        if (gI o5.2 a8 (ix v1)) ≠ (-1) then
          if (gI o5.2 a8 (ix v1)) = v2 then
            f_X8_stepsBy_64 n n v0 v1 v3 v4 0 0 o5.2
          else
            some ((-13), o5.2)
        else
          some ((-11), o5.2)
        else none
        else none
      else
        some ((-2), o5.2)
set_option maxRecDepth 100000 in
set_option maxHeartbeats 4000000 in
theorem r_X8_stepsBy_0 {X : Nat → Int32} {d : Nat} (hd : 2 ≤ (d + 1)) {n : Nat} {v0 : Nat} {v1 : Int32} {v2 : Int32} {v3 : Int32} {v4 : Int32} {h : Hp} {o : (Int32 × Hp)} (hf : f_X8_stepsBy_0 n v0 v1 v2 v3 v4 h = some o) : Run X (d + 1) 216 0 [some (.ref v0), some (.int v1), some (.int v2), some (.int v3), some (.int v4), none, none, none, none] [] h (some (.int o.1), o.2) := by
  unfold f_X8_stepsBy_0 at hf
  refine rs_iload_n i_X8_stepsBy_0 rfl ?_
  refine rs_iconst i_X8_stepsBy_1 (v := 0) (by decide) ?_
  refine rs_iconst i_X8_stepsBy_2 (v := 3) (by decide) ?_
  obtain ⟨o1, e1, hf⟩ := bind_some hf
  refine rs_inS i_X8_stepsBy_3 (by decide) m_X8_in rfl (As := [.int v1, .int 0, .int 3]) (rest := []) rfl rfl (Nat.le_of_ble_eq_true rfl) (c_X8_in (by omega) e1) (st' := [.int o1.1]) rfl ?_
  by_cases c2 : o1.1 = 0
  · replace hf := (if_pos c2).symm.trans hf
    refine rs_ifT i_X8_stepsBy_6 (ct_eq c2) (tg := 29) (by decide) ?_
    refine rs_bipush i_X8_stepsBy_29 (v := (-2)) (by decide) ?_
    have hf := Option.some.inj hf
    subst hf
    exact rs_iret i_X8_stepsBy_31 m_X8_stepsBy rfl
  · replace hf := (if_neg c2).symm.trans hf
    refine rs_ifF i_X8_stepsBy_6 (cf_eq c2) ?_
    refine rs_iload_n i_X8_stepsBy_9 rfl ?_
    refine rs_iconst i_X8_stepsBy_10 (v := 0) (by decide) ?_
    refine rs_iconst i_X8_stepsBy_11 (v := 2) (by decide) ?_
    obtain ⟨o3, e3, hf⟩ := bind_some hf
    refine rs_inS i_X8_stepsBy_12 (by decide) m_X8_in rfl (As := [.int v2, .int 0, .int 2]) (rest := []) rfl rfl (Nat.le_of_ble_eq_true rfl) (c_X8_in (by omega) e3) (st' := [.int o3.1]) rfl ?_
    by_cases c4 : o3.1 = 0
    · replace hf := (if_pos c4).symm.trans hf
      refine rs_ifT i_X8_stepsBy_15 (ct_eq c4) (tg := 29) (by decide) ?_
      refine rs_bipush i_X8_stepsBy_29 (v := (-2)) (by decide) ?_
      have hf := Option.some.inj hf
      subst hf
      exact rs_iret i_X8_stepsBy_31 m_X8_stepsBy rfl
    · replace hf := (if_neg c4).symm.trans hf
      refine rs_ifF i_X8_stepsBy_15 (cf_eq c4) ?_
      refine rs_iload i_X8_stepsBy_18 rfl ?_
      refine rs_iconst i_X8_stepsBy_20 (v := 0) (by decide) ?_
      refine rs_bipush i_X8_stepsBy_21 (v := 12) (by decide) ?_
      obtain ⟨o5, e5, hf⟩ := bind_some hf
      refine rs_inS i_X8_stepsBy_23 (by decide) m_X8_in rfl (As := [.int v4, .int 0, .int 12]) (rest := []) rfl rfl (Nat.le_of_ble_eq_true rfl) (c_X8_in (by omega) e5) (st' := [.int o5.1]) rfl ?_
      by_cases c6 : o5.1 ≠ 0
      · replace hf := (if_pos c6).symm.trans hf
        refine rs_ifT i_X8_stepsBy_26 (ct_ne c6) (tg := 32) (by decide) ?_
        refine rs_aload_n i_X8_stepsBy_32 rfl ?_
        obtain ⟨c7, hf⟩ := ite_some hf
        obtain ⟨a8, e8, hf⟩ := bind_some hf
        refine rs_getR i_X8_stepsBy_33 (by decide) (by decide) c7 e8 ?_
        refine rs_iload_n i_X8_stepsBy_36 rfl ?_
        obtain ⟨c9, hf⟩ := ite_some hf
        refine rs_iald i_X8_stepsBy_37 c9 ?_
        refine rs_iconst i_X8_stepsBy_38 (v := (-1)) (by decide) ?_
        by_cases c10 : (gI o5.2 a8 (ix v1)) ≠ (-1)
        · replace hf := (if_pos c10).symm.trans hf
          refine rs_icT i_X8_stepsBy_39 (ct_ne c10) (tg := 45) (by decide) ?_
          refine rs_aload_n i_X8_stepsBy_45 rfl ?_
          refine rs_getR i_X8_stepsBy_46 (by decide) (by decide) c7 e8 ?_
          refine rs_iload_n i_X8_stepsBy_49 rfl ?_
          refine rs_iald i_X8_stepsBy_50 c9 ?_
          refine rs_iload_n i_X8_stepsBy_51 rfl ?_
          by_cases c11 : (gI o5.2 a8 (ix v1)) = v2
          · replace hf := (if_pos c11).symm.trans hf
            refine rs_icT i_X8_stepsBy_52 (ct_eq c11) (tg := 58) (by decide) ?_
            refine rs_iconst i_X8_stepsBy_58 (v := 0) (by decide) ?_
            refine rs_istore i_X8_stepsBy_59 (Nat.le_of_ble_eq_true rfl) (lv' := [some (.ref v0), some (.int v1), some (.int v2), some (.int v3), some (.int v4), some (.int 0), none, none, none]) rfl ?_
            refine rs_iconst i_X8_stepsBy_61 (v := 0) (by decide) ?_
            refine rs_istore i_X8_stepsBy_62 (Nat.le_of_ble_eq_true rfl) (lv' := [some (.ref v0), some (.int v1), some (.int v2), some (.int v3), some (.int v4), some (.int 0), some (.int 0), none, none]) rfl ?_
            exact r_X8_stepsBy_64 hd _ _ _ _ _ _ _ _ _ _ _ _ hf
          · replace hf := (if_neg c11).symm.trans hf
            refine rs_icF i_X8_stepsBy_52 (cf_eq c11) ?_
            refine rs_bipush i_X8_stepsBy_55 (v := (-13)) (by decide) ?_
            have hf := Option.some.inj hf
            subst hf
            exact rs_iret i_X8_stepsBy_57 m_X8_stepsBy rfl
        · replace hf := (if_neg c10).symm.trans hf
          refine rs_icF i_X8_stepsBy_39 (cf_ne c10) ?_
          refine rs_bipush i_X8_stepsBy_42 (v := (-11)) (by decide) ?_
          have hf := Option.some.inj hf
          subst hf
          exact rs_iret i_X8_stepsBy_44 m_X8_stepsBy rfl
      · replace hf := (if_neg c6).symm.trans hf
        refine rs_ifF i_X8_stepsBy_26 (cf_ne c6) ?_
        refine rs_bipush i_X8_stepsBy_29 (v := (-2)) (by decide) ?_
        have hf := Option.some.inj hf
        subst hf
        exact rs_iret i_X8_stepsBy_31 m_X8_stepsBy rfl
def f_X8_stepsBy (n : Nat) (v0 : Nat) (v1 : Int32) (v2 : Int32) (v3 : Int32) (v4 : Int32) (h : Hp) : Option (Int32 × Hp) := f_X8_stepsBy_0 n v0 v1 v2 v3 v4 h
theorem c_X8_stepsBy {X : Nat → Int32} {d : Nat} (hd : 2 ≤ d) {n : Nat} {v0 : Nat} {v1 : Int32} {v2 : Int32} {v3 : Int32} {v4 : Int32} {h : Hp} {o : (Int32 × Hp)} (hf : f_X8_stepsBy n v0 v1 v2 v3 v4 h = some o) : Calls X d 216 [.ref v0, .int v1, .int v2, .int v3, .int v4] h (some (.int o.1), o.2) := by
  obtain ⟨d, rfl⟩ : ∃ z, d = z + 1 := ⟨d - 1, by omega⟩
  exact ⟨_, rfl, r_X8_stepsBy_0 hd hf⟩
theorem i_X8_isUnder_0 : fetch 217 0 = some (.iload_n 1, 1, 0, 0, 0, 0) := by decide +kernel
theorem i_X8_isUnder_1 : fetch 217 1 = some (.ifCond .eq 28, 4, 0, 0, 0, 0) := by decide +kernel
theorem i_X8_isUnder_4 : fetch 217 4 = some (.iload_n 0, 5, 0, 0, 0, 0) := by decide +kernel
theorem i_X8_isUnder_5 : fetch 217 5 = some (.iload_n 1, 6, 0, 0, 0, 0) := by decide +kernel
theorem i_X8_isUnder_6 : fetch 217 6 = some (.if_icmp .eq 23, 9, 0, 0, 0, 0) := by decide +kernel
theorem i_X8_isUnder_9 : fetch 217 9 = some (.iload_n 1, 10, 0, 0, 0, 0) := by decide +kernel
theorem i_X8_isUnder_10 : fetch 217 10 = some (.iconst 1, 11, 0, 0, 0, 0) := by decide +kernel
theorem i_X8_isUnder_11 : fetch 217 11 = some (.if_icmp .ne 8, 14, 0, 0, 0, 0) := by decide +kernel
theorem i_X8_isUnder_14 : fetch 217 14 = some (.iload_n 0, 15, 0, 0, 0, 0) := by decide +kernel
theorem i_X8_isUnder_15 : fetch 217 15 = some (.iconst 2, 16, 0, 0, 0, 0) := by decide +kernel
theorem i_X8_isUnder_16 : fetch 217 16 = some (.if_icmp .eq 13, 19, 0, 0, 0, 0) := by decide +kernel
theorem i_X8_isUnder_19 : fetch 217 19 = some (.iload_n 1, 20, 0, 0, 0, 0) := by decide +kernel
theorem i_X8_isUnder_20 : fetch 217 20 = some (.iconst 3, 21, 0, 0, 0, 0) := by decide +kernel
theorem i_X8_isUnder_21 : fetch 217 21 = some (.if_icmp .ne 12, 24, 0, 0, 0, 0) := by decide +kernel
theorem i_X8_isUnder_24 : fetch 217 24 = some (.iload_n 0, 25, 0, 0, 0, 0) := by decide +kernel
theorem i_X8_isUnder_25 : fetch 217 25 = some (.iconst 5, 26, 0, 0, 0, 0) := by decide +kernel
theorem i_X8_isUnder_26 : fetch 217 26 = some (.if_icmp .ne 7, 29, 0, 0, 0, 0) := by decide +kernel
theorem i_X8_isUnder_29 : fetch 217 29 = some (.iconst 1, 30, 0, 0, 0, 0) := by decide +kernel
theorem i_X8_isUnder_30 : fetch 217 30 = some (.goto 4, 33, 0, 0, 0, 0) := by decide +kernel
theorem i_X8_isUnder_33 : fetch 217 33 = some (.iconst 0, 34, 0, 0, 0, 0) := by decide +kernel
theorem i_X8_isUnder_34 : fetch 217 34 = some (.ireturn, 35, 0, 0, 0, 0) := by decide +kernel
def f_X8_isUnder_29  (h : Hp) : Option (Int32 × Hp) :=
  some (1, h)
set_option maxRecDepth 100000 in
set_option maxHeartbeats 4000000 in
theorem r_X8_isUnder_29 {X : Nat → Int32} {d : Nat} (hd : 0 ≤ d) {d0 : Int32} {d1 : Int32} {h : Hp} {o : (Int32 × Hp)} (hf : f_X8_isUnder_29 h = some o) : Run X d 217 29 [some (.int d0), some (.int d1)] [] h (some (.int o.1), o.2) := by
  unfold f_X8_isUnder_29 at hf
  refine rs_iconst i_X8_isUnder_29 (v := 1) (by decide) ?_
  refine rs_goto i_X8_isUnder_30 (tg := 34) (by decide) ?_
  have hf := Option.some.inj hf
  subst hf
  exact rs_iret i_X8_isUnder_34 m_X8_isUnder (by decide)
def f_X8_isUnder_19 (v0 : Int32) (v1 : Int32) (h : Hp) : Option (Int32 × Hp) :=
  if v1 ≠ 3 then
    some (0, h)
  else
    if v0 ≠ 5 then
      some (0, h)
    else
      f_X8_isUnder_29 h
set_option maxRecDepth 100000 in
set_option maxHeartbeats 4000000 in
theorem r_X8_isUnder_19 {X : Nat → Int32} {d : Nat} (hd : 0 ≤ d) {v0 : Int32} {v1 : Int32} {h : Hp} {o : (Int32 × Hp)} (hf : f_X8_isUnder_19 v0 v1 h = some o) : Run X d 217 19 [some (.int v0), some (.int v1)] [] h (some (.int o.1), o.2) := by
  unfold f_X8_isUnder_19 at hf
  refine rs_iload_n i_X8_isUnder_19 rfl ?_
  refine rs_iconst i_X8_isUnder_20 (v := 3) (by decide) ?_
  by_cases c1 : v1 ≠ 3
  · replace hf := (if_pos c1).symm.trans hf
    refine rs_icT i_X8_isUnder_21 (ct_ne c1) (tg := 33) (by decide) ?_
    refine rs_iconst i_X8_isUnder_33 (v := 0) (by decide) ?_
    have hf := Option.some.inj hf
    subst hf
    exact rs_iret i_X8_isUnder_34 m_X8_isUnder (by decide)
  · replace hf := (if_neg c1).symm.trans hf
    refine rs_icF i_X8_isUnder_21 (cf_ne c1) ?_
    refine rs_iload_n i_X8_isUnder_24 rfl ?_
    refine rs_iconst i_X8_isUnder_25 (v := 5) (by decide) ?_
    by_cases c2 : v0 ≠ 5
    · replace hf := (if_pos c2).symm.trans hf
      refine rs_icT i_X8_isUnder_26 (ct_ne c2) (tg := 33) (by decide) ?_
      refine rs_iconst i_X8_isUnder_33 (v := 0) (by decide) ?_
      have hf := Option.some.inj hf
      subst hf
      exact rs_iret i_X8_isUnder_34 m_X8_isUnder (by decide)
    · replace hf := (if_neg c2).symm.trans hf
      refine rs_icF i_X8_isUnder_26 (cf_ne c2) ?_
      exact r_X8_isUnder_29 hd hf
def f_X8_isUnder_0 (v0 : Int32) (v1 : Int32) (h : Hp) : Option (Int32 × Hp) :=
  if v1 = 0 then
    f_X8_isUnder_29 h
  else
    if v0 = v1 then
      f_X8_isUnder_29 h
    else
      if v1 ≠ 1 then
        f_X8_isUnder_19 v0 v1 h
      else
        if v0 = 2 then
          f_X8_isUnder_29 h
        else
          f_X8_isUnder_19 v0 v1 h
set_option maxRecDepth 100000 in
set_option maxHeartbeats 4000000 in
theorem r_X8_isUnder_0 {X : Nat → Int32} {d : Nat} (hd : 0 ≤ d) {v0 : Int32} {v1 : Int32} {h : Hp} {o : (Int32 × Hp)} (hf : f_X8_isUnder_0 v0 v1 h = some o) : Run X d 217 0 [some (.int v0), some (.int v1)] [] h (some (.int o.1), o.2) := by
  unfold f_X8_isUnder_0 at hf
  refine rs_iload_n i_X8_isUnder_0 rfl ?_
  by_cases c1 : v1 = 0
  · replace hf := (if_pos c1).symm.trans hf
    refine rs_ifT i_X8_isUnder_1 (ct_eq c1) (tg := 29) (by decide) ?_
    exact r_X8_isUnder_29 hd hf
  · replace hf := (if_neg c1).symm.trans hf
    refine rs_ifF i_X8_isUnder_1 (cf_eq c1) ?_
    refine rs_iload_n i_X8_isUnder_4 rfl ?_
    refine rs_iload_n i_X8_isUnder_5 rfl ?_
    by_cases c2 : v0 = v1
    · replace hf := (if_pos c2).symm.trans hf
      refine rs_icT i_X8_isUnder_6 (ct_eq c2) (tg := 29) (by decide) ?_
      exact r_X8_isUnder_29 hd hf
    · replace hf := (if_neg c2).symm.trans hf
      refine rs_icF i_X8_isUnder_6 (cf_eq c2) ?_
      refine rs_iload_n i_X8_isUnder_9 rfl ?_
      refine rs_iconst i_X8_isUnder_10 (v := 1) (by decide) ?_
      by_cases c3 : v1 ≠ 1
      · replace hf := (if_pos c3).symm.trans hf
        refine rs_icT i_X8_isUnder_11 (ct_ne c3) (tg := 19) (by decide) ?_
        exact r_X8_isUnder_19 hd hf
      · replace hf := (if_neg c3).symm.trans hf
        refine rs_icF i_X8_isUnder_11 (cf_ne c3) ?_
        refine rs_iload_n i_X8_isUnder_14 rfl ?_
        refine rs_iconst i_X8_isUnder_15 (v := 2) (by decide) ?_
        by_cases c4 : v0 = 2
        · replace hf := (if_pos c4).symm.trans hf
          refine rs_icT i_X8_isUnder_16 (ct_eq c4) (tg := 29) (by decide) ?_
          exact r_X8_isUnder_29 hd hf
        · replace hf := (if_neg c4).symm.trans hf
          refine rs_icF i_X8_isUnder_16 (cf_eq c4) ?_
          exact r_X8_isUnder_19 hd hf
def f_X8_isUnder (v0 : Int32) (v1 : Int32) (h : Hp) : Option (Int32 × Hp) := f_X8_isUnder_0 v0 v1 h
theorem c_X8_isUnder {X : Nat → Int32} {d : Nat} (hd : 0 ≤ d) {v0 : Int32} {v1 : Int32} {h : Hp} {o : (Int32 × Hp)} (hf : f_X8_isUnder v0 v1 h = some o) : Calls X d 217 [.int v0, .int v1] h (some (.int o.1), o.2) := by
  exact ⟨_, rfl, r_X8_isUnder_0 hd hf⟩
theorem i_X8_taken_0 : fetch 218 0 = some (.iload_n 2, 1, 0, 0, 0, 0) := by decide +kernel
theorem i_X8_taken_1 : fetch 218 1 = some (.iconst 0, 2, 0, 0, 0, 0) := by decide +kernel
theorem i_X8_taken_2 : fetch 218 2 = some (.bipush 6, 4, 0, 0, 0, 0) := by decide +kernel
theorem i_X8_taken_4 : fetch 218 4 = some (.invokestatic 112, 7, 126, 0, 0, 970) := by decide +kernel
theorem i_X8_taken_7 : fetch 218 7 = some (.ifCond .ne 6, 10, 0, 0, 0, 0) := by decide +kernel
theorem i_X8_taken_10 : fetch 218 10 = some (.bipush (-2), 12, 0, 0, 0, 0) := by decide +kernel
theorem i_X8_taken_12 : fetch 218 12 = some (.ireturn, 13, 0, 0, 0, 0) := by decide +kernel
theorem i_X8_taken_13 : fetch 218 13 = some (.iload_n 1, 14, 0, 0, 0, 0) := by decide +kernel
theorem i_X8_taken_14 : fetch 218 14 = some (.iconst 0, 15, 0, 0, 0, 0) := by decide +kernel
theorem i_X8_taken_15 : fetch 218 15 = some (.bipush 23, 17, 0, 0, 0, 0) := by decide +kernel
theorem i_X8_taken_17 : fetch 218 17 = some (.invokestatic 112, 20, 126, 0, 0, 970) := by decide +kernel
theorem i_X8_taken_20 : fetch 218 20 = some (.ifCond .ne 6, 23, 0, 0, 0, 0) := by decide +kernel
theorem i_X8_taken_23 : fetch 218 23 = some (.bipush (-12), 25, 0, 0, 0, 0) := by decide +kernel
theorem i_X8_taken_25 : fetch 218 25 = some (.ireturn, 26, 0, 0, 0, 0) := by decide +kernel
theorem i_X8_taken_26 : fetch 218 26 = some (.iload_n 1, 27, 0, 0, 0, 0) := by decide +kernel
theorem i_X8_taken_27 : fetch 218 27 = some (.bipush 12, 29, 0, 0, 0, 0) := by decide +kernel
theorem i_X8_taken_29 : fetch 218 29 = some (.if_icmp .ge 21, 32, 0, 0, 0, 0) := by decide +kernel
theorem i_X8_taken_32 : fetch 218 32 = some (.iload_n 2, 33, 0, 0, 0, 0) := by decide +kernel
theorem i_X8_taken_33 : fetch 218 33 = some (.bipush 6, 35, 0, 0, 0, 0) := by decide +kernel
theorem i_X8_taken_35 : fetch 218 35 = some (.if_icmp .ne 12, 38, 0, 0, 0, 0) := by decide +kernel
theorem i_X8_taken_38 : fetch 218 38 = some (.aload_n 0, 39, 0, 0, 0, 0) := by decide +kernel
theorem i_X8_taken_39 : fetch 218 39 = some (.getfield 8, 42, 8, 0, 0, 1009) := by decide +kernel
theorem i_X8_taken_42 : fetch 218 42 = some (.iload_n 1, 43, 0, 0, 0, 0) := by decide +kernel
theorem i_X8_taken_43 : fetch 218 43 = some (.iaload, 44, 0, 0, 0, 0) := by decide +kernel
theorem i_X8_taken_44 : fetch 218 44 = some (.goto 5, 47, 0, 0, 0, 0) := by decide +kernel
theorem i_X8_taken_47 : fetch 218 47 = some (.bipush (-13), 49, 0, 0, 0, 0) := by decide +kernel
theorem i_X8_taken_49 : fetch 218 49 = some (.ireturn, 50, 0, 0, 0, 0) := by decide +kernel
theorem i_X8_taken_50 : fetch 218 50 = some (.iload_n 1, 51, 0, 0, 0, 0) := by decide +kernel
theorem i_X8_taken_51 : fetch 218 51 = some (.bipush 12, 53, 0, 0, 0, 0) := by decide +kernel
theorem i_X8_taken_53 : fetch 218 53 = some (.isub, 54, 0, 0, 0, 0) := by decide +kernel
theorem i_X8_taken_54 : fetch 218 54 = some (.aload_n 0, 55, 0, 0, 0, 0) := by decide +kernel
theorem i_X8_taken_55 : fetch 218 55 = some (.getfield 116, 58, 8, 5, 0, 1014) := by decide +kernel
theorem i_X8_taken_58 : fetch 218 58 = some (.if_icmp .lt 8, 61, 0, 0, 0, 0) := by decide +kernel
theorem i_X8_taken_61 : fetch 218 61 = some (.bipush (-11), 63, 0, 0, 0, 0) := by decide +kernel
theorem i_X8_taken_63 : fetch 218 63 = some (.goto 34, 66, 0, 0, 0, 0) := by decide +kernel
theorem i_X8_taken_66 : fetch 218 66 = some (.iload_n 2, 67, 0, 0, 0, 0) := by decide +kernel
theorem i_X8_taken_67 : fetch 218 67 = some (.bipush 6, 69, 0, 0, 0, 0) := by decide +kernel
theorem i_X8_taken_69 : fetch 218 69 = some (.if_icmp .ge 26, 72, 0, 0, 0, 0) := by decide +kernel
theorem i_X8_taken_72 : fetch 218 72 = some (.aload_n 0, 73, 0, 0, 0, 0) := by decide +kernel
theorem i_X8_taken_73 : fetch 218 73 = some (.getfield 27, 76, 8, 6, 0, 1015) := by decide +kernel
theorem i_X8_taken_76 : fetch 218 76 = some (.iload_n 1, 77, 0, 0, 0, 0) := by decide +kernel
theorem i_X8_taken_77 : fetch 218 77 = some (.bipush 12, 79, 0, 0, 0, 0) := by decide +kernel
theorem i_X8_taken_79 : fetch 218 79 = some (.isub, 80, 0, 0, 0, 0) := by decide +kernel
theorem i_X8_taken_80 : fetch 218 80 = some (.iaload, 81, 0, 0, 0, 0) := by decide +kernel
theorem i_X8_taken_81 : fetch 218 81 = some (.iload_n 2, 82, 0, 0, 0, 0) := by decide +kernel
theorem i_X8_taken_82 : fetch 218 82 = some (.invokestatic 373, 85, 217, 0, 0, 1499) := by decide +kernel
theorem i_X8_taken_85 : fetch 218 85 = some (.ifCond .eq 10, 88, 0, 0, 0, 0) := by decide +kernel
theorem i_X8_taken_88 : fetch 218 88 = some (.iload_n 1, 89, 0, 0, 0, 0) := by decide +kernel
theorem i_X8_taken_89 : fetch 218 89 = some (.bipush 12, 91, 0, 0, 0, 0) := by decide +kernel
theorem i_X8_taken_91 : fetch 218 91 = some (.isub, 92, 0, 0, 0, 0) := by decide +kernel
theorem i_X8_taken_92 : fetch 218 92 = some (.goto 5, 95, 0, 0, 0, 0) := by decide +kernel
theorem i_X8_taken_95 : fetch 218 95 = some (.bipush (-13), 97, 0, 0, 0, 0) := by decide +kernel
theorem i_X8_taken_97 : fetch 218 97 = some (.ireturn, 98, 0, 0, 0, 0) := by decide +kernel
def f_X8_taken_0 (v0 : Nat) (v1 : Int32) (v2 : Int32) (h : Hp) : Option (Int32 × Hp) :=
  (f_X8_in v2 0 6 h).bind fun o1 =>
  if o1.1 ≠ 0 then
    (f_X8_in v1 0 23 o1.2).bind fun o3 =>
    if o3.1 ≠ 0 then
      if 12 ≤ v1 then
        if okO o3.2 v0 8 then
        if (v1 - 12) < (gI o3.2 v0 5) then
          if 6 ≤ v2 then
            some ((-13), o3.2)
          else
            (gR o3.2 v0 6).bind fun a9 =>
            if okI o3.2 a9 (v1 - 12) then
            (f_X8_isUnder (gI o3.2 a9 (ix (v1 - 12))) v2 o3.2).bind fun o11 =>
            if o11.1 = 0 then
              some ((-13), o11.2)
            else
              some ((v1 - 12), o11.2)
            else none
        else
          some ((-11), o3.2)
        else none
      else
        if v2 ≠ 6 then
          some ((-13), o3.2)
        else
          if okO o3.2 v0 8 then
          (gR o3.2 v0 0).bind fun a15 =>
          if okI o3.2 a15 v1 then
          some ((gI o3.2 a15 (ix v1)), o3.2)
          else none
          else none
    else
      some ((-12), o3.2)
  else
    some ((-2), o1.2)
set_option maxRecDepth 100000 in
set_option maxHeartbeats 4000000 in
theorem r_X8_taken_0 {X : Nat → Int32} {d : Nat} (hd : 1 ≤ (d + 1)) {v0 : Nat} {v1 : Int32} {v2 : Int32} {h : Hp} {o : (Int32 × Hp)} (hf : f_X8_taken_0 v0 v1 v2 h = some o) : Run X (d + 1) 218 0 [some (.ref v0), some (.int v1), some (.int v2)] [] h (some (.int o.1), o.2) := by
  unfold f_X8_taken_0 at hf
  refine rs_iload_n i_X8_taken_0 rfl ?_
  refine rs_iconst i_X8_taken_1 (v := 0) (by decide) ?_
  refine rs_bipush i_X8_taken_2 (v := 6) (by decide) ?_
  obtain ⟨o1, e1, hf⟩ := bind_some hf
  refine rs_inS i_X8_taken_4 (by decide) m_X8_in rfl (As := [.int v2, .int 0, .int 6]) (rest := []) rfl rfl (Nat.le_of_ble_eq_true rfl) (c_X8_in (by omega) e1) (st' := [.int o1.1]) rfl ?_
  by_cases c2 : o1.1 ≠ 0
  · replace hf := (if_pos c2).symm.trans hf
    refine rs_ifT i_X8_taken_7 (ct_ne c2) (tg := 13) (by decide) ?_
    refine rs_iload_n i_X8_taken_13 rfl ?_
    refine rs_iconst i_X8_taken_14 (v := 0) (by decide) ?_
    refine rs_bipush i_X8_taken_15 (v := 23) (by decide) ?_
    obtain ⟨o3, e3, hf⟩ := bind_some hf
    refine rs_inS i_X8_taken_17 (by decide) m_X8_in rfl (As := [.int v1, .int 0, .int 23]) (rest := []) rfl rfl (Nat.le_of_ble_eq_true rfl) (c_X8_in (by omega) e3) (st' := [.int o3.1]) rfl ?_
    by_cases c4 : o3.1 ≠ 0
    · replace hf := (if_pos c4).symm.trans hf
      refine rs_ifT i_X8_taken_20 (ct_ne c4) (tg := 26) (by decide) ?_
      refine rs_iload_n i_X8_taken_26 rfl ?_
      refine rs_bipush i_X8_taken_27 (v := 12) (by decide) ?_
      by_cases c5 : 12 ≤ v1
      · replace hf := (if_pos c5).symm.trans hf
        refine rs_icT i_X8_taken_29 (ct_ge c5) (tg := 50) (by decide) ?_
        refine rs_iload_n i_X8_taken_50 rfl ?_
        refine rs_bipush i_X8_taken_51 (v := 12) (by decide) ?_
        refine rs_isub i_X8_taken_53 ?_
        refine rs_aload_n i_X8_taken_54 rfl ?_
        obtain ⟨c6, hf⟩ := ite_some hf
        refine rs_getI i_X8_taken_55 (by decide) (by decide) c6 ?_
        by_cases c7 : (v1 - 12) < (gI o3.2 v0 5)
        · replace hf := (if_pos c7).symm.trans hf
          refine rs_icT i_X8_taken_58 (ct_lt c7) (tg := 66) (by decide) ?_
          refine rs_iload_n i_X8_taken_66 rfl ?_
          refine rs_bipush i_X8_taken_67 (v := 6) (by decide) ?_
          by_cases c8 : 6 ≤ v2
          · replace hf := (if_pos c8).symm.trans hf
            refine rs_icT i_X8_taken_69 (ct_ge c8) (tg := 95) (by decide) ?_
            refine rs_bipush i_X8_taken_95 (v := (-13)) (by decide) ?_
            have hf := Option.some.inj hf
            subst hf
            exact rs_iret i_X8_taken_97 m_X8_taken rfl
          · replace hf := (if_neg c8).symm.trans hf
            refine rs_icF i_X8_taken_69 (cf_ge c8) ?_
            refine rs_aload_n i_X8_taken_72 rfl ?_
            obtain ⟨a9, e9, hf⟩ := bind_some hf
            refine rs_getR i_X8_taken_73 (by decide) (by decide) c6 e9 ?_
            refine rs_iload_n i_X8_taken_76 rfl ?_
            refine rs_bipush i_X8_taken_77 (v := 12) (by decide) ?_
            refine rs_isub i_X8_taken_79 ?_
            obtain ⟨c10, hf⟩ := ite_some hf
            refine rs_iald i_X8_taken_80 c10 ?_
            refine rs_iload_n i_X8_taken_81 rfl ?_
            obtain ⟨o11, e11, hf⟩ := bind_some hf
            refine rs_inS i_X8_taken_82 (by decide) m_X8_isUnder rfl (As := [.int (gI o3.2 a9 (ix (v1 - 12))), .int v2]) (rest := []) rfl rfl (Nat.le_of_ble_eq_true rfl) (c_X8_isUnder (by omega) e11) (st' := [.int o11.1]) rfl ?_
            by_cases c12 : o11.1 = 0
            · replace hf := (if_pos c12).symm.trans hf
              refine rs_ifT i_X8_taken_85 (ct_eq c12) (tg := 95) (by decide) ?_
              refine rs_bipush i_X8_taken_95 (v := (-13)) (by decide) ?_
              have hf := Option.some.inj hf
              subst hf
              exact rs_iret i_X8_taken_97 m_X8_taken rfl
            · replace hf := (if_neg c12).symm.trans hf
              refine rs_ifF i_X8_taken_85 (cf_eq c12) ?_
              refine rs_iload_n i_X8_taken_88 rfl ?_
              refine rs_bipush i_X8_taken_89 (v := 12) (by decide) ?_
              refine rs_isub i_X8_taken_91 ?_
              refine rs_goto i_X8_taken_92 (tg := 97) (by decide) ?_
              have hf := Option.some.inj hf
              subst hf
              exact rs_iret i_X8_taken_97 m_X8_taken rfl
        · replace hf := (if_neg c7).symm.trans hf
          refine rs_icF i_X8_taken_58 (cf_lt c7) ?_
          refine rs_bipush i_X8_taken_61 (v := (-11)) (by decide) ?_
          refine rs_goto i_X8_taken_63 (tg := 97) (by decide) ?_
          have hf := Option.some.inj hf
          subst hf
          exact rs_iret i_X8_taken_97 m_X8_taken rfl
      · replace hf := (if_neg c5).symm.trans hf
        refine rs_icF i_X8_taken_29 (cf_ge c5) ?_
        refine rs_iload_n i_X8_taken_32 rfl ?_
        refine rs_bipush i_X8_taken_33 (v := 6) (by decide) ?_
        by_cases c13 : v2 ≠ 6
        · replace hf := (if_pos c13).symm.trans hf
          refine rs_icT i_X8_taken_35 (ct_ne c13) (tg := 47) (by decide) ?_
          refine rs_bipush i_X8_taken_47 (v := (-13)) (by decide) ?_
          have hf := Option.some.inj hf
          subst hf
          exact rs_iret i_X8_taken_49 m_X8_taken rfl
        · replace hf := (if_neg c13).symm.trans hf
          refine rs_icF i_X8_taken_35 (cf_ne c13) ?_
          refine rs_aload_n i_X8_taken_38 rfl ?_
          obtain ⟨c14, hf⟩ := ite_some hf
          obtain ⟨a15, e15, hf⟩ := bind_some hf
          refine rs_getR i_X8_taken_39 (by decide) (by decide) c14 e15 ?_
          refine rs_iload_n i_X8_taken_42 rfl ?_
          obtain ⟨c16, hf⟩ := ite_some hf
          refine rs_iald i_X8_taken_43 c16 ?_
          refine rs_goto i_X8_taken_44 (tg := 49) (by decide) ?_
          have hf := Option.some.inj hf
          subst hf
          exact rs_iret i_X8_taken_49 m_X8_taken rfl
    · replace hf := (if_neg c4).symm.trans hf
      refine rs_ifF i_X8_taken_20 (cf_ne c4) ?_
      refine rs_bipush i_X8_taken_23 (v := (-12)) (by decide) ?_
      have hf := Option.some.inj hf
      subst hf
      exact rs_iret i_X8_taken_25 m_X8_taken rfl
  · replace hf := (if_neg c2).symm.trans hf
    refine rs_ifF i_X8_taken_7 (cf_ne c2) ?_
    refine rs_bipush i_X8_taken_10 (v := (-2)) (by decide) ?_
    have hf := Option.some.inj hf
    subst hf
    exact rs_iret i_X8_taken_12 m_X8_taken rfl
def f_X8_taken (v0 : Nat) (v1 : Int32) (v2 : Int32) (h : Hp) : Option (Int32 × Hp) := f_X8_taken_0 v0 v1 v2 h
theorem c_X8_taken {X : Nat → Int32} {d : Nat} (hd : 1 ≤ d) {v0 : Nat} {v1 : Int32} {v2 : Int32} {h : Hp} {o : (Int32 × Hp)} (hf : f_X8_taken v0 v1 v2 h = some o) : Calls X d 218 [.ref v0, .int v1, .int v2] h (some (.int o.1), o.2) := by
  obtain ⟨d, rfl⟩ : ∃ z, d = z + 1 := ⟨d - 1, by omega⟩
  exact ⟨_, rfl, r_X8_taken_0 hd hf⟩
theorem i_L_law_0 : fetch 0 0 = some (.new 7, 3, 7, 0, 0, 77) := by decide +kernel
theorem i_L_law_3 : fetch 0 3 = some (.dup, 4, 0, 0, 0, 0) := by decide +kernel
theorem i_L_law_4 : fetch 0 4 = some (.invokespecial 9, 7, 66, 0, 0, 79) := by decide +kernel
theorem i_L_law_7 : fetch 0 7 = some (.astore_n 1, 8, 0, 0, 0, 0) := by decide +kernel
theorem i_L_law_8 : fetch 0 8 = some (.new 10, 11, 8, 0, 0, 955) := by decide +kernel
theorem i_L_law_11 : fetch 0 11 = some (.dup, 12, 0, 0, 0, 0) := by decide +kernel
theorem i_L_law_12 : fetch 0 12 = some (.invokespecial 12, 15, 125, 0, 0, 957) := by decide +kernel
theorem i_L_law_15 : fetch 0 15 = some (.astore_n 2, 16, 0, 0, 0, 0) := by decide +kernel
theorem i_L_law_16 : fetch 0 16 = some (.iconst 0, 17, 0, 0, 0, 0) := by decide +kernel
theorem i_L_law_17 : fetch 0 17 = some (.istore_n 3, 18, 0, 0, 0, 0) := by decide +kernel
theorem i_L_law_18 : fetch 0 18 = some (.iload_n 3, 19, 0, 0, 0, 0) := by decide +kernel
theorem i_L_law_19 : fetch 0 19 = some (.aload_n 0, 20, 0, 0, 0, 0) := by decide +kernel
theorem i_L_law_20 : fetch 0 20 = some (.arraylength, 21, 0, 0, 0, 0) := by decide +kernel
theorem i_L_law_21 : fetch 0 21 = some (.bipush 6, 23, 0, 0, 0, 0) := by decide +kernel
theorem i_L_law_23 : fetch 0 23 = some (.isub, 24, 0, 0, 0, 0) := by decide +kernel
theorem i_L_law_24 : fetch 0 24 = some (.if_icmp .gt 1755, 27, 0, 0, 0, 0) := by decide +kernel
theorem i_L_law_27 : fetch 0 27 = some (.aload_n 0, 28, 0, 0, 0, 0) := by decide +kernel
theorem i_L_law_28 : fetch 0 28 = some (.iload_n 3, 29, 0, 0, 0, 0) := by decide +kernel
theorem i_L_law_29 : fetch 0 29 = some (.iaload, 30, 0, 0, 0, 0) := by decide +kernel
theorem i_L_law_30 : fetch 0 30 = some (.bipush 63, 32, 0, 0, 0, 0) := by decide +kernel
theorem i_L_law_32 : fetch 0 32 = some (.iand, 33, 0, 0, 0, 0) := by decide +kernel
theorem i_L_law_33 : fetch 0 33 = some (.tableswitch 1740 0 42 #[187, 230, 263, 286, 349, 362, 385, 428, 441, 474, 517, 551, 585, 608, 621, 654, 697, 740, 773, 816, 859, 892, 935, 968, 1001, 1034, 1077, 1100, 1133, 1176, 1219, 1242, 1285, 1329, 1383, 1426, 1479, 1492, 1505, 1548, 1591, 1654, 1707], 220, 0, 0, 0, 0) := by decide +kernel
theorem i_L_law_220 : fetch 0 220 = some (.aload_n 1, 221, 0, 0, 0, 0) := by decide +kernel
theorem i_L_law_221 : fetch 0 221 = some (.aload_n 0, 222, 0, 0, 0, 0) := by decide +kernel
theorem i_L_law_222 : fetch 0 222 = some (.iload_n 3, 223, 0, 0, 0, 0) := by decide +kernel
theorem i_L_law_223 : fetch 0 223 = some (.iconst 1, 224, 0, 0, 0, 0) := by decide +kernel
theorem i_L_law_224 : fetch 0 224 = some (.iadd, 225, 0, 0, 0, 0) := by decide +kernel
theorem i_L_law_225 : fetch 0 225 = some (.iaload, 226, 0, 0, 0, 0) := by decide +kernel
theorem i_L_law_226 : fetch 0 226 = some (.aload_n 0, 227, 0, 0, 0, 0) := by decide +kernel
theorem i_L_law_227 : fetch 0 227 = some (.iload_n 3, 228, 0, 0, 0, 0) := by decide +kernel
theorem i_L_law_228 : fetch 0 228 = some (.iconst 2, 229, 0, 0, 0, 0) := by decide +kernel
theorem i_L_law_229 : fetch 0 229 = some (.iadd, 230, 0, 0, 0, 0) := by decide +kernel
theorem i_L_law_230 : fetch 0 230 = some (.iaload, 231, 0, 0, 0, 0) := by decide +kernel
theorem i_L_law_231 : fetch 0 231 = some (.aload_n 0, 232, 0, 0, 0, 0) := by decide +kernel
theorem i_L_law_232 : fetch 0 232 = some (.iload_n 3, 233, 0, 0, 0, 0) := by decide +kernel
theorem i_L_law_233 : fetch 0 233 = some (.iconst 3, 234, 0, 0, 0, 0) := by decide +kernel
theorem i_L_law_234 : fetch 0 234 = some (.iadd, 235, 0, 0, 0, 0) := by decide +kernel
theorem i_L_law_235 : fetch 0 235 = some (.iaload, 236, 0, 0, 0, 0) := by decide +kernel
theorem i_L_law_236 : fetch 0 236 = some (.invokevirtual 13, 239, 67, 0, 0, 530) := by decide +kernel
theorem i_L_law_239 : fetch 0 239 = some (.aload_n 2, 240, 0, 0, 0, 0) := by decide +kernel
theorem i_L_law_240 : fetch 0 240 = some (.aload_n 0, 241, 0, 0, 0, 0) := by decide +kernel
theorem i_L_law_241 : fetch 0 241 = some (.iload_n 3, 242, 0, 0, 0, 0) := by decide +kernel
theorem i_L_law_242 : fetch 0 242 = some (.iconst 1, 243, 0, 0, 0, 0) := by decide +kernel
theorem i_L_law_243 : fetch 0 243 = some (.iadd, 244, 0, 0, 0, 0) := by decide +kernel
theorem i_L_law_244 : fetch 0 244 = some (.iaload, 245, 0, 0, 0, 0) := by decide +kernel
theorem i_L_law_245 : fetch 0 245 = some (.aload_n 0, 246, 0, 0, 0, 0) := by decide +kernel
theorem i_L_law_246 : fetch 0 246 = some (.iload_n 3, 247, 0, 0, 0, 0) := by decide +kernel
theorem i_L_law_247 : fetch 0 247 = some (.iconst 2, 248, 0, 0, 0, 0) := by decide +kernel
theorem i_L_law_248 : fetch 0 248 = some (.iadd, 249, 0, 0, 0, 0) := by decide +kernel
theorem i_L_law_249 : fetch 0 249 = some (.iaload, 250, 0, 0, 0, 0) := by decide +kernel
theorem i_L_law_250 : fetch 0 250 = some (.aload_n 0, 251, 0, 0, 0, 0) := by decide +kernel
theorem i_L_law_251 : fetch 0 251 = some (.iload_n 3, 252, 0, 0, 0, 0) := by decide +kernel
theorem i_L_law_252 : fetch 0 252 = some (.iconst 3, 253, 0, 0, 0, 0) := by decide +kernel
theorem i_L_law_253 : fetch 0 253 = some (.iadd, 254, 0, 0, 0, 0) := by decide +kernel
theorem i_L_law_254 : fetch 0 254 = some (.iaload, 255, 0, 0, 0, 0) := by decide +kernel
theorem i_L_law_255 : fetch 0 255 = some (.invokevirtual 17, 258, 131, 0, 0, 1172) := by decide +kernel
theorem i_L_law_258 : fetch 0 258 = some (.if_icmp .eq 1515, 261, 0, 0, 0, 0) := by decide +kernel
theorem i_L_law_261 : fetch 0 261 = some (.iconst 0, 262, 0, 0, 0, 0) := by decide +kernel
theorem i_L_law_262 : fetch 0 262 = some (.ireturn, 263, 0, 0, 0, 0) := by decide +kernel
theorem i_L_law_263 : fetch 0 263 = some (.aload_n 1, 264, 0, 0, 0, 0) := by decide +kernel
theorem i_L_law_264 : fetch 0 264 = some (.aload_n 0, 265, 0, 0, 0, 0) := by decide +kernel
theorem i_L_law_265 : fetch 0 265 = some (.iload_n 3, 266, 0, 0, 0, 0) := by decide +kernel
theorem i_L_law_266 : fetch 0 266 = some (.iconst 1, 267, 0, 0, 0, 0) := by decide +kernel
theorem i_L_law_267 : fetch 0 267 = some (.iadd, 268, 0, 0, 0, 0) := by decide +kernel
theorem i_L_law_268 : fetch 0 268 = some (.iaload, 269, 0, 0, 0, 0) := by decide +kernel
theorem i_L_law_269 : fetch 0 269 = some (.aload_n 0, 270, 0, 0, 0, 0) := by decide +kernel
theorem i_L_law_270 : fetch 0 270 = some (.iload_n 3, 271, 0, 0, 0, 0) := by decide +kernel
theorem i_L_law_271 : fetch 0 271 = some (.iconst 2, 272, 0, 0, 0, 0) := by decide +kernel
theorem i_L_law_272 : fetch 0 272 = some (.iadd, 273, 0, 0, 0, 0) := by decide +kernel
theorem i_L_law_273 : fetch 0 273 = some (.iaload, 274, 0, 0, 0, 0) := by decide +kernel
theorem i_L_law_274 : fetch 0 274 = some (.invokevirtual 18, 277, 68, 0, 0, 536) := by decide +kernel
theorem i_L_law_277 : fetch 0 277 = some (.aload_n 2, 278, 0, 0, 0, 0) := by decide +kernel
theorem i_L_law_278 : fetch 0 278 = some (.aload_n 0, 279, 0, 0, 0, 0) := by decide +kernel
theorem i_L_law_279 : fetch 0 279 = some (.iload_n 3, 280, 0, 0, 0, 0) := by decide +kernel
theorem i_L_law_280 : fetch 0 280 = some (.iconst 1, 281, 0, 0, 0, 0) := by decide +kernel
theorem i_L_law_281 : fetch 0 281 = some (.iadd, 282, 0, 0, 0, 0) := by decide +kernel
theorem i_L_law_282 : fetch 0 282 = some (.iaload, 283, 0, 0, 0, 0) := by decide +kernel
theorem i_L_law_283 : fetch 0 283 = some (.aload_n 0, 284, 0, 0, 0, 0) := by decide +kernel
theorem i_L_law_284 : fetch 0 284 = some (.iload_n 3, 285, 0, 0, 0, 0) := by decide +kernel
theorem i_L_law_285 : fetch 0 285 = some (.iconst 2, 286, 0, 0, 0, 0) := by decide +kernel
theorem i_L_law_286 : fetch 0 286 = some (.iadd, 287, 0, 0, 0, 0) := by decide +kernel
theorem i_L_law_287 : fetch 0 287 = some (.iaload, 288, 0, 0, 0, 0) := by decide +kernel
theorem i_L_law_288 : fetch 0 288 = some (.invokevirtual 22, 291, 132, 0, 0, 1180) := by decide +kernel
theorem i_L_law_291 : fetch 0 291 = some (.if_icmp .eq 1482, 294, 0, 0, 0, 0) := by decide +kernel
theorem i_L_law_294 : fetch 0 294 = some (.iconst 0, 295, 0, 0, 0, 0) := by decide +kernel
theorem i_L_law_295 : fetch 0 295 = some (.ireturn, 296, 0, 0, 0, 0) := by decide +kernel
theorem i_L_law_296 : fetch 0 296 = some (.aload_n 1, 297, 0, 0, 0, 0) := by decide +kernel
theorem i_L_law_297 : fetch 0 297 = some (.aload_n 0, 298, 0, 0, 0, 0) := by decide +kernel
theorem i_L_law_298 : fetch 0 298 = some (.iload_n 3, 299, 0, 0, 0, 0) := by decide +kernel
theorem i_L_law_299 : fetch 0 299 = some (.iconst 1, 300, 0, 0, 0, 0) := by decide +kernel
theorem i_L_law_300 : fetch 0 300 = some (.iadd, 301, 0, 0, 0, 0) := by decide +kernel
theorem i_L_law_301 : fetch 0 301 = some (.iaload, 302, 0, 0, 0, 0) := by decide +kernel
theorem i_L_law_302 : fetch 0 302 = some (.invokevirtual 23, 305, 69, 0, 0, 540) := by decide +kernel
theorem i_L_law_305 : fetch 0 305 = some (.aload_n 2, 306, 0, 0, 0, 0) := by decide +kernel
theorem i_L_law_306 : fetch 0 306 = some (.aload_n 0, 307, 0, 0, 0, 0) := by decide +kernel
theorem i_L_law_307 : fetch 0 307 = some (.iload_n 3, 308, 0, 0, 0, 0) := by decide +kernel
theorem i_L_law_308 : fetch 0 308 = some (.iconst 1, 309, 0, 0, 0, 0) := by decide +kernel
theorem i_L_law_309 : fetch 0 309 = some (.iadd, 310, 0, 0, 0, 0) := by decide +kernel
theorem i_L_law_310 : fetch 0 310 = some (.iaload, 311, 0, 0, 0, 0) := by decide +kernel
theorem i_L_law_311 : fetch 0 311 = some (.invokevirtual 27, 314, 134, 0, 0, 1192) := by decide +kernel
theorem i_L_law_314 : fetch 0 314 = some (.if_icmp .eq 1459, 317, 0, 0, 0, 0) := by decide +kernel
theorem i_L_law_317 : fetch 0 317 = some (.iconst 0, 318, 0, 0, 0, 0) := by decide +kernel
theorem i_L_law_318 : fetch 0 318 = some (.ireturn, 319, 0, 0, 0, 0) := by decide +kernel
theorem i_L_law_319 : fetch 0 319 = some (.aload_n 1, 320, 0, 0, 0, 0) := by decide +kernel
theorem i_L_law_320 : fetch 0 320 = some (.aload_n 0, 321, 0, 0, 0, 0) := by decide +kernel
theorem i_L_law_321 : fetch 0 321 = some (.iload_n 3, 322, 0, 0, 0, 0) := by decide +kernel
theorem i_L_law_322 : fetch 0 322 = some (.iconst 1, 323, 0, 0, 0, 0) := by decide +kernel
theorem i_L_law_323 : fetch 0 323 = some (.iadd, 324, 0, 0, 0, 0) := by decide +kernel
theorem i_L_law_324 : fetch 0 324 = some (.iaload, 325, 0, 0, 0, 0) := by decide +kernel
theorem i_L_law_325 : fetch 0 325 = some (.i2l, 326, 0, 0, 0, 0) := by decide +kernel
theorem i_L_law_326 : fetch 0 326 = some (.bipush 32, 328, 0, 0, 0, 0) := by decide +kernel
theorem i_L_law_328 : fetch 0 328 = some (.lshl, 329, 0, 0, 0, 0) := by decide +kernel
theorem i_L_law_329 : fetch 0 329 = some (.aload_n 0, 330, 0, 0, 0, 0) := by decide +kernel
theorem i_L_law_330 : fetch 0 330 = some (.iload_n 3, 331, 0, 0, 0, 0) := by decide +kernel
theorem i_L_law_331 : fetch 0 331 = some (.iconst 2, 332, 0, 0, 0, 0) := by decide +kernel
theorem i_L_law_332 : fetch 0 332 = some (.iadd, 333, 0, 0, 0, 0) := by decide +kernel
theorem i_L_law_333 : fetch 0 333 = some (.iaload, 334, 0, 0, 0, 0) := by decide +kernel
theorem i_L_law_334 : fetch 0 334 = some (.i2l, 335, 0, 0, 0, 0) := by decide +kernel
theorem i_L_law_335 : fetch 0 335 = some (.ldc2_w 28, 338, 0, 0, 4294967295, 1502) := by decide +kernel
theorem i_L_law_338 : fetch 0 338 = some (.land, 339, 0, 0, 0, 0) := by decide +kernel
theorem i_L_law_339 : fetch 0 339 = some (.lor, 340, 0, 0, 0, 0) := by decide +kernel
theorem i_L_law_340 : fetch 0 340 = some (.aload_n 0, 341, 0, 0, 0, 0) := by decide +kernel
theorem i_L_law_341 : fetch 0 341 = some (.iload_n 3, 342, 0, 0, 0, 0) := by decide +kernel
theorem i_L_law_342 : fetch 0 342 = some (.iconst 3, 343, 0, 0, 0, 0) := by decide +kernel
theorem i_L_law_343 : fetch 0 343 = some (.iadd, 344, 0, 0, 0, 0) := by decide +kernel
theorem i_L_law_344 : fetch 0 344 = some (.iaload, 345, 0, 0, 0, 0) := by decide +kernel
theorem i_L_law_345 : fetch 0 345 = some (.invokevirtual 30, 348, 70, 0, 0, 544) := by decide +kernel
theorem i_L_law_348 : fetch 0 348 = some (.aload_n 2, 349, 0, 0, 0, 0) := by decide +kernel
theorem i_L_law_349 : fetch 0 349 = some (.aload_n 0, 350, 0, 0, 0, 0) := by decide +kernel
theorem i_L_law_350 : fetch 0 350 = some (.iload_n 3, 351, 0, 0, 0, 0) := by decide +kernel
theorem i_L_law_351 : fetch 0 351 = some (.iconst 1, 352, 0, 0, 0, 0) := by decide +kernel
theorem i_L_law_352 : fetch 0 352 = some (.iadd, 353, 0, 0, 0, 0) := by decide +kernel
theorem i_L_law_353 : fetch 0 353 = some (.iaload, 354, 0, 0, 0, 0) := by decide +kernel
theorem i_L_law_354 : fetch 0 354 = some (.i2l, 355, 0, 0, 0, 0) := by decide +kernel
theorem i_L_law_355 : fetch 0 355 = some (.bipush 32, 357, 0, 0, 0, 0) := by decide +kernel
theorem i_L_law_357 : fetch 0 357 = some (.lshl, 358, 0, 0, 0, 0) := by decide +kernel
theorem i_L_law_358 : fetch 0 358 = some (.aload_n 0, 359, 0, 0, 0, 0) := by decide +kernel
theorem i_L_law_359 : fetch 0 359 = some (.iload_n 3, 360, 0, 0, 0, 0) := by decide +kernel
theorem i_L_law_360 : fetch 0 360 = some (.iconst 2, 361, 0, 0, 0, 0) := by decide +kernel
theorem i_L_law_361 : fetch 0 361 = some (.iadd, 362, 0, 0, 0, 0) := by decide +kernel
theorem i_L_law_362 : fetch 0 362 = some (.iaload, 363, 0, 0, 0, 0) := by decide +kernel
theorem i_L_law_363 : fetch 0 363 = some (.i2l, 364, 0, 0, 0, 0) := by decide +kernel
theorem i_L_law_364 : fetch 0 364 = some (.ldc2_w 28, 367, 0, 0, 4294967295, 1502) := by decide +kernel
theorem i_L_law_367 : fetch 0 367 = some (.land, 368, 0, 0, 0, 0) := by decide +kernel
theorem i_L_law_368 : fetch 0 368 = some (.lor, 369, 0, 0, 0, 0) := by decide +kernel
theorem i_L_law_369 : fetch 0 369 = some (.aload_n 0, 370, 0, 0, 0, 0) := by decide +kernel
theorem i_L_law_370 : fetch 0 370 = some (.iload_n 3, 371, 0, 0, 0, 0) := by decide +kernel
theorem i_L_law_371 : fetch 0 371 = some (.iconst 3, 372, 0, 0, 0, 0) := by decide +kernel
theorem i_L_law_372 : fetch 0 372 = some (.iadd, 373, 0, 0, 0, 0) := by decide +kernel
theorem i_L_law_373 : fetch 0 373 = some (.iaload, 374, 0, 0, 0, 0) := by decide +kernel
theorem i_L_law_374 : fetch 0 374 = some (.invokevirtual 34, 377, 135, 0, 0, 1193) := by decide +kernel
theorem i_L_law_377 : fetch 0 377 = some (.if_icmp .eq 1396, 380, 0, 0, 0, 0) := by decide +kernel
theorem i_L_law_380 : fetch 0 380 = some (.iconst 0, 381, 0, 0, 0, 0) := by decide +kernel
theorem i_L_law_381 : fetch 0 381 = some (.ireturn, 382, 0, 0, 0, 0) := by decide +kernel
theorem i_L_law_382 : fetch 0 382 = some (.aload_n 1, 383, 0, 0, 0, 0) := by decide +kernel
theorem i_L_law_383 : fetch 0 383 = some (.invokevirtual 35, 386, 71, 0, 0, 548) := by decide +kernel
theorem i_L_law_386 : fetch 0 386 = some (.aload_n 2, 387, 0, 0, 0, 0) := by decide +kernel
theorem i_L_law_387 : fetch 0 387 = some (.invokevirtual 39, 390, 146, 0, 0, 1198) := by decide +kernel
theorem i_L_law_390 : fetch 0 390 = some (.if_icmp .eq 1383, 393, 0, 0, 0, 0) := by decide +kernel
theorem i_L_law_393 : fetch 0 393 = some (.iconst 0, 394, 0, 0, 0, 0) := by decide +kernel
theorem i_L_law_394 : fetch 0 394 = some (.ireturn, 395, 0, 0, 0, 0) := by decide +kernel
theorem i_L_law_395 : fetch 0 395 = some (.aload_n 1, 396, 0, 0, 0, 0) := by decide +kernel
theorem i_L_law_396 : fetch 0 396 = some (.aload_n 0, 397, 0, 0, 0, 0) := by decide +kernel
theorem i_L_law_397 : fetch 0 397 = some (.iload_n 3, 398, 0, 0, 0, 0) := by decide +kernel
theorem i_L_law_398 : fetch 0 398 = some (.iconst 1, 399, 0, 0, 0, 0) := by decide +kernel
theorem i_L_law_399 : fetch 0 399 = some (.iadd, 400, 0, 0, 0, 0) := by decide +kernel
theorem i_L_law_400 : fetch 0 400 = some (.iaload, 401, 0, 0, 0, 0) := by decide +kernel
theorem i_L_law_401 : fetch 0 401 = some (.invokevirtual 40, 404, 72, 0, 0, 552) := by decide +kernel
theorem i_L_law_404 : fetch 0 404 = some (.aload_n 2, 405, 0, 0, 0, 0) := by decide +kernel
theorem i_L_law_405 : fetch 0 405 = some (.aload_n 0, 406, 0, 0, 0, 0) := by decide +kernel
theorem i_L_law_406 : fetch 0 406 = some (.iload_n 3, 407, 0, 0, 0, 0) := by decide +kernel
theorem i_L_law_407 : fetch 0 407 = some (.iconst 1, 408, 0, 0, 0, 0) := by decide +kernel
theorem i_L_law_408 : fetch 0 408 = some (.iadd, 409, 0, 0, 0, 0) := by decide +kernel
theorem i_L_law_409 : fetch 0 409 = some (.iaload, 410, 0, 0, 0, 0) := by decide +kernel
theorem i_L_law_410 : fetch 0 410 = some (.invokevirtual 43, 413, 149, 0, 0, 1199) := by decide +kernel
theorem i_L_law_413 : fetch 0 413 = some (.if_icmp .eq 1360, 416, 0, 0, 0, 0) := by decide +kernel
theorem i_L_law_416 : fetch 0 416 = some (.iconst 0, 417, 0, 0, 0, 0) := by decide +kernel
theorem i_L_law_417 : fetch 0 417 = some (.ireturn, 418, 0, 0, 0, 0) := by decide +kernel
theorem i_L_law_418 : fetch 0 418 = some (.aload_n 1, 419, 0, 0, 0, 0) := by decide +kernel
theorem i_L_law_419 : fetch 0 419 = some (.aload_n 0, 420, 0, 0, 0, 0) := by decide +kernel
theorem i_L_law_420 : fetch 0 420 = some (.iload_n 3, 421, 0, 0, 0, 0) := by decide +kernel
theorem i_L_law_421 : fetch 0 421 = some (.iconst 1, 422, 0, 0, 0, 0) := by decide +kernel
theorem i_L_law_422 : fetch 0 422 = some (.iadd, 423, 0, 0, 0, 0) := by decide +kernel
theorem i_L_law_423 : fetch 0 423 = some (.iaload, 424, 0, 0, 0, 0) := by decide +kernel
theorem i_L_law_424 : fetch 0 424 = some (.aload_n 0, 425, 0, 0, 0, 0) := by decide +kernel
theorem i_L_law_425 : fetch 0 425 = some (.iload_n 3, 426, 0, 0, 0, 0) := by decide +kernel
theorem i_L_law_426 : fetch 0 426 = some (.iconst 2, 427, 0, 0, 0, 0) := by decide +kernel
theorem i_L_law_427 : fetch 0 427 = some (.iadd, 428, 0, 0, 0, 0) := by decide +kernel
theorem i_L_law_428 : fetch 0 428 = some (.iaload, 429, 0, 0, 0, 0) := by decide +kernel
theorem i_L_law_429 : fetch 0 429 = some (.aload_n 0, 430, 0, 0, 0, 0) := by decide +kernel
theorem i_L_law_430 : fetch 0 430 = some (.iload_n 3, 431, 0, 0, 0, 0) := by decide +kernel
theorem i_L_law_431 : fetch 0 431 = some (.iconst 3, 432, 0, 0, 0, 0) := by decide +kernel
theorem i_L_law_432 : fetch 0 432 = some (.iadd, 433, 0, 0, 0, 0) := by decide +kernel
theorem i_L_law_433 : fetch 0 433 = some (.iaload, 434, 0, 0, 0, 0) := by decide +kernel
theorem i_L_law_434 : fetch 0 434 = some (.invokevirtual 44, 437, 73, 0, 0, 556) := by decide +kernel
theorem i_L_law_437 : fetch 0 437 = some (.aload_n 2, 438, 0, 0, 0, 0) := by decide +kernel
theorem i_L_law_438 : fetch 0 438 = some (.aload_n 0, 439, 0, 0, 0, 0) := by decide +kernel
theorem i_L_law_439 : fetch 0 439 = some (.iload_n 3, 440, 0, 0, 0, 0) := by decide +kernel
theorem i_L_law_440 : fetch 0 440 = some (.iconst 1, 441, 0, 0, 0, 0) := by decide +kernel
theorem i_L_law_441 : fetch 0 441 = some (.iadd, 442, 0, 0, 0, 0) := by decide +kernel
theorem i_L_law_442 : fetch 0 442 = some (.iaload, 443, 0, 0, 0, 0) := by decide +kernel
theorem i_L_law_443 : fetch 0 443 = some (.aload_n 0, 444, 0, 0, 0, 0) := by decide +kernel
theorem i_L_law_444 : fetch 0 444 = some (.iload_n 3, 445, 0, 0, 0, 0) := by decide +kernel
theorem i_L_law_445 : fetch 0 445 = some (.iconst 2, 446, 0, 0, 0, 0) := by decide +kernel
theorem i_L_law_446 : fetch 0 446 = some (.iadd, 447, 0, 0, 0, 0) := by decide +kernel
theorem i_L_law_447 : fetch 0 447 = some (.iaload, 448, 0, 0, 0, 0) := by decide +kernel
theorem i_L_law_448 : fetch 0 448 = some (.aload_n 0, 449, 0, 0, 0, 0) := by decide +kernel
theorem i_L_law_449 : fetch 0 449 = some (.iload_n 3, 450, 0, 0, 0, 0) := by decide +kernel
theorem i_L_law_450 : fetch 0 450 = some (.iconst 3, 451, 0, 0, 0, 0) := by decide +kernel
theorem i_L_law_451 : fetch 0 451 = some (.iadd, 452, 0, 0, 0, 0) := by decide +kernel
theorem i_L_law_452 : fetch 0 452 = some (.iaload, 453, 0, 0, 0, 0) := by decide +kernel
theorem i_L_law_453 : fetch 0 453 = some (.invokevirtual 47, 456, 150, 0, 0, 1203) := by decide +kernel
theorem i_L_law_456 : fetch 0 456 = some (.if_icmp .eq 1317, 459, 0, 0, 0, 0) := by decide +kernel
theorem i_L_law_459 : fetch 0 459 = some (.iconst 0, 460, 0, 0, 0, 0) := by decide +kernel
theorem i_L_law_460 : fetch 0 460 = some (.ireturn, 461, 0, 0, 0, 0) := by decide +kernel
theorem i_L_law_461 : fetch 0 461 = some (.aload_n 1, 462, 0, 0, 0, 0) := by decide +kernel
theorem i_L_law_462 : fetch 0 462 = some (.invokevirtual 48, 465, 74, 0, 0, 564) := by decide +kernel
theorem i_L_law_465 : fetch 0 465 = some (.aload_n 2, 466, 0, 0, 0, 0) := by decide +kernel
theorem i_L_law_466 : fetch 0 466 = some (.invokevirtual 51, 469, 151, 0, 0, 1207) := by decide +kernel
theorem i_L_law_469 : fetch 0 469 = some (.if_icmp .eq 1304, 472, 0, 0, 0, 0) := by decide +kernel
theorem i_L_law_472 : fetch 0 472 = some (.iconst 0, 473, 0, 0, 0, 0) := by decide +kernel
theorem i_L_law_473 : fetch 0 473 = some (.ireturn, 474, 0, 0, 0, 0) := by decide +kernel
theorem i_L_law_474 : fetch 0 474 = some (.aload_n 1, 475, 0, 0, 0, 0) := by decide +kernel
theorem i_L_law_475 : fetch 0 475 = some (.aload_n 0, 476, 0, 0, 0, 0) := by decide +kernel
theorem i_L_law_476 : fetch 0 476 = some (.iload_n 3, 477, 0, 0, 0, 0) := by decide +kernel
theorem i_L_law_477 : fetch 0 477 = some (.iconst 1, 478, 0, 0, 0, 0) := by decide +kernel
theorem i_L_law_478 : fetch 0 478 = some (.iadd, 479, 0, 0, 0, 0) := by decide +kernel
theorem i_L_law_479 : fetch 0 479 = some (.iaload, 480, 0, 0, 0, 0) := by decide +kernel
theorem i_L_law_480 : fetch 0 480 = some (.aload_n 0, 481, 0, 0, 0, 0) := by decide +kernel
theorem i_L_law_481 : fetch 0 481 = some (.iload_n 3, 482, 0, 0, 0, 0) := by decide +kernel
theorem i_L_law_482 : fetch 0 482 = some (.iconst 2, 483, 0, 0, 0, 0) := by decide +kernel
theorem i_L_law_483 : fetch 0 483 = some (.iadd, 484, 0, 0, 0, 0) := by decide +kernel
theorem i_L_law_484 : fetch 0 484 = some (.iaload, 485, 0, 0, 0, 0) := by decide +kernel
theorem i_L_law_485 : fetch 0 485 = some (.invokevirtual 52, 488, 75, 0, 0, 568) := by decide +kernel
theorem i_L_law_488 : fetch 0 488 = some (.aload_n 2, 489, 0, 0, 0, 0) := by decide +kernel
theorem i_L_law_489 : fetch 0 489 = some (.aload_n 0, 490, 0, 0, 0, 0) := by decide +kernel
theorem i_L_law_490 : fetch 0 490 = some (.iload_n 3, 491, 0, 0, 0, 0) := by decide +kernel
theorem i_L_law_491 : fetch 0 491 = some (.iconst 1, 492, 0, 0, 0, 0) := by decide +kernel
theorem i_L_law_492 : fetch 0 492 = some (.iadd, 493, 0, 0, 0, 0) := by decide +kernel
theorem i_L_law_493 : fetch 0 493 = some (.iaload, 494, 0, 0, 0, 0) := by decide +kernel
theorem i_L_law_494 : fetch 0 494 = some (.aload_n 0, 495, 0, 0, 0, 0) := by decide +kernel
theorem i_L_law_495 : fetch 0 495 = some (.iload_n 3, 496, 0, 0, 0, 0) := by decide +kernel
theorem i_L_law_496 : fetch 0 496 = some (.iconst 2, 497, 0, 0, 0, 0) := by decide +kernel
theorem i_L_law_497 : fetch 0 497 = some (.iadd, 498, 0, 0, 0, 0) := by decide +kernel
theorem i_L_law_498 : fetch 0 498 = some (.iaload, 499, 0, 0, 0, 0) := by decide +kernel
theorem i_L_law_499 : fetch 0 499 = some (.invokevirtual 55, 502, 153, 0, 0, 1211) := by decide +kernel
theorem i_L_law_502 : fetch 0 502 = some (.if_icmp .eq 1271, 505, 0, 0, 0, 0) := by decide +kernel
theorem i_L_law_505 : fetch 0 505 = some (.iconst 0, 506, 0, 0, 0, 0) := by decide +kernel
theorem i_L_law_506 : fetch 0 506 = some (.ireturn, 507, 0, 0, 0, 0) := by decide +kernel
theorem i_L_law_507 : fetch 0 507 = some (.aload_n 1, 508, 0, 0, 0, 0) := by decide +kernel
theorem i_L_law_508 : fetch 0 508 = some (.aload_n 0, 509, 0, 0, 0, 0) := by decide +kernel
theorem i_L_law_509 : fetch 0 509 = some (.iload_n 3, 510, 0, 0, 0, 0) := by decide +kernel
theorem i_L_law_510 : fetch 0 510 = some (.iconst 1, 511, 0, 0, 0, 0) := by decide +kernel
theorem i_L_law_511 : fetch 0 511 = some (.iadd, 512, 0, 0, 0, 0) := by decide +kernel
theorem i_L_law_512 : fetch 0 512 = some (.iaload, 513, 0, 0, 0, 0) := by decide +kernel
theorem i_L_law_513 : fetch 0 513 = some (.aload_n 0, 514, 0, 0, 0, 0) := by decide +kernel
theorem i_L_law_514 : fetch 0 514 = some (.iload_n 3, 515, 0, 0, 0, 0) := by decide +kernel
theorem i_L_law_515 : fetch 0 515 = some (.iconst 2, 516, 0, 0, 0, 0) := by decide +kernel
theorem i_L_law_516 : fetch 0 516 = some (.iadd, 517, 0, 0, 0, 0) := by decide +kernel
theorem i_L_law_517 : fetch 0 517 = some (.iaload, 518, 0, 0, 0, 0) := by decide +kernel
theorem i_L_law_518 : fetch 0 518 = some (.aload_n 0, 519, 0, 0, 0, 0) := by decide +kernel
theorem i_L_law_519 : fetch 0 519 = some (.iload_n 3, 520, 0, 0, 0, 0) := by decide +kernel
theorem i_L_law_520 : fetch 0 520 = some (.iconst 3, 521, 0, 0, 0, 0) := by decide +kernel
theorem i_L_law_521 : fetch 0 521 = some (.iadd, 522, 0, 0, 0, 0) := by decide +kernel
theorem i_L_law_522 : fetch 0 522 = some (.iaload, 523, 0, 0, 0, 0) := by decide +kernel
theorem i_L_law_523 : fetch 0 523 = some (.invokevirtual 56, 526, 76, 0, 0, 580) := by decide +kernel
theorem i_L_law_526 : fetch 0 526 = some (.aload_n 2, 527, 0, 0, 0, 0) := by decide +kernel
theorem i_L_law_527 : fetch 0 527 = some (.aload_n 0, 528, 0, 0, 0, 0) := by decide +kernel
theorem i_L_law_528 : fetch 0 528 = some (.iload_n 3, 529, 0, 0, 0, 0) := by decide +kernel
theorem i_L_law_529 : fetch 0 529 = some (.iconst 1, 530, 0, 0, 0, 0) := by decide +kernel
theorem i_L_law_530 : fetch 0 530 = some (.iadd, 531, 0, 0, 0, 0) := by decide +kernel
theorem i_L_law_531 : fetch 0 531 = some (.iaload, 532, 0, 0, 0, 0) := by decide +kernel
theorem i_L_law_532 : fetch 0 532 = some (.aload_n 0, 533, 0, 0, 0, 0) := by decide +kernel
theorem i_L_law_533 : fetch 0 533 = some (.iload_n 3, 534, 0, 0, 0, 0) := by decide +kernel
theorem i_L_law_534 : fetch 0 534 = some (.iconst 2, 535, 0, 0, 0, 0) := by decide +kernel
theorem i_L_law_535 : fetch 0 535 = some (.iadd, 536, 0, 0, 0, 0) := by decide +kernel
theorem i_L_law_536 : fetch 0 536 = some (.iaload, 537, 0, 0, 0, 0) := by decide +kernel
theorem i_L_law_537 : fetch 0 537 = some (.aload_n 0, 538, 0, 0, 0, 0) := by decide +kernel
theorem i_L_law_538 : fetch 0 538 = some (.iload_n 3, 539, 0, 0, 0, 0) := by decide +kernel
theorem i_L_law_539 : fetch 0 539 = some (.iconst 3, 540, 0, 0, 0, 0) := by decide +kernel
theorem i_L_law_540 : fetch 0 540 = some (.iadd, 541, 0, 0, 0, 0) := by decide +kernel
theorem i_L_law_541 : fetch 0 541 = some (.iaload, 542, 0, 0, 0, 0) := by decide +kernel
theorem i_L_law_542 : fetch 0 542 = some (.invokevirtual 59, 545, 169, 0, 0, 1219) := by decide +kernel
theorem i_L_law_545 : fetch 0 545 = some (.if_icmp .eq 1228, 548, 0, 0, 0, 0) := by decide +kernel
theorem i_L_law_548 : fetch 0 548 = some (.iconst 0, 549, 0, 0, 0, 0) := by decide +kernel
theorem i_L_law_549 : fetch 0 549 = some (.ireturn, 550, 0, 0, 0, 0) := by decide +kernel
theorem i_L_law_550 : fetch 0 550 = some (.aload_n 1, 551, 0, 0, 0, 0) := by decide +kernel
theorem i_L_law_551 : fetch 0 551 = some (.aload_n 0, 552, 0, 0, 0, 0) := by decide +kernel
theorem i_L_law_552 : fetch 0 552 = some (.iload_n 3, 553, 0, 0, 0, 0) := by decide +kernel
theorem i_L_law_553 : fetch 0 553 = some (.iconst 1, 554, 0, 0, 0, 0) := by decide +kernel
theorem i_L_law_554 : fetch 0 554 = some (.iadd, 555, 0, 0, 0, 0) := by decide +kernel
theorem i_L_law_555 : fetch 0 555 = some (.iaload, 556, 0, 0, 0, 0) := by decide +kernel
theorem i_L_law_556 : fetch 0 556 = some (.aload_n 0, 557, 0, 0, 0, 0) := by decide +kernel
theorem i_L_law_557 : fetch 0 557 = some (.iload_n 3, 558, 0, 0, 0, 0) := by decide +kernel
theorem i_L_law_558 : fetch 0 558 = some (.iconst 2, 559, 0, 0, 0, 0) := by decide +kernel
theorem i_L_law_559 : fetch 0 559 = some (.iadd, 560, 0, 0, 0, 0) := by decide +kernel
theorem i_L_law_560 : fetch 0 560 = some (.iaload, 561, 0, 0, 0, 0) := by decide +kernel
theorem i_L_law_561 : fetch 0 561 = some (.invokevirtual 60, 564, 77, 0, 0, 701) := by decide +kernel
theorem i_L_law_564 : fetch 0 564 = some (.aload_n 2, 565, 0, 0, 0, 0) := by decide +kernel
theorem i_L_law_565 : fetch 0 565 = some (.aload_n 0, 566, 0, 0, 0, 0) := by decide +kernel
theorem i_L_law_566 : fetch 0 566 = some (.iload_n 3, 567, 0, 0, 0, 0) := by decide +kernel
theorem i_L_law_567 : fetch 0 567 = some (.iconst 1, 568, 0, 0, 0, 0) := by decide +kernel
theorem i_L_law_568 : fetch 0 568 = some (.iadd, 569, 0, 0, 0, 0) := by decide +kernel
theorem i_L_law_569 : fetch 0 569 = some (.iaload, 570, 0, 0, 0, 0) := by decide +kernel
theorem i_L_law_570 : fetch 0 570 = some (.aload_n 0, 571, 0, 0, 0, 0) := by decide +kernel
theorem i_L_law_571 : fetch 0 571 = some (.iload_n 3, 572, 0, 0, 0, 0) := by decide +kernel
theorem i_L_law_572 : fetch 0 572 = some (.iconst 2, 573, 0, 0, 0, 0) := by decide +kernel
theorem i_L_law_573 : fetch 0 573 = some (.iadd, 574, 0, 0, 0, 0) := by decide +kernel
theorem i_L_law_574 : fetch 0 574 = some (.iaload, 575, 0, 0, 0, 0) := by decide +kernel
theorem i_L_law_575 : fetch 0 575 = some (.invokevirtual 64, 578, 174, 0, 0, 1304) := by decide +kernel
theorem i_L_law_578 : fetch 0 578 = some (.lcmp, 579, 0, 0, 0, 0) := by decide +kernel
theorem i_L_law_579 : fetch 0 579 = some (.ifCond .eq 1194, 582, 0, 0, 0, 0) := by decide +kernel
theorem i_L_law_582 : fetch 0 582 = some (.iconst 0, 583, 0, 0, 0, 0) := by decide +kernel
theorem i_L_law_583 : fetch 0 583 = some (.ireturn, 584, 0, 0, 0, 0) := by decide +kernel
theorem i_L_law_584 : fetch 0 584 = some (.aload_n 1, 585, 0, 0, 0, 0) := by decide +kernel
theorem i_L_law_585 : fetch 0 585 = some (.aload_n 0, 586, 0, 0, 0, 0) := by decide +kernel
theorem i_L_law_586 : fetch 0 586 = some (.iload_n 3, 587, 0, 0, 0, 0) := by decide +kernel
theorem i_L_law_587 : fetch 0 587 = some (.iconst 1, 588, 0, 0, 0, 0) := by decide +kernel
theorem i_L_law_588 : fetch 0 588 = some (.iadd, 589, 0, 0, 0, 0) := by decide +kernel
theorem i_L_law_589 : fetch 0 589 = some (.iaload, 590, 0, 0, 0, 0) := by decide +kernel
theorem i_L_law_590 : fetch 0 590 = some (.aload_n 0, 591, 0, 0, 0, 0) := by decide +kernel
theorem i_L_law_591 : fetch 0 591 = some (.iload_n 3, 592, 0, 0, 0, 0) := by decide +kernel
theorem i_L_law_592 : fetch 0 592 = some (.iconst 2, 593, 0, 0, 0, 0) := by decide +kernel
theorem i_L_law_593 : fetch 0 593 = some (.iadd, 594, 0, 0, 0, 0) := by decide +kernel
theorem i_L_law_594 : fetch 0 594 = some (.iaload, 595, 0, 0, 0, 0) := by decide +kernel
theorem i_L_law_595 : fetch 0 595 = some (.invokevirtual 65, 598, 78, 0, 0, 727) := by decide +kernel
theorem i_L_law_598 : fetch 0 598 = some (.aload_n 2, 599, 0, 0, 0, 0) := by decide +kernel
theorem i_L_law_599 : fetch 0 599 = some (.aload_n 0, 600, 0, 0, 0, 0) := by decide +kernel
theorem i_L_law_600 : fetch 0 600 = some (.iload_n 3, 601, 0, 0, 0, 0) := by decide +kernel
theorem i_L_law_601 : fetch 0 601 = some (.iconst 1, 602, 0, 0, 0, 0) := by decide +kernel
theorem i_L_law_602 : fetch 0 602 = some (.iadd, 603, 0, 0, 0, 0) := by decide +kernel
theorem i_L_law_603 : fetch 0 603 = some (.iaload, 604, 0, 0, 0, 0) := by decide +kernel
theorem i_L_law_604 : fetch 0 604 = some (.aload_n 0, 605, 0, 0, 0, 0) := by decide +kernel
theorem i_L_law_605 : fetch 0 605 = some (.iload_n 3, 606, 0, 0, 0, 0) := by decide +kernel
theorem i_L_law_606 : fetch 0 606 = some (.iconst 2, 607, 0, 0, 0, 0) := by decide +kernel
theorem i_L_law_607 : fetch 0 607 = some (.iadd, 608, 0, 0, 0, 0) := by decide +kernel
theorem i_L_law_608 : fetch 0 608 = some (.iaload, 609, 0, 0, 0, 0) := by decide +kernel
theorem i_L_law_609 : fetch 0 609 = some (.invokevirtual 68, 612, 176, 0, 0, 1327) := by decide +kernel
theorem i_L_law_612 : fetch 0 612 = some (.lcmp, 613, 0, 0, 0, 0) := by decide +kernel
theorem i_L_law_613 : fetch 0 613 = some (.ifCond .eq 1160, 616, 0, 0, 0, 0) := by decide +kernel
theorem i_L_law_616 : fetch 0 616 = some (.iconst 0, 617, 0, 0, 0, 0) := by decide +kernel
theorem i_L_law_617 : fetch 0 617 = some (.ireturn, 618, 0, 0, 0, 0) := by decide +kernel
theorem i_L_law_618 : fetch 0 618 = some (.aload_n 1, 619, 0, 0, 0, 0) := by decide +kernel
theorem i_L_law_619 : fetch 0 619 = some (.aload_n 0, 620, 0, 0, 0, 0) := by decide +kernel
theorem i_L_law_620 : fetch 0 620 = some (.iload_n 3, 621, 0, 0, 0, 0) := by decide +kernel
theorem i_L_law_621 : fetch 0 621 = some (.iconst 1, 622, 0, 0, 0, 0) := by decide +kernel
theorem i_L_law_622 : fetch 0 622 = some (.iadd, 623, 0, 0, 0, 0) := by decide +kernel
theorem i_L_law_623 : fetch 0 623 = some (.iaload, 624, 0, 0, 0, 0) := by decide +kernel
theorem i_L_law_624 : fetch 0 624 = some (.invokevirtual 69, 627, 79, 0, 0, 736) := by decide +kernel
theorem i_L_law_627 : fetch 0 627 = some (.aload_n 2, 628, 0, 0, 0, 0) := by decide +kernel
theorem i_L_law_628 : fetch 0 628 = some (.aload_n 0, 629, 0, 0, 0, 0) := by decide +kernel
theorem i_L_law_629 : fetch 0 629 = some (.iload_n 3, 630, 0, 0, 0, 0) := by decide +kernel
theorem i_L_law_630 : fetch 0 630 = some (.iconst 1, 631, 0, 0, 0, 0) := by decide +kernel
theorem i_L_law_631 : fetch 0 631 = some (.iadd, 632, 0, 0, 0, 0) := by decide +kernel
theorem i_L_law_632 : fetch 0 632 = some (.iaload, 633, 0, 0, 0, 0) := by decide +kernel
theorem i_L_law_633 : fetch 0 633 = some (.invokevirtual 72, 636, 177, 0, 0, 1336) := by decide +kernel
theorem i_L_law_636 : fetch 0 636 = some (.if_icmp .eq 1137, 639, 0, 0, 0, 0) := by decide +kernel
theorem i_L_law_639 : fetch 0 639 = some (.iconst 0, 640, 0, 0, 0, 0) := by decide +kernel
theorem i_L_law_640 : fetch 0 640 = some (.ireturn, 641, 0, 0, 0, 0) := by decide +kernel
theorem i_L_law_641 : fetch 0 641 = some (.aload_n 1, 642, 0, 0, 0, 0) := by decide +kernel
theorem i_L_law_642 : fetch 0 642 = some (.invokevirtual 73, 645, 80, 0, 0, 742) := by decide +kernel
theorem i_L_law_645 : fetch 0 645 = some (.aload_n 2, 646, 0, 0, 0, 0) := by decide +kernel
theorem i_L_law_646 : fetch 0 646 = some (.invokevirtual 76, 649, 178, 0, 0, 1340) := by decide +kernel
theorem i_L_law_649 : fetch 0 649 = some (.if_icmp .eq 1124, 652, 0, 0, 0, 0) := by decide +kernel
theorem i_L_law_652 : fetch 0 652 = some (.iconst 0, 653, 0, 0, 0, 0) := by decide +kernel
theorem i_L_law_653 : fetch 0 653 = some (.ireturn, 654, 0, 0, 0, 0) := by decide +kernel
theorem i_L_law_654 : fetch 0 654 = some (.aload_n 1, 655, 0, 0, 0, 0) := by decide +kernel
theorem i_L_law_655 : fetch 0 655 = some (.aload_n 0, 656, 0, 0, 0, 0) := by decide +kernel
theorem i_L_law_656 : fetch 0 656 = some (.iload_n 3, 657, 0, 0, 0, 0) := by decide +kernel
theorem i_L_law_657 : fetch 0 657 = some (.iconst 1, 658, 0, 0, 0, 0) := by decide +kernel
theorem i_L_law_658 : fetch 0 658 = some (.iadd, 659, 0, 0, 0, 0) := by decide +kernel
theorem i_L_law_659 : fetch 0 659 = some (.iaload, 660, 0, 0, 0, 0) := by decide +kernel
theorem i_L_law_660 : fetch 0 660 = some (.aload_n 0, 661, 0, 0, 0, 0) := by decide +kernel
theorem i_L_law_661 : fetch 0 661 = some (.iload_n 3, 662, 0, 0, 0, 0) := by decide +kernel
theorem i_L_law_662 : fetch 0 662 = some (.iconst 2, 663, 0, 0, 0, 0) := by decide +kernel
theorem i_L_law_663 : fetch 0 663 = some (.iadd, 664, 0, 0, 0, 0) := by decide +kernel
theorem i_L_law_664 : fetch 0 664 = some (.iaload, 665, 0, 0, 0, 0) := by decide +kernel
theorem i_L_law_665 : fetch 0 665 = some (.invokevirtual 77, 668, 81, 0, 0, 746) := by decide +kernel
theorem i_L_law_668 : fetch 0 668 = some (.aload_n 2, 669, 0, 0, 0, 0) := by decide +kernel
theorem i_L_law_669 : fetch 0 669 = some (.aload_n 0, 670, 0, 0, 0, 0) := by decide +kernel
theorem i_L_law_670 : fetch 0 670 = some (.iload_n 3, 671, 0, 0, 0, 0) := by decide +kernel
theorem i_L_law_671 : fetch 0 671 = some (.iconst 1, 672, 0, 0, 0, 0) := by decide +kernel
theorem i_L_law_672 : fetch 0 672 = some (.iadd, 673, 0, 0, 0, 0) := by decide +kernel
theorem i_L_law_673 : fetch 0 673 = some (.iaload, 674, 0, 0, 0, 0) := by decide +kernel
theorem i_L_law_674 : fetch 0 674 = some (.aload_n 0, 675, 0, 0, 0, 0) := by decide +kernel
theorem i_L_law_675 : fetch 0 675 = some (.iload_n 3, 676, 0, 0, 0, 0) := by decide +kernel
theorem i_L_law_676 : fetch 0 676 = some (.iconst 2, 677, 0, 0, 0, 0) := by decide +kernel
theorem i_L_law_677 : fetch 0 677 = some (.iadd, 678, 0, 0, 0, 0) := by decide +kernel
theorem i_L_law_678 : fetch 0 678 = some (.iaload, 679, 0, 0, 0, 0) := by decide +kernel
theorem i_L_law_679 : fetch 0 679 = some (.invokevirtual 80, 682, 180, 0, 0, 1344) := by decide +kernel
theorem i_L_law_682 : fetch 0 682 = some (.if_icmp .eq 1091, 685, 0, 0, 0, 0) := by decide +kernel
theorem i_L_law_685 : fetch 0 685 = some (.iconst 0, 686, 0, 0, 0, 0) := by decide +kernel
theorem i_L_law_686 : fetch 0 686 = some (.ireturn, 687, 0, 0, 0, 0) := by decide +kernel
theorem i_L_law_687 : fetch 0 687 = some (.aload_n 1, 688, 0, 0, 0, 0) := by decide +kernel
theorem i_L_law_688 : fetch 0 688 = some (.aload_n 0, 689, 0, 0, 0, 0) := by decide +kernel
theorem i_L_law_689 : fetch 0 689 = some (.iload_n 3, 690, 0, 0, 0, 0) := by decide +kernel
theorem i_L_law_690 : fetch 0 690 = some (.iconst 1, 691, 0, 0, 0, 0) := by decide +kernel
theorem i_L_law_691 : fetch 0 691 = some (.iadd, 692, 0, 0, 0, 0) := by decide +kernel
theorem i_L_law_692 : fetch 0 692 = some (.iaload, 693, 0, 0, 0, 0) := by decide +kernel
theorem i_L_law_693 : fetch 0 693 = some (.aload_n 0, 694, 0, 0, 0, 0) := by decide +kernel
theorem i_L_law_694 : fetch 0 694 = some (.iload_n 3, 695, 0, 0, 0, 0) := by decide +kernel
theorem i_L_law_695 : fetch 0 695 = some (.iconst 2, 696, 0, 0, 0, 0) := by decide +kernel
theorem i_L_law_696 : fetch 0 696 = some (.iadd, 697, 0, 0, 0, 0) := by decide +kernel
theorem i_L_law_697 : fetch 0 697 = some (.iaload, 698, 0, 0, 0, 0) := by decide +kernel
theorem i_L_law_698 : fetch 0 698 = some (.aload_n 0, 699, 0, 0, 0, 0) := by decide +kernel
theorem i_L_law_699 : fetch 0 699 = some (.iload_n 3, 700, 0, 0, 0, 0) := by decide +kernel
theorem i_L_law_700 : fetch 0 700 = some (.iconst 3, 701, 0, 0, 0, 0) := by decide +kernel
theorem i_L_law_701 : fetch 0 701 = some (.iadd, 702, 0, 0, 0, 0) := by decide +kernel
theorem i_L_law_702 : fetch 0 702 = some (.iaload, 703, 0, 0, 0, 0) := by decide +kernel
theorem i_L_law_703 : fetch 0 703 = some (.invokevirtual 81, 706, 82, 0, 0, 764) := by decide +kernel
theorem i_L_law_706 : fetch 0 706 = some (.aload_n 2, 707, 0, 0, 0, 0) := by decide +kernel
theorem i_L_law_707 : fetch 0 707 = some (.aload_n 0, 708, 0, 0, 0, 0) := by decide +kernel
theorem i_L_law_708 : fetch 0 708 = some (.iload_n 3, 709, 0, 0, 0, 0) := by decide +kernel
theorem i_L_law_709 : fetch 0 709 = some (.iconst 1, 710, 0, 0, 0, 0) := by decide +kernel
theorem i_L_law_710 : fetch 0 710 = some (.iadd, 711, 0, 0, 0, 0) := by decide +kernel
theorem i_L_law_711 : fetch 0 711 = some (.iaload, 712, 0, 0, 0, 0) := by decide +kernel
theorem i_L_law_712 : fetch 0 712 = some (.aload_n 0, 713, 0, 0, 0, 0) := by decide +kernel
theorem i_L_law_713 : fetch 0 713 = some (.iload_n 3, 714, 0, 0, 0, 0) := by decide +kernel
theorem i_L_law_714 : fetch 0 714 = some (.iconst 2, 715, 0, 0, 0, 0) := by decide +kernel
theorem i_L_law_715 : fetch 0 715 = some (.iadd, 716, 0, 0, 0, 0) := by decide +kernel
theorem i_L_law_716 : fetch 0 716 = some (.iaload, 717, 0, 0, 0, 0) := by decide +kernel
theorem i_L_law_717 : fetch 0 717 = some (.aload_n 0, 718, 0, 0, 0, 0) := by decide +kernel
theorem i_L_law_718 : fetch 0 718 = some (.iload_n 3, 719, 0, 0, 0, 0) := by decide +kernel
theorem i_L_law_719 : fetch 0 719 = some (.iconst 3, 720, 0, 0, 0, 0) := by decide +kernel
theorem i_L_law_720 : fetch 0 720 = some (.iadd, 721, 0, 0, 0, 0) := by decide +kernel
theorem i_L_law_721 : fetch 0 721 = some (.iaload, 722, 0, 0, 0, 0) := by decide +kernel
theorem i_L_law_722 : fetch 0 722 = some (.invokevirtual 84, 725, 181, 0, 0, 1351) := by decide +kernel
theorem i_L_law_725 : fetch 0 725 = some (.if_icmp .eq 1048, 728, 0, 0, 0, 0) := by decide +kernel
theorem i_L_law_728 : fetch 0 728 = some (.iconst 0, 729, 0, 0, 0, 0) := by decide +kernel
theorem i_L_law_729 : fetch 0 729 = some (.ireturn, 730, 0, 0, 0, 0) := by decide +kernel
theorem i_L_law_730 : fetch 0 730 = some (.aload_n 1, 731, 0, 0, 0, 0) := by decide +kernel
theorem i_L_law_731 : fetch 0 731 = some (.aload_n 0, 732, 0, 0, 0, 0) := by decide +kernel
theorem i_L_law_732 : fetch 0 732 = some (.iload_n 3, 733, 0, 0, 0, 0) := by decide +kernel
theorem i_L_law_733 : fetch 0 733 = some (.iconst 1, 734, 0, 0, 0, 0) := by decide +kernel
theorem i_L_law_734 : fetch 0 734 = some (.iadd, 735, 0, 0, 0, 0) := by decide +kernel
theorem i_L_law_735 : fetch 0 735 = some (.iaload, 736, 0, 0, 0, 0) := by decide +kernel
theorem i_L_law_736 : fetch 0 736 = some (.aload_n 0, 737, 0, 0, 0, 0) := by decide +kernel
theorem i_L_law_737 : fetch 0 737 = some (.iload_n 3, 738, 0, 0, 0, 0) := by decide +kernel
theorem i_L_law_738 : fetch 0 738 = some (.iconst 2, 739, 0, 0, 0, 0) := by decide +kernel
theorem i_L_law_739 : fetch 0 739 = some (.iadd, 740, 0, 0, 0, 0) := by decide +kernel
theorem i_L_law_740 : fetch 0 740 = some (.iaload, 741, 0, 0, 0, 0) := by decide +kernel
theorem i_L_law_741 : fetch 0 741 = some (.aload_n 0, 742, 0, 0, 0, 0) := by decide +kernel
theorem i_L_law_742 : fetch 0 742 = some (.iload_n 3, 743, 0, 0, 0, 0) := by decide +kernel
theorem i_L_law_743 : fetch 0 743 = some (.iconst 3, 744, 0, 0, 0, 0) := by decide +kernel
theorem i_L_law_744 : fetch 0 744 = some (.iadd, 745, 0, 0, 0, 0) := by decide +kernel
theorem i_L_law_745 : fetch 0 745 = some (.iaload, 746, 0, 0, 0, 0) := by decide +kernel
theorem i_L_law_746 : fetch 0 746 = some (.invokevirtual 85, 749, 83, 0, 0, 768) := by decide +kernel
theorem i_L_law_749 : fetch 0 749 = some (.aload_n 2, 750, 0, 0, 0, 0) := by decide +kernel
theorem i_L_law_750 : fetch 0 750 = some (.aload_n 0, 751, 0, 0, 0, 0) := by decide +kernel
theorem i_L_law_751 : fetch 0 751 = some (.iload_n 3, 752, 0, 0, 0, 0) := by decide +kernel
theorem i_L_law_752 : fetch 0 752 = some (.iconst 1, 753, 0, 0, 0, 0) := by decide +kernel
theorem i_L_law_753 : fetch 0 753 = some (.iadd, 754, 0, 0, 0, 0) := by decide +kernel
theorem i_L_law_754 : fetch 0 754 = some (.iaload, 755, 0, 0, 0, 0) := by decide +kernel
theorem i_L_law_755 : fetch 0 755 = some (.aload_n 0, 756, 0, 0, 0, 0) := by decide +kernel
theorem i_L_law_756 : fetch 0 756 = some (.iload_n 3, 757, 0, 0, 0, 0) := by decide +kernel
theorem i_L_law_757 : fetch 0 757 = some (.iconst 2, 758, 0, 0, 0, 0) := by decide +kernel
theorem i_L_law_758 : fetch 0 758 = some (.iadd, 759, 0, 0, 0, 0) := by decide +kernel
theorem i_L_law_759 : fetch 0 759 = some (.iaload, 760, 0, 0, 0, 0) := by decide +kernel
theorem i_L_law_760 : fetch 0 760 = some (.aload_n 0, 761, 0, 0, 0, 0) := by decide +kernel
theorem i_L_law_761 : fetch 0 761 = some (.iload_n 3, 762, 0, 0, 0, 0) := by decide +kernel
theorem i_L_law_762 : fetch 0 762 = some (.iconst 3, 763, 0, 0, 0, 0) := by decide +kernel
theorem i_L_law_763 : fetch 0 763 = some (.iadd, 764, 0, 0, 0, 0) := by decide +kernel
theorem i_L_law_764 : fetch 0 764 = some (.iaload, 765, 0, 0, 0, 0) := by decide +kernel
theorem i_L_law_765 : fetch 0 765 = some (.invokevirtual 88, 768, 182, 0, 0, 1355) := by decide +kernel
theorem i_L_law_768 : fetch 0 768 = some (.if_icmp .eq 1005, 771, 0, 0, 0, 0) := by decide +kernel
theorem i_L_law_771 : fetch 0 771 = some (.iconst 0, 772, 0, 0, 0, 0) := by decide +kernel
theorem i_L_law_772 : fetch 0 772 = some (.ireturn, 773, 0, 0, 0, 0) := by decide +kernel
theorem i_L_law_773 : fetch 0 773 = some (.aload_n 1, 774, 0, 0, 0, 0) := by decide +kernel
theorem i_L_law_774 : fetch 0 774 = some (.aload_n 0, 775, 0, 0, 0, 0) := by decide +kernel
theorem i_L_law_775 : fetch 0 775 = some (.iload_n 3, 776, 0, 0, 0, 0) := by decide +kernel
theorem i_L_law_776 : fetch 0 776 = some (.iconst 1, 777, 0, 0, 0, 0) := by decide +kernel
theorem i_L_law_777 : fetch 0 777 = some (.iadd, 778, 0, 0, 0, 0) := by decide +kernel
theorem i_L_law_778 : fetch 0 778 = some (.iaload, 779, 0, 0, 0, 0) := by decide +kernel
theorem i_L_law_779 : fetch 0 779 = some (.aload_n 0, 780, 0, 0, 0, 0) := by decide +kernel
theorem i_L_law_780 : fetch 0 780 = some (.iload_n 3, 781, 0, 0, 0, 0) := by decide +kernel
theorem i_L_law_781 : fetch 0 781 = some (.iconst 2, 782, 0, 0, 0, 0) := by decide +kernel
theorem i_L_law_782 : fetch 0 782 = some (.iadd, 783, 0, 0, 0, 0) := by decide +kernel
theorem i_L_law_783 : fetch 0 783 = some (.iaload, 784, 0, 0, 0, 0) := by decide +kernel
theorem i_L_law_784 : fetch 0 784 = some (.invokevirtual 89, 787, 84, 0, 0, 773) := by decide +kernel
theorem i_L_law_787 : fetch 0 787 = some (.aload_n 2, 788, 0, 0, 0, 0) := by decide +kernel
theorem i_L_law_788 : fetch 0 788 = some (.aload_n 0, 789, 0, 0, 0, 0) := by decide +kernel
theorem i_L_law_789 : fetch 0 789 = some (.iload_n 3, 790, 0, 0, 0, 0) := by decide +kernel
theorem i_L_law_790 : fetch 0 790 = some (.iconst 1, 791, 0, 0, 0, 0) := by decide +kernel
theorem i_L_law_791 : fetch 0 791 = some (.iadd, 792, 0, 0, 0, 0) := by decide +kernel
theorem i_L_law_792 : fetch 0 792 = some (.iaload, 793, 0, 0, 0, 0) := by decide +kernel
theorem i_L_law_793 : fetch 0 793 = some (.aload_n 0, 794, 0, 0, 0, 0) := by decide +kernel
theorem i_L_law_794 : fetch 0 794 = some (.iload_n 3, 795, 0, 0, 0, 0) := by decide +kernel
theorem i_L_law_795 : fetch 0 795 = some (.iconst 2, 796, 0, 0, 0, 0) := by decide +kernel
theorem i_L_law_796 : fetch 0 796 = some (.iadd, 797, 0, 0, 0, 0) := by decide +kernel
theorem i_L_law_797 : fetch 0 797 = some (.iaload, 798, 0, 0, 0, 0) := by decide +kernel
theorem i_L_law_798 : fetch 0 798 = some (.invokevirtual 92, 801, 183, 0, 0, 1359) := by decide +kernel
theorem i_L_law_801 : fetch 0 801 = some (.if_icmp .eq 972, 804, 0, 0, 0, 0) := by decide +kernel
theorem i_L_law_804 : fetch 0 804 = some (.iconst 0, 805, 0, 0, 0, 0) := by decide +kernel
theorem i_L_law_805 : fetch 0 805 = some (.ireturn, 806, 0, 0, 0, 0) := by decide +kernel
theorem i_L_law_806 : fetch 0 806 = some (.aload_n 1, 807, 0, 0, 0, 0) := by decide +kernel
theorem i_L_law_807 : fetch 0 807 = some (.aload_n 0, 808, 0, 0, 0, 0) := by decide +kernel
theorem i_L_law_808 : fetch 0 808 = some (.iload_n 3, 809, 0, 0, 0, 0) := by decide +kernel
theorem i_L_law_809 : fetch 0 809 = some (.iconst 1, 810, 0, 0, 0, 0) := by decide +kernel
theorem i_L_law_810 : fetch 0 810 = some (.iadd, 811, 0, 0, 0, 0) := by decide +kernel
theorem i_L_law_811 : fetch 0 811 = some (.iaload, 812, 0, 0, 0, 0) := by decide +kernel
theorem i_L_law_812 : fetch 0 812 = some (.aload_n 0, 813, 0, 0, 0, 0) := by decide +kernel
theorem i_L_law_813 : fetch 0 813 = some (.iload_n 3, 814, 0, 0, 0, 0) := by decide +kernel
theorem i_L_law_814 : fetch 0 814 = some (.iconst 2, 815, 0, 0, 0, 0) := by decide +kernel
theorem i_L_law_815 : fetch 0 815 = some (.iadd, 816, 0, 0, 0, 0) := by decide +kernel
theorem i_L_law_816 : fetch 0 816 = some (.iaload, 817, 0, 0, 0, 0) := by decide +kernel
theorem i_L_law_817 : fetch 0 817 = some (.aload_n 0, 818, 0, 0, 0, 0) := by decide +kernel
theorem i_L_law_818 : fetch 0 818 = some (.iload_n 3, 819, 0, 0, 0, 0) := by decide +kernel
theorem i_L_law_819 : fetch 0 819 = some (.iconst 3, 820, 0, 0, 0, 0) := by decide +kernel
theorem i_L_law_820 : fetch 0 820 = some (.iadd, 821, 0, 0, 0, 0) := by decide +kernel
theorem i_L_law_821 : fetch 0 821 = some (.iaload, 822, 0, 0, 0, 0) := by decide +kernel
theorem i_L_law_822 : fetch 0 822 = some (.invokevirtual 93, 825, 85, 0, 0, 779) := by decide +kernel
theorem i_L_law_825 : fetch 0 825 = some (.aload_n 2, 826, 0, 0, 0, 0) := by decide +kernel
theorem i_L_law_826 : fetch 0 826 = some (.aload_n 0, 827, 0, 0, 0, 0) := by decide +kernel
theorem i_L_law_827 : fetch 0 827 = some (.iload_n 3, 828, 0, 0, 0, 0) := by decide +kernel
theorem i_L_law_828 : fetch 0 828 = some (.iconst 1, 829, 0, 0, 0, 0) := by decide +kernel
theorem i_L_law_829 : fetch 0 829 = some (.iadd, 830, 0, 0, 0, 0) := by decide +kernel
theorem i_L_law_830 : fetch 0 830 = some (.iaload, 831, 0, 0, 0, 0) := by decide +kernel
theorem i_L_law_831 : fetch 0 831 = some (.aload_n 0, 832, 0, 0, 0, 0) := by decide +kernel
theorem i_L_law_832 : fetch 0 832 = some (.iload_n 3, 833, 0, 0, 0, 0) := by decide +kernel
theorem i_L_law_833 : fetch 0 833 = some (.iconst 2, 834, 0, 0, 0, 0) := by decide +kernel
theorem i_L_law_834 : fetch 0 834 = some (.iadd, 835, 0, 0, 0, 0) := by decide +kernel
theorem i_L_law_835 : fetch 0 835 = some (.iaload, 836, 0, 0, 0, 0) := by decide +kernel
theorem i_L_law_836 : fetch 0 836 = some (.aload_n 0, 837, 0, 0, 0, 0) := by decide +kernel
theorem i_L_law_837 : fetch 0 837 = some (.iload_n 3, 838, 0, 0, 0, 0) := by decide +kernel
theorem i_L_law_838 : fetch 0 838 = some (.iconst 3, 839, 0, 0, 0, 0) := by decide +kernel
theorem i_L_law_839 : fetch 0 839 = some (.iadd, 840, 0, 0, 0, 0) := by decide +kernel
theorem i_L_law_840 : fetch 0 840 = some (.iaload, 841, 0, 0, 0, 0) := by decide +kernel
theorem i_L_law_841 : fetch 0 841 = some (.invokevirtual 96, 844, 184, 0, 0, 1363) := by decide +kernel
theorem i_L_law_844 : fetch 0 844 = some (.if_icmp .eq 929, 847, 0, 0, 0, 0) := by decide +kernel
theorem i_L_law_847 : fetch 0 847 = some (.iconst 0, 848, 0, 0, 0, 0) := by decide +kernel
theorem i_L_law_848 : fetch 0 848 = some (.ireturn, 849, 0, 0, 0, 0) := by decide +kernel
theorem i_L_law_849 : fetch 0 849 = some (.aload_n 1, 850, 0, 0, 0, 0) := by decide +kernel
theorem i_L_law_850 : fetch 0 850 = some (.aload_n 0, 851, 0, 0, 0, 0) := by decide +kernel
theorem i_L_law_851 : fetch 0 851 = some (.iload_n 3, 852, 0, 0, 0, 0) := by decide +kernel
theorem i_L_law_852 : fetch 0 852 = some (.iconst 1, 853, 0, 0, 0, 0) := by decide +kernel
theorem i_L_law_853 : fetch 0 853 = some (.iadd, 854, 0, 0, 0, 0) := by decide +kernel
theorem i_L_law_854 : fetch 0 854 = some (.iaload, 855, 0, 0, 0, 0) := by decide +kernel
theorem i_L_law_855 : fetch 0 855 = some (.aload_n 0, 856, 0, 0, 0, 0) := by decide +kernel
theorem i_L_law_856 : fetch 0 856 = some (.iload_n 3, 857, 0, 0, 0, 0) := by decide +kernel
theorem i_L_law_857 : fetch 0 857 = some (.iconst 2, 858, 0, 0, 0, 0) := by decide +kernel
theorem i_L_law_858 : fetch 0 858 = some (.iadd, 859, 0, 0, 0, 0) := by decide +kernel
theorem i_L_law_859 : fetch 0 859 = some (.iaload, 860, 0, 0, 0, 0) := by decide +kernel
theorem i_L_law_860 : fetch 0 860 = some (.aload_n 0, 861, 0, 0, 0, 0) := by decide +kernel
theorem i_L_law_861 : fetch 0 861 = some (.iload_n 3, 862, 0, 0, 0, 0) := by decide +kernel
theorem i_L_law_862 : fetch 0 862 = some (.iconst 3, 863, 0, 0, 0, 0) := by decide +kernel
theorem i_L_law_863 : fetch 0 863 = some (.iadd, 864, 0, 0, 0, 0) := by decide +kernel
theorem i_L_law_864 : fetch 0 864 = some (.iaload, 865, 0, 0, 0, 0) := by decide +kernel
theorem i_L_law_865 : fetch 0 865 = some (.invokevirtual 97, 868, 86, 0, 0, 783) := by decide +kernel
theorem i_L_law_868 : fetch 0 868 = some (.aload_n 2, 869, 0, 0, 0, 0) := by decide +kernel
theorem i_L_law_869 : fetch 0 869 = some (.aload_n 0, 870, 0, 0, 0, 0) := by decide +kernel
theorem i_L_law_870 : fetch 0 870 = some (.iload_n 3, 871, 0, 0, 0, 0) := by decide +kernel
theorem i_L_law_871 : fetch 0 871 = some (.iconst 1, 872, 0, 0, 0, 0) := by decide +kernel
theorem i_L_law_872 : fetch 0 872 = some (.iadd, 873, 0, 0, 0, 0) := by decide +kernel
theorem i_L_law_873 : fetch 0 873 = some (.iaload, 874, 0, 0, 0, 0) := by decide +kernel
theorem i_L_law_874 : fetch 0 874 = some (.aload_n 0, 875, 0, 0, 0, 0) := by decide +kernel
theorem i_L_law_875 : fetch 0 875 = some (.iload_n 3, 876, 0, 0, 0, 0) := by decide +kernel
theorem i_L_law_876 : fetch 0 876 = some (.iconst 2, 877, 0, 0, 0, 0) := by decide +kernel
theorem i_L_law_877 : fetch 0 877 = some (.iadd, 878, 0, 0, 0, 0) := by decide +kernel
theorem i_L_law_878 : fetch 0 878 = some (.iaload, 879, 0, 0, 0, 0) := by decide +kernel
theorem i_L_law_879 : fetch 0 879 = some (.aload_n 0, 880, 0, 0, 0, 0) := by decide +kernel
theorem i_L_law_880 : fetch 0 880 = some (.iload_n 3, 881, 0, 0, 0, 0) := by decide +kernel
theorem i_L_law_881 : fetch 0 881 = some (.iconst 3, 882, 0, 0, 0, 0) := by decide +kernel
theorem i_L_law_882 : fetch 0 882 = some (.iadd, 883, 0, 0, 0, 0) := by decide +kernel
theorem i_L_law_883 : fetch 0 883 = some (.iaload, 884, 0, 0, 0, 0) := by decide +kernel
theorem i_L_law_884 : fetch 0 884 = some (.invokevirtual 100, 887, 187, 0, 0, 1367) := by decide +kernel
theorem i_L_law_887 : fetch 0 887 = some (.if_icmp .eq 886, 890, 0, 0, 0, 0) := by decide +kernel
theorem i_L_law_890 : fetch 0 890 = some (.iconst 0, 891, 0, 0, 0, 0) := by decide +kernel
theorem i_L_law_891 : fetch 0 891 = some (.ireturn, 892, 0, 0, 0, 0) := by decide +kernel
theorem i_L_law_892 : fetch 0 892 = some (.aload_n 1, 893, 0, 0, 0, 0) := by decide +kernel
theorem i_L_law_893 : fetch 0 893 = some (.aload_n 0, 894, 0, 0, 0, 0) := by decide +kernel
theorem i_L_law_894 : fetch 0 894 = some (.iload_n 3, 895, 0, 0, 0, 0) := by decide +kernel
theorem i_L_law_895 : fetch 0 895 = some (.iconst 1, 896, 0, 0, 0, 0) := by decide +kernel
theorem i_L_law_896 : fetch 0 896 = some (.iadd, 897, 0, 0, 0, 0) := by decide +kernel
theorem i_L_law_897 : fetch 0 897 = some (.iaload, 898, 0, 0, 0, 0) := by decide +kernel
theorem i_L_law_898 : fetch 0 898 = some (.aload_n 0, 899, 0, 0, 0, 0) := by decide +kernel
theorem i_L_law_899 : fetch 0 899 = some (.iload_n 3, 900, 0, 0, 0, 0) := by decide +kernel
theorem i_L_law_900 : fetch 0 900 = some (.iconst 2, 901, 0, 0, 0, 0) := by decide +kernel
theorem i_L_law_901 : fetch 0 901 = some (.iadd, 902, 0, 0, 0, 0) := by decide +kernel
theorem i_L_law_902 : fetch 0 902 = some (.iaload, 903, 0, 0, 0, 0) := by decide +kernel
theorem i_L_law_903 : fetch 0 903 = some (.invokevirtual 101, 906, 87, 0, 0, 798) := by decide +kernel
theorem i_L_law_906 : fetch 0 906 = some (.aload_n 2, 907, 0, 0, 0, 0) := by decide +kernel
theorem i_L_law_907 : fetch 0 907 = some (.aload_n 0, 908, 0, 0, 0, 0) := by decide +kernel
theorem i_L_law_908 : fetch 0 908 = some (.iload_n 3, 909, 0, 0, 0, 0) := by decide +kernel
theorem i_L_law_909 : fetch 0 909 = some (.iconst 1, 910, 0, 0, 0, 0) := by decide +kernel
theorem i_L_law_910 : fetch 0 910 = some (.iadd, 911, 0, 0, 0, 0) := by decide +kernel
theorem i_L_law_911 : fetch 0 911 = some (.iaload, 912, 0, 0, 0, 0) := by decide +kernel
theorem i_L_law_912 : fetch 0 912 = some (.aload_n 0, 913, 0, 0, 0, 0) := by decide +kernel
theorem i_L_law_913 : fetch 0 913 = some (.iload_n 3, 914, 0, 0, 0, 0) := by decide +kernel
theorem i_L_law_914 : fetch 0 914 = some (.iconst 2, 915, 0, 0, 0, 0) := by decide +kernel
theorem i_L_law_915 : fetch 0 915 = some (.iadd, 916, 0, 0, 0, 0) := by decide +kernel
theorem i_L_law_916 : fetch 0 916 = some (.iaload, 917, 0, 0, 0, 0) := by decide +kernel
theorem i_L_law_917 : fetch 0 917 = some (.invokevirtual 104, 920, 188, 0, 0, 1379) := by decide +kernel
theorem i_L_law_920 : fetch 0 920 = some (.if_icmp .eq 853, 923, 0, 0, 0, 0) := by decide +kernel
theorem i_L_law_923 : fetch 0 923 = some (.iconst 0, 924, 0, 0, 0, 0) := by decide +kernel
theorem i_L_law_924 : fetch 0 924 = some (.ireturn, 925, 0, 0, 0, 0) := by decide +kernel
theorem i_L_law_925 : fetch 0 925 = some (.aload_n 1, 926, 0, 0, 0, 0) := by decide +kernel
theorem i_L_law_926 : fetch 0 926 = some (.aload_n 0, 927, 0, 0, 0, 0) := by decide +kernel
theorem i_L_law_927 : fetch 0 927 = some (.iload_n 3, 928, 0, 0, 0, 0) := by decide +kernel
theorem i_L_law_928 : fetch 0 928 = some (.iconst 1, 929, 0, 0, 0, 0) := by decide +kernel
theorem i_L_law_929 : fetch 0 929 = some (.iadd, 930, 0, 0, 0, 0) := by decide +kernel
theorem i_L_law_930 : fetch 0 930 = some (.iaload, 931, 0, 0, 0, 0) := by decide +kernel
theorem i_L_law_931 : fetch 0 931 = some (.aload_n 0, 932, 0, 0, 0, 0) := by decide +kernel
theorem i_L_law_932 : fetch 0 932 = some (.iload_n 3, 933, 0, 0, 0, 0) := by decide +kernel
theorem i_L_law_933 : fetch 0 933 = some (.iconst 2, 934, 0, 0, 0, 0) := by decide +kernel
theorem i_L_law_934 : fetch 0 934 = some (.iadd, 935, 0, 0, 0, 0) := by decide +kernel
theorem i_L_law_935 : fetch 0 935 = some (.iaload, 936, 0, 0, 0, 0) := by decide +kernel
theorem i_L_law_936 : fetch 0 936 = some (.aload_n 0, 937, 0, 0, 0, 0) := by decide +kernel
theorem i_L_law_937 : fetch 0 937 = some (.iload_n 3, 938, 0, 0, 0, 0) := by decide +kernel
theorem i_L_law_938 : fetch 0 938 = some (.iconst 3, 939, 0, 0, 0, 0) := by decide +kernel
theorem i_L_law_939 : fetch 0 939 = some (.iadd, 940, 0, 0, 0, 0) := by decide +kernel
theorem i_L_law_940 : fetch 0 940 = some (.iaload, 941, 0, 0, 0, 0) := by decide +kernel
theorem i_L_law_941 : fetch 0 941 = some (.invokevirtual 105, 944, 88, 0, 0, 816) := by decide +kernel
theorem i_L_law_944 : fetch 0 944 = some (.aload_n 2, 945, 0, 0, 0, 0) := by decide +kernel
theorem i_L_law_945 : fetch 0 945 = some (.aload_n 0, 946, 0, 0, 0, 0) := by decide +kernel
theorem i_L_law_946 : fetch 0 946 = some (.iload_n 3, 947, 0, 0, 0, 0) := by decide +kernel
theorem i_L_law_947 : fetch 0 947 = some (.iconst 1, 948, 0, 0, 0, 0) := by decide +kernel
theorem i_L_law_948 : fetch 0 948 = some (.iadd, 949, 0, 0, 0, 0) := by decide +kernel
theorem i_L_law_949 : fetch 0 949 = some (.iaload, 950, 0, 0, 0, 0) := by decide +kernel
theorem i_L_law_950 : fetch 0 950 = some (.aload_n 0, 951, 0, 0, 0, 0) := by decide +kernel
theorem i_L_law_951 : fetch 0 951 = some (.iload_n 3, 952, 0, 0, 0, 0) := by decide +kernel
theorem i_L_law_952 : fetch 0 952 = some (.iconst 2, 953, 0, 0, 0, 0) := by decide +kernel
theorem i_L_law_953 : fetch 0 953 = some (.iadd, 954, 0, 0, 0, 0) := by decide +kernel
theorem i_L_law_954 : fetch 0 954 = some (.iaload, 955, 0, 0, 0, 0) := by decide +kernel
theorem i_L_law_955 : fetch 0 955 = some (.aload_n 0, 956, 0, 0, 0, 0) := by decide +kernel
theorem i_L_law_956 : fetch 0 956 = some (.iload_n 3, 957, 0, 0, 0, 0) := by decide +kernel
theorem i_L_law_957 : fetch 0 957 = some (.iconst 3, 958, 0, 0, 0, 0) := by decide +kernel
theorem i_L_law_958 : fetch 0 958 = some (.iadd, 959, 0, 0, 0, 0) := by decide +kernel
theorem i_L_law_959 : fetch 0 959 = some (.iaload, 960, 0, 0, 0, 0) := by decide +kernel
theorem i_L_law_960 : fetch 0 960 = some (.invokevirtual 108, 963, 189, 0, 0, 1383) := by decide +kernel
theorem i_L_law_963 : fetch 0 963 = some (.if_icmp .eq 810, 966, 0, 0, 0, 0) := by decide +kernel
theorem i_L_law_966 : fetch 0 966 = some (.iconst 0, 967, 0, 0, 0, 0) := by decide +kernel
theorem i_L_law_967 : fetch 0 967 = some (.ireturn, 968, 0, 0, 0, 0) := by decide +kernel
theorem i_L_law_968 : fetch 0 968 = some (.aload_n 1, 969, 0, 0, 0, 0) := by decide +kernel
theorem i_L_law_969 : fetch 0 969 = some (.aload_n 0, 970, 0, 0, 0, 0) := by decide +kernel
theorem i_L_law_970 : fetch 0 970 = some (.iload_n 3, 971, 0, 0, 0, 0) := by decide +kernel
theorem i_L_law_971 : fetch 0 971 = some (.iconst 1, 972, 0, 0, 0, 0) := by decide +kernel
theorem i_L_law_972 : fetch 0 972 = some (.iadd, 973, 0, 0, 0, 0) := by decide +kernel
theorem i_L_law_973 : fetch 0 973 = some (.iaload, 974, 0, 0, 0, 0) := by decide +kernel
theorem i_L_law_974 : fetch 0 974 = some (.aload_n 0, 975, 0, 0, 0, 0) := by decide +kernel
theorem i_L_law_975 : fetch 0 975 = some (.iload_n 3, 976, 0, 0, 0, 0) := by decide +kernel
theorem i_L_law_976 : fetch 0 976 = some (.iconst 2, 977, 0, 0, 0, 0) := by decide +kernel
theorem i_L_law_977 : fetch 0 977 = some (.iadd, 978, 0, 0, 0, 0) := by decide +kernel
theorem i_L_law_978 : fetch 0 978 = some (.iaload, 979, 0, 0, 0, 0) := by decide +kernel
theorem i_L_law_979 : fetch 0 979 = some (.invokevirtual 109, 982, 89, 0, 0, 830) := by decide +kernel
theorem i_L_law_982 : fetch 0 982 = some (.aload_n 2, 983, 0, 0, 0, 0) := by decide +kernel
theorem i_L_law_983 : fetch 0 983 = some (.aload_n 0, 984, 0, 0, 0, 0) := by decide +kernel
theorem i_L_law_984 : fetch 0 984 = some (.iload_n 3, 985, 0, 0, 0, 0) := by decide +kernel
theorem i_L_law_985 : fetch 0 985 = some (.iconst 1, 986, 0, 0, 0, 0) := by decide +kernel
theorem i_L_law_986 : fetch 0 986 = some (.iadd, 987, 0, 0, 0, 0) := by decide +kernel
theorem i_L_law_987 : fetch 0 987 = some (.iaload, 988, 0, 0, 0, 0) := by decide +kernel
theorem i_L_law_988 : fetch 0 988 = some (.aload_n 0, 989, 0, 0, 0, 0) := by decide +kernel
theorem i_L_law_989 : fetch 0 989 = some (.iload_n 3, 990, 0, 0, 0, 0) := by decide +kernel
theorem i_L_law_990 : fetch 0 990 = some (.iconst 2, 991, 0, 0, 0, 0) := by decide +kernel
theorem i_L_law_991 : fetch 0 991 = some (.iadd, 992, 0, 0, 0, 0) := by decide +kernel
theorem i_L_law_992 : fetch 0 992 = some (.iaload, 993, 0, 0, 0, 0) := by decide +kernel
theorem i_L_law_993 : fetch 0 993 = some (.invokevirtual 112, 996, 190, 0, 0, 1387) := by decide +kernel
theorem i_L_law_996 : fetch 0 996 = some (.if_icmp .eq 777, 999, 0, 0, 0, 0) := by decide +kernel
theorem i_L_law_999 : fetch 0 999 = some (.iconst 0, 1000, 0, 0, 0, 0) := by decide +kernel
theorem i_L_law_1000 : fetch 0 1000 = some (.ireturn, 1001, 0, 0, 0, 0) := by decide +kernel
theorem i_L_law_1001 : fetch 0 1001 = some (.aload_n 1, 1002, 0, 0, 0, 0) := by decide +kernel
theorem i_L_law_1002 : fetch 0 1002 = some (.aload_n 0, 1003, 0, 0, 0, 0) := by decide +kernel
theorem i_L_law_1003 : fetch 0 1003 = some (.iload_n 3, 1004, 0, 0, 0, 0) := by decide +kernel
theorem i_L_law_1004 : fetch 0 1004 = some (.iconst 1, 1005, 0, 0, 0, 0) := by decide +kernel
theorem i_L_law_1005 : fetch 0 1005 = some (.iadd, 1006, 0, 0, 0, 0) := by decide +kernel
theorem i_L_law_1006 : fetch 0 1006 = some (.iaload, 1007, 0, 0, 0, 0) := by decide +kernel
theorem i_L_law_1007 : fetch 0 1007 = some (.aload_n 0, 1008, 0, 0, 0, 0) := by decide +kernel
theorem i_L_law_1008 : fetch 0 1008 = some (.iload_n 3, 1009, 0, 0, 0, 0) := by decide +kernel
theorem i_L_law_1009 : fetch 0 1009 = some (.iconst 2, 1010, 0, 0, 0, 0) := by decide +kernel
theorem i_L_law_1010 : fetch 0 1010 = some (.iadd, 1011, 0, 0, 0, 0) := by decide +kernel
theorem i_L_law_1011 : fetch 0 1011 = some (.iaload, 1012, 0, 0, 0, 0) := by decide +kernel
theorem i_L_law_1012 : fetch 0 1012 = some (.invokevirtual 113, 1015, 90, 0, 0, 834) := by decide +kernel
theorem i_L_law_1015 : fetch 0 1015 = some (.aload_n 2, 1016, 0, 0, 0, 0) := by decide +kernel
theorem i_L_law_1016 : fetch 0 1016 = some (.aload_n 0, 1017, 0, 0, 0, 0) := by decide +kernel
theorem i_L_law_1017 : fetch 0 1017 = some (.iload_n 3, 1018, 0, 0, 0, 0) := by decide +kernel
theorem i_L_law_1018 : fetch 0 1018 = some (.iconst 1, 1019, 0, 0, 0, 0) := by decide +kernel
theorem i_L_law_1019 : fetch 0 1019 = some (.iadd, 1020, 0, 0, 0, 0) := by decide +kernel
theorem i_L_law_1020 : fetch 0 1020 = some (.iaload, 1021, 0, 0, 0, 0) := by decide +kernel
theorem i_L_law_1021 : fetch 0 1021 = some (.aload_n 0, 1022, 0, 0, 0, 0) := by decide +kernel
theorem i_L_law_1022 : fetch 0 1022 = some (.iload_n 3, 1023, 0, 0, 0, 0) := by decide +kernel
theorem i_L_law_1023 : fetch 0 1023 = some (.iconst 2, 1024, 0, 0, 0, 0) := by decide +kernel
theorem i_L_law_1024 : fetch 0 1024 = some (.iadd, 1025, 0, 0, 0, 0) := by decide +kernel
theorem i_L_law_1025 : fetch 0 1025 = some (.iaload, 1026, 0, 0, 0, 0) := by decide +kernel
theorem i_L_law_1026 : fetch 0 1026 = some (.invokevirtual 116, 1029, 191, 0, 0, 1391) := by decide +kernel
theorem i_L_law_1029 : fetch 0 1029 = some (.if_icmp .eq 744, 1032, 0, 0, 0, 0) := by decide +kernel
theorem i_L_law_1032 : fetch 0 1032 = some (.iconst 0, 1033, 0, 0, 0, 0) := by decide +kernel
theorem i_L_law_1033 : fetch 0 1033 = some (.ireturn, 1034, 0, 0, 0, 0) := by decide +kernel
theorem i_L_law_1034 : fetch 0 1034 = some (.aload_n 1, 1035, 0, 0, 0, 0) := by decide +kernel
theorem i_L_law_1035 : fetch 0 1035 = some (.aload_n 0, 1036, 0, 0, 0, 0) := by decide +kernel
theorem i_L_law_1036 : fetch 0 1036 = some (.iload_n 3, 1037, 0, 0, 0, 0) := by decide +kernel
theorem i_L_law_1037 : fetch 0 1037 = some (.iconst 1, 1038, 0, 0, 0, 0) := by decide +kernel
theorem i_L_law_1038 : fetch 0 1038 = some (.iadd, 1039, 0, 0, 0, 0) := by decide +kernel
theorem i_L_law_1039 : fetch 0 1039 = some (.iaload, 1040, 0, 0, 0, 0) := by decide +kernel
theorem i_L_law_1040 : fetch 0 1040 = some (.aload_n 0, 1041, 0, 0, 0, 0) := by decide +kernel
theorem i_L_law_1041 : fetch 0 1041 = some (.iload_n 3, 1042, 0, 0, 0, 0) := by decide +kernel
theorem i_L_law_1042 : fetch 0 1042 = some (.iconst 2, 1043, 0, 0, 0, 0) := by decide +kernel
theorem i_L_law_1043 : fetch 0 1043 = some (.iadd, 1044, 0, 0, 0, 0) := by decide +kernel
theorem i_L_law_1044 : fetch 0 1044 = some (.iaload, 1045, 0, 0, 0, 0) := by decide +kernel
theorem i_L_law_1045 : fetch 0 1045 = some (.invokevirtual 117, 1048, 91, 0, 0, 838) := by decide +kernel
theorem i_L_law_1048 : fetch 0 1048 = some (.aload_n 2, 1049, 0, 0, 0, 0) := by decide +kernel
theorem i_L_law_1049 : fetch 0 1049 = some (.aload_n 0, 1050, 0, 0, 0, 0) := by decide +kernel
theorem i_L_law_1050 : fetch 0 1050 = some (.iload_n 3, 1051, 0, 0, 0, 0) := by decide +kernel
theorem i_L_law_1051 : fetch 0 1051 = some (.iconst 1, 1052, 0, 0, 0, 0) := by decide +kernel
theorem i_L_law_1052 : fetch 0 1052 = some (.iadd, 1053, 0, 0, 0, 0) := by decide +kernel
theorem i_L_law_1053 : fetch 0 1053 = some (.iaload, 1054, 0, 0, 0, 0) := by decide +kernel
theorem i_L_law_1054 : fetch 0 1054 = some (.aload_n 0, 1055, 0, 0, 0, 0) := by decide +kernel
theorem i_L_law_1055 : fetch 0 1055 = some (.iload_n 3, 1056, 0, 0, 0, 0) := by decide +kernel
theorem i_L_law_1056 : fetch 0 1056 = some (.iconst 2, 1057, 0, 0, 0, 0) := by decide +kernel
theorem i_L_law_1057 : fetch 0 1057 = some (.iadd, 1058, 0, 0, 0, 0) := by decide +kernel
theorem i_L_law_1058 : fetch 0 1058 = some (.iaload, 1059, 0, 0, 0, 0) := by decide +kernel
theorem i_L_law_1059 : fetch 0 1059 = some (.invokevirtual 120, 1062, 192, 0, 0, 1395) := by decide +kernel
theorem i_L_law_1062 : fetch 0 1062 = some (.if_icmp .eq 711, 1065, 0, 0, 0, 0) := by decide +kernel
theorem i_L_law_1065 : fetch 0 1065 = some (.iconst 0, 1066, 0, 0, 0, 0) := by decide +kernel
theorem i_L_law_1066 : fetch 0 1066 = some (.ireturn, 1067, 0, 0, 0, 0) := by decide +kernel
theorem i_L_law_1067 : fetch 0 1067 = some (.aload_n 1, 1068, 0, 0, 0, 0) := by decide +kernel
theorem i_L_law_1068 : fetch 0 1068 = some (.aload_n 0, 1069, 0, 0, 0, 0) := by decide +kernel
theorem i_L_law_1069 : fetch 0 1069 = some (.iload_n 3, 1070, 0, 0, 0, 0) := by decide +kernel
theorem i_L_law_1070 : fetch 0 1070 = some (.iconst 1, 1071, 0, 0, 0, 0) := by decide +kernel
theorem i_L_law_1071 : fetch 0 1071 = some (.iadd, 1072, 0, 0, 0, 0) := by decide +kernel
theorem i_L_law_1072 : fetch 0 1072 = some (.iaload, 1073, 0, 0, 0, 0) := by decide +kernel
theorem i_L_law_1073 : fetch 0 1073 = some (.aload_n 0, 1074, 0, 0, 0, 0) := by decide +kernel
theorem i_L_law_1074 : fetch 0 1074 = some (.iload_n 3, 1075, 0, 0, 0, 0) := by decide +kernel
theorem i_L_law_1075 : fetch 0 1075 = some (.iconst 2, 1076, 0, 0, 0, 0) := by decide +kernel
theorem i_L_law_1076 : fetch 0 1076 = some (.iadd, 1077, 0, 0, 0, 0) := by decide +kernel
theorem i_L_law_1077 : fetch 0 1077 = some (.iaload, 1078, 0, 0, 0, 0) := by decide +kernel
theorem i_L_law_1078 : fetch 0 1078 = some (.aload_n 0, 1079, 0, 0, 0, 0) := by decide +kernel
theorem i_L_law_1079 : fetch 0 1079 = some (.iload_n 3, 1080, 0, 0, 0, 0) := by decide +kernel
theorem i_L_law_1080 : fetch 0 1080 = some (.iconst 3, 1081, 0, 0, 0, 0) := by decide +kernel
theorem i_L_law_1081 : fetch 0 1081 = some (.iadd, 1082, 0, 0, 0, 0) := by decide +kernel
theorem i_L_law_1082 : fetch 0 1082 = some (.iaload, 1083, 0, 0, 0, 0) := by decide +kernel
theorem i_L_law_1083 : fetch 0 1083 = some (.invokevirtual 121, 1086, 92, 0, 0, 845) := by decide +kernel
theorem i_L_law_1086 : fetch 0 1086 = some (.aload_n 2, 1087, 0, 0, 0, 0) := by decide +kernel
theorem i_L_law_1087 : fetch 0 1087 = some (.aload_n 0, 1088, 0, 0, 0, 0) := by decide +kernel
theorem i_L_law_1088 : fetch 0 1088 = some (.iload_n 3, 1089, 0, 0, 0, 0) := by decide +kernel
theorem i_L_law_1089 : fetch 0 1089 = some (.iconst 1, 1090, 0, 0, 0, 0) := by decide +kernel
theorem i_L_law_1090 : fetch 0 1090 = some (.iadd, 1091, 0, 0, 0, 0) := by decide +kernel
theorem i_L_law_1091 : fetch 0 1091 = some (.iaload, 1092, 0, 0, 0, 0) := by decide +kernel
theorem i_L_law_1092 : fetch 0 1092 = some (.aload_n 0, 1093, 0, 0, 0, 0) := by decide +kernel
theorem i_L_law_1093 : fetch 0 1093 = some (.iload_n 3, 1094, 0, 0, 0, 0) := by decide +kernel
theorem i_L_law_1094 : fetch 0 1094 = some (.iconst 2, 1095, 0, 0, 0, 0) := by decide +kernel
theorem i_L_law_1095 : fetch 0 1095 = some (.iadd, 1096, 0, 0, 0, 0) := by decide +kernel
theorem i_L_law_1096 : fetch 0 1096 = some (.iaload, 1097, 0, 0, 0, 0) := by decide +kernel
theorem i_L_law_1097 : fetch 0 1097 = some (.aload_n 0, 1098, 0, 0, 0, 0) := by decide +kernel
theorem i_L_law_1098 : fetch 0 1098 = some (.iload_n 3, 1099, 0, 0, 0, 0) := by decide +kernel
theorem i_L_law_1099 : fetch 0 1099 = some (.iconst 3, 1100, 0, 0, 0, 0) := by decide +kernel
theorem i_L_law_1100 : fetch 0 1100 = some (.iadd, 1101, 0, 0, 0, 0) := by decide +kernel
theorem i_L_law_1101 : fetch 0 1101 = some (.iaload, 1102, 0, 0, 0, 0) := by decide +kernel
theorem i_L_law_1102 : fetch 0 1102 = some (.invokevirtual 124, 1105, 194, 0, 0, 1402) := by decide +kernel
theorem i_L_law_1105 : fetch 0 1105 = some (.if_icmp .eq 668, 1108, 0, 0, 0, 0) := by decide +kernel
theorem i_L_law_1108 : fetch 0 1108 = some (.iconst 0, 1109, 0, 0, 0, 0) := by decide +kernel
theorem i_L_law_1109 : fetch 0 1109 = some (.ireturn, 1110, 0, 0, 0, 0) := by decide +kernel
theorem i_L_law_1110 : fetch 0 1110 = some (.aload_n 1, 1111, 0, 0, 0, 0) := by decide +kernel
theorem i_L_law_1111 : fetch 0 1111 = some (.aload_n 0, 1112, 0, 0, 0, 0) := by decide +kernel
theorem i_L_law_1112 : fetch 0 1112 = some (.iload_n 3, 1113, 0, 0, 0, 0) := by decide +kernel
theorem i_L_law_1113 : fetch 0 1113 = some (.iconst 1, 1114, 0, 0, 0, 0) := by decide +kernel
theorem i_L_law_1114 : fetch 0 1114 = some (.iadd, 1115, 0, 0, 0, 0) := by decide +kernel
theorem i_L_law_1115 : fetch 0 1115 = some (.iaload, 1116, 0, 0, 0, 0) := by decide +kernel
theorem i_L_law_1116 : fetch 0 1116 = some (.invokevirtual 125, 1119, 93, 0, 0, 853) := by decide +kernel
theorem i_L_law_1119 : fetch 0 1119 = some (.aload_n 2, 1120, 0, 0, 0, 0) := by decide +kernel
theorem i_L_law_1120 : fetch 0 1120 = some (.aload_n 0, 1121, 0, 0, 0, 0) := by decide +kernel
theorem i_L_law_1121 : fetch 0 1121 = some (.iload_n 3, 1122, 0, 0, 0, 0) := by decide +kernel
theorem i_L_law_1122 : fetch 0 1122 = some (.iconst 1, 1123, 0, 0, 0, 0) := by decide +kernel
theorem i_L_law_1123 : fetch 0 1123 = some (.iadd, 1124, 0, 0, 0, 0) := by decide +kernel
theorem i_L_law_1124 : fetch 0 1124 = some (.iaload, 1125, 0, 0, 0, 0) := by decide +kernel
theorem i_L_law_1125 : fetch 0 1125 = some (.invokevirtual 128, 1128, 195, 0, 0, 1410) := by decide +kernel
theorem i_L_law_1128 : fetch 0 1128 = some (.if_icmp .eq 645, 1131, 0, 0, 0, 0) := by decide +kernel
theorem i_L_law_1131 : fetch 0 1131 = some (.iconst 0, 1132, 0, 0, 0, 0) := by decide +kernel
theorem i_L_law_1132 : fetch 0 1132 = some (.ireturn, 1133, 0, 0, 0, 0) := by decide +kernel
theorem i_L_law_1133 : fetch 0 1133 = some (.aload_n 1, 1134, 0, 0, 0, 0) := by decide +kernel
theorem i_L_law_1134 : fetch 0 1134 = some (.aload_n 0, 1135, 0, 0, 0, 0) := by decide +kernel
theorem i_L_law_1135 : fetch 0 1135 = some (.iload_n 3, 1136, 0, 0, 0, 0) := by decide +kernel
theorem i_L_law_1136 : fetch 0 1136 = some (.iconst 1, 1137, 0, 0, 0, 0) := by decide +kernel
theorem i_L_law_1137 : fetch 0 1137 = some (.iadd, 1138, 0, 0, 0, 0) := by decide +kernel
theorem i_L_law_1138 : fetch 0 1138 = some (.iaload, 1139, 0, 0, 0, 0) := by decide +kernel
theorem i_L_law_1139 : fetch 0 1139 = some (.aload_n 0, 1140, 0, 0, 0, 0) := by decide +kernel
theorem i_L_law_1140 : fetch 0 1140 = some (.iload_n 3, 1141, 0, 0, 0, 0) := by decide +kernel
theorem i_L_law_1141 : fetch 0 1141 = some (.iconst 2, 1142, 0, 0, 0, 0) := by decide +kernel
theorem i_L_law_1142 : fetch 0 1142 = some (.iadd, 1143, 0, 0, 0, 0) := by decide +kernel
theorem i_L_law_1143 : fetch 0 1143 = some (.iaload, 1144, 0, 0, 0, 0) := by decide +kernel
theorem i_L_law_1144 : fetch 0 1144 = some (.invokevirtual 129, 1147, 94, 0, 0, 857) := by decide +kernel
theorem i_L_law_1147 : fetch 0 1147 = some (.aload_n 2, 1148, 0, 0, 0, 0) := by decide +kernel
theorem i_L_law_1148 : fetch 0 1148 = some (.aload_n 0, 1149, 0, 0, 0, 0) := by decide +kernel
theorem i_L_law_1149 : fetch 0 1149 = some (.iload_n 3, 1150, 0, 0, 0, 0) := by decide +kernel
theorem i_L_law_1150 : fetch 0 1150 = some (.iconst 1, 1151, 0, 0, 0, 0) := by decide +kernel
theorem i_L_law_1151 : fetch 0 1151 = some (.iadd, 1152, 0, 0, 0, 0) := by decide +kernel
theorem i_L_law_1152 : fetch 0 1152 = some (.iaload, 1153, 0, 0, 0, 0) := by decide +kernel
theorem i_L_law_1153 : fetch 0 1153 = some (.aload_n 0, 1154, 0, 0, 0, 0) := by decide +kernel
theorem i_L_law_1154 : fetch 0 1154 = some (.iload_n 3, 1155, 0, 0, 0, 0) := by decide +kernel
theorem i_L_law_1155 : fetch 0 1155 = some (.iconst 2, 1156, 0, 0, 0, 0) := by decide +kernel
theorem i_L_law_1156 : fetch 0 1156 = some (.iadd, 1157, 0, 0, 0, 0) := by decide +kernel
theorem i_L_law_1157 : fetch 0 1157 = some (.iaload, 1158, 0, 0, 0, 0) := by decide +kernel
theorem i_L_law_1158 : fetch 0 1158 = some (.invokevirtual 132, 1161, 199, 0, 0, 1414) := by decide +kernel
theorem i_L_law_1161 : fetch 0 1161 = some (.if_icmp .eq 612, 1164, 0, 0, 0, 0) := by decide +kernel
theorem i_L_law_1164 : fetch 0 1164 = some (.iconst 0, 1165, 0, 0, 0, 0) := by decide +kernel
theorem i_L_law_1165 : fetch 0 1165 = some (.ireturn, 1166, 0, 0, 0, 0) := by decide +kernel
theorem i_L_law_1166 : fetch 0 1166 = some (.aload_n 1, 1167, 0, 0, 0, 0) := by decide +kernel
theorem i_L_law_1167 : fetch 0 1167 = some (.aload_n 0, 1168, 0, 0, 0, 0) := by decide +kernel
theorem i_L_law_1168 : fetch 0 1168 = some (.iload_n 3, 1169, 0, 0, 0, 0) := by decide +kernel
theorem i_L_law_1169 : fetch 0 1169 = some (.iconst 1, 1170, 0, 0, 0, 0) := by decide +kernel
theorem i_L_law_1170 : fetch 0 1170 = some (.iadd, 1171, 0, 0, 0, 0) := by decide +kernel
theorem i_L_law_1171 : fetch 0 1171 = some (.iaload, 1172, 0, 0, 0, 0) := by decide +kernel
theorem i_L_law_1172 : fetch 0 1172 = some (.aload_n 0, 1173, 0, 0, 0, 0) := by decide +kernel
theorem i_L_law_1173 : fetch 0 1173 = some (.iload_n 3, 1174, 0, 0, 0, 0) := by decide +kernel
theorem i_L_law_1174 : fetch 0 1174 = some (.iconst 2, 1175, 0, 0, 0, 0) := by decide +kernel
theorem i_L_law_1175 : fetch 0 1175 = some (.iadd, 1176, 0, 0, 0, 0) := by decide +kernel
theorem i_L_law_1176 : fetch 0 1176 = some (.iaload, 1177, 0, 0, 0, 0) := by decide +kernel
theorem i_L_law_1177 : fetch 0 1177 = some (.aload_n 0, 1178, 0, 0, 0, 0) := by decide +kernel
theorem i_L_law_1178 : fetch 0 1178 = some (.iload_n 3, 1179, 0, 0, 0, 0) := by decide +kernel
theorem i_L_law_1179 : fetch 0 1179 = some (.iconst 3, 1180, 0, 0, 0, 0) := by decide +kernel
theorem i_L_law_1180 : fetch 0 1180 = some (.iadd, 1181, 0, 0, 0, 0) := by decide +kernel
theorem i_L_law_1181 : fetch 0 1181 = some (.iaload, 1182, 0, 0, 0, 0) := by decide +kernel
theorem i_L_law_1182 : fetch 0 1182 = some (.invokevirtual 133, 1185, 95, 0, 0, 867) := by decide +kernel
theorem i_L_law_1185 : fetch 0 1185 = some (.aload_n 2, 1186, 0, 0, 0, 0) := by decide +kernel
theorem i_L_law_1186 : fetch 0 1186 = some (.aload_n 0, 1187, 0, 0, 0, 0) := by decide +kernel
theorem i_L_law_1187 : fetch 0 1187 = some (.iload_n 3, 1188, 0, 0, 0, 0) := by decide +kernel
theorem i_L_law_1188 : fetch 0 1188 = some (.iconst 1, 1189, 0, 0, 0, 0) := by decide +kernel
theorem i_L_law_1189 : fetch 0 1189 = some (.iadd, 1190, 0, 0, 0, 0) := by decide +kernel
theorem i_L_law_1190 : fetch 0 1190 = some (.iaload, 1191, 0, 0, 0, 0) := by decide +kernel
theorem i_L_law_1191 : fetch 0 1191 = some (.aload_n 0, 1192, 0, 0, 0, 0) := by decide +kernel
theorem i_L_law_1192 : fetch 0 1192 = some (.iload_n 3, 1193, 0, 0, 0, 0) := by decide +kernel
theorem i_L_law_1193 : fetch 0 1193 = some (.iconst 2, 1194, 0, 0, 0, 0) := by decide +kernel
theorem i_L_law_1194 : fetch 0 1194 = some (.iadd, 1195, 0, 0, 0, 0) := by decide +kernel
theorem i_L_law_1195 : fetch 0 1195 = some (.iaload, 1196, 0, 0, 0, 0) := by decide +kernel
theorem i_L_law_1196 : fetch 0 1196 = some (.aload_n 0, 1197, 0, 0, 0, 0) := by decide +kernel
theorem i_L_law_1197 : fetch 0 1197 = some (.iload_n 3, 1198, 0, 0, 0, 0) := by decide +kernel
theorem i_L_law_1198 : fetch 0 1198 = some (.iconst 3, 1199, 0, 0, 0, 0) := by decide +kernel
theorem i_L_law_1199 : fetch 0 1199 = some (.iadd, 1200, 0, 0, 0, 0) := by decide +kernel
theorem i_L_law_1200 : fetch 0 1200 = some (.iaload, 1201, 0, 0, 0, 0) := by decide +kernel
theorem i_L_law_1201 : fetch 0 1201 = some (.invokevirtual 136, 1204, 200, 0, 0, 1427) := by decide +kernel
theorem i_L_law_1204 : fetch 0 1204 = some (.if_icmp .eq 569, 1207, 0, 0, 0, 0) := by decide +kernel
theorem i_L_law_1207 : fetch 0 1207 = some (.iconst 0, 1208, 0, 0, 0, 0) := by decide +kernel
theorem i_L_law_1208 : fetch 0 1208 = some (.ireturn, 1209, 0, 0, 0, 0) := by decide +kernel
theorem i_L_law_1209 : fetch 0 1209 = some (.aload_n 1, 1210, 0, 0, 0, 0) := by decide +kernel
theorem i_L_law_1210 : fetch 0 1210 = some (.aload_n 0, 1211, 0, 0, 0, 0) := by decide +kernel
theorem i_L_law_1211 : fetch 0 1211 = some (.iload_n 3, 1212, 0, 0, 0, 0) := by decide +kernel
theorem i_L_law_1212 : fetch 0 1212 = some (.iconst 1, 1213, 0, 0, 0, 0) := by decide +kernel
theorem i_L_law_1213 : fetch 0 1213 = some (.iadd, 1214, 0, 0, 0, 0) := by decide +kernel
theorem i_L_law_1214 : fetch 0 1214 = some (.iaload, 1215, 0, 0, 0, 0) := by decide +kernel
theorem i_L_law_1215 : fetch 0 1215 = some (.aload_n 0, 1216, 0, 0, 0, 0) := by decide +kernel
theorem i_L_law_1216 : fetch 0 1216 = some (.iload_n 3, 1217, 0, 0, 0, 0) := by decide +kernel
theorem i_L_law_1217 : fetch 0 1217 = some (.iconst 2, 1218, 0, 0, 0, 0) := by decide +kernel
theorem i_L_law_1218 : fetch 0 1218 = some (.iadd, 1219, 0, 0, 0, 0) := by decide +kernel
theorem i_L_law_1219 : fetch 0 1219 = some (.iaload, 1220, 0, 0, 0, 0) := by decide +kernel
theorem i_L_law_1220 : fetch 0 1220 = some (.aload_n 0, 1221, 0, 0, 0, 0) := by decide +kernel
theorem i_L_law_1221 : fetch 0 1221 = some (.iload_n 3, 1222, 0, 0, 0, 0) := by decide +kernel
theorem i_L_law_1222 : fetch 0 1222 = some (.iconst 3, 1223, 0, 0, 0, 0) := by decide +kernel
theorem i_L_law_1223 : fetch 0 1223 = some (.iadd, 1224, 0, 0, 0, 0) := by decide +kernel
theorem i_L_law_1224 : fetch 0 1224 = some (.iaload, 1225, 0, 0, 0, 0) := by decide +kernel
theorem i_L_law_1225 : fetch 0 1225 = some (.invokevirtual 137, 1228, 96, 0, 0, 871) := by decide +kernel
theorem i_L_law_1228 : fetch 0 1228 = some (.aload_n 2, 1229, 0, 0, 0, 0) := by decide +kernel
theorem i_L_law_1229 : fetch 0 1229 = some (.aload_n 0, 1230, 0, 0, 0, 0) := by decide +kernel
theorem i_L_law_1230 : fetch 0 1230 = some (.iload_n 3, 1231, 0, 0, 0, 0) := by decide +kernel
theorem i_L_law_1231 : fetch 0 1231 = some (.iconst 1, 1232, 0, 0, 0, 0) := by decide +kernel
theorem i_L_law_1232 : fetch 0 1232 = some (.iadd, 1233, 0, 0, 0, 0) := by decide +kernel
theorem i_L_law_1233 : fetch 0 1233 = some (.iaload, 1234, 0, 0, 0, 0) := by decide +kernel
theorem i_L_law_1234 : fetch 0 1234 = some (.aload_n 0, 1235, 0, 0, 0, 0) := by decide +kernel
theorem i_L_law_1235 : fetch 0 1235 = some (.iload_n 3, 1236, 0, 0, 0, 0) := by decide +kernel
theorem i_L_law_1236 : fetch 0 1236 = some (.iconst 2, 1237, 0, 0, 0, 0) := by decide +kernel
theorem i_L_law_1237 : fetch 0 1237 = some (.iadd, 1238, 0, 0, 0, 0) := by decide +kernel
theorem i_L_law_1238 : fetch 0 1238 = some (.iaload, 1239, 0, 0, 0, 0) := by decide +kernel
theorem i_L_law_1239 : fetch 0 1239 = some (.aload_n 0, 1240, 0, 0, 0, 0) := by decide +kernel
theorem i_L_law_1240 : fetch 0 1240 = some (.iload_n 3, 1241, 0, 0, 0, 0) := by decide +kernel
theorem i_L_law_1241 : fetch 0 1241 = some (.iconst 3, 1242, 0, 0, 0, 0) := by decide +kernel
theorem i_L_law_1242 : fetch 0 1242 = some (.iadd, 1243, 0, 0, 0, 0) := by decide +kernel
theorem i_L_law_1243 : fetch 0 1243 = some (.iaload, 1244, 0, 0, 0, 0) := by decide +kernel
theorem i_L_law_1244 : fetch 0 1244 = some (.invokevirtual 140, 1247, 201, 0, 0, 1431) := by decide +kernel
theorem i_L_law_1247 : fetch 0 1247 = some (.if_icmp .eq 526, 1250, 0, 0, 0, 0) := by decide +kernel
theorem i_L_law_1250 : fetch 0 1250 = some (.iconst 0, 1251, 0, 0, 0, 0) := by decide +kernel
theorem i_L_law_1251 : fetch 0 1251 = some (.ireturn, 1252, 0, 0, 0, 0) := by decide +kernel
theorem i_L_law_1252 : fetch 0 1252 = some (.aload_n 1, 1253, 0, 0, 0, 0) := by decide +kernel
theorem i_L_law_1253 : fetch 0 1253 = some (.aload_n 0, 1254, 0, 0, 0, 0) := by decide +kernel
theorem i_L_law_1254 : fetch 0 1254 = some (.iload_n 3, 1255, 0, 0, 0, 0) := by decide +kernel
theorem i_L_law_1255 : fetch 0 1255 = some (.iconst 1, 1256, 0, 0, 0, 0) := by decide +kernel
theorem i_L_law_1256 : fetch 0 1256 = some (.iadd, 1257, 0, 0, 0, 0) := by decide +kernel
theorem i_L_law_1257 : fetch 0 1257 = some (.iaload, 1258, 0, 0, 0, 0) := by decide +kernel
theorem i_L_law_1258 : fetch 0 1258 = some (.invokevirtual 141, 1261, 97, 0, 0, 875) := by decide +kernel
theorem i_L_law_1261 : fetch 0 1261 = some (.aload_n 2, 1262, 0, 0, 0, 0) := by decide +kernel
theorem i_L_law_1262 : fetch 0 1262 = some (.aload_n 0, 1263, 0, 0, 0, 0) := by decide +kernel
theorem i_L_law_1263 : fetch 0 1263 = some (.iload_n 3, 1264, 0, 0, 0, 0) := by decide +kernel
theorem i_L_law_1264 : fetch 0 1264 = some (.iconst 1, 1265, 0, 0, 0, 0) := by decide +kernel
theorem i_L_law_1265 : fetch 0 1265 = some (.iadd, 1266, 0, 0, 0, 0) := by decide +kernel
theorem i_L_law_1266 : fetch 0 1266 = some (.iaload, 1267, 0, 0, 0, 0) := by decide +kernel
theorem i_L_law_1267 : fetch 0 1267 = some (.invokevirtual 144, 1270, 202, 0, 0, 1435) := by decide +kernel
theorem i_L_law_1270 : fetch 0 1270 = some (.if_icmp .eq 503, 1273, 0, 0, 0, 0) := by decide +kernel
theorem i_L_law_1273 : fetch 0 1273 = some (.iconst 0, 1274, 0, 0, 0, 0) := by decide +kernel
theorem i_L_law_1274 : fetch 0 1274 = some (.ireturn, 1275, 0, 0, 0, 0) := by decide +kernel
theorem i_L_law_1275 : fetch 0 1275 = some (.aload_n 1, 1276, 0, 0, 0, 0) := by decide +kernel
theorem i_L_law_1276 : fetch 0 1276 = some (.aload_n 0, 1277, 0, 0, 0, 0) := by decide +kernel
theorem i_L_law_1277 : fetch 0 1277 = some (.iload_n 3, 1278, 0, 0, 0, 0) := by decide +kernel
theorem i_L_law_1278 : fetch 0 1278 = some (.iconst 1, 1279, 0, 0, 0, 0) := by decide +kernel
theorem i_L_law_1279 : fetch 0 1279 = some (.iadd, 1280, 0, 0, 0, 0) := by decide +kernel
theorem i_L_law_1280 : fetch 0 1280 = some (.iaload, 1281, 0, 0, 0, 0) := by decide +kernel
theorem i_L_law_1281 : fetch 0 1281 = some (.aload_n 0, 1282, 0, 0, 0, 0) := by decide +kernel
theorem i_L_law_1282 : fetch 0 1282 = some (.iload_n 3, 1283, 0, 0, 0, 0) := by decide +kernel
theorem i_L_law_1283 : fetch 0 1283 = some (.iconst 2, 1284, 0, 0, 0, 0) := by decide +kernel
theorem i_L_law_1284 : fetch 0 1284 = some (.iadd, 1285, 0, 0, 0, 0) := by decide +kernel
theorem i_L_law_1285 : fetch 0 1285 = some (.iaload, 1286, 0, 0, 0, 0) := by decide +kernel
theorem i_L_law_1286 : fetch 0 1286 = some (.aload_n 0, 1287, 0, 0, 0, 0) := by decide +kernel
theorem i_L_law_1287 : fetch 0 1287 = some (.iload_n 3, 1288, 0, 0, 0, 0) := by decide +kernel
theorem i_L_law_1288 : fetch 0 1288 = some (.iconst 3, 1289, 0, 0, 0, 0) := by decide +kernel
theorem i_L_law_1289 : fetch 0 1289 = some (.iadd, 1290, 0, 0, 0, 0) := by decide +kernel
theorem i_L_law_1290 : fetch 0 1290 = some (.iaload, 1291, 0, 0, 0, 0) := by decide +kernel
theorem i_L_law_1291 : fetch 0 1291 = some (.invokevirtual 145, 1294, 98, 0, 0, 879) := by decide +kernel
theorem i_L_law_1294 : fetch 0 1294 = some (.aload_n 2, 1295, 0, 0, 0, 0) := by decide +kernel
theorem i_L_law_1295 : fetch 0 1295 = some (.aload_n 0, 1296, 0, 0, 0, 0) := by decide +kernel
theorem i_L_law_1296 : fetch 0 1296 = some (.iload_n 3, 1297, 0, 0, 0, 0) := by decide +kernel
theorem i_L_law_1297 : fetch 0 1297 = some (.iconst 1, 1298, 0, 0, 0, 0) := by decide +kernel
theorem i_L_law_1298 : fetch 0 1298 = some (.iadd, 1299, 0, 0, 0, 0) := by decide +kernel
theorem i_L_law_1299 : fetch 0 1299 = some (.iaload, 1300, 0, 0, 0, 0) := by decide +kernel
theorem i_L_law_1300 : fetch 0 1300 = some (.aload_n 0, 1301, 0, 0, 0, 0) := by decide +kernel
theorem i_L_law_1301 : fetch 0 1301 = some (.iload_n 3, 1302, 0, 0, 0, 0) := by decide +kernel
theorem i_L_law_1302 : fetch 0 1302 = some (.iconst 2, 1303, 0, 0, 0, 0) := by decide +kernel
theorem i_L_law_1303 : fetch 0 1303 = some (.iadd, 1304, 0, 0, 0, 0) := by decide +kernel
theorem i_L_law_1304 : fetch 0 1304 = some (.iaload, 1305, 0, 0, 0, 0) := by decide +kernel
theorem i_L_law_1305 : fetch 0 1305 = some (.aload_n 0, 1306, 0, 0, 0, 0) := by decide +kernel
theorem i_L_law_1306 : fetch 0 1306 = some (.iload_n 3, 1307, 0, 0, 0, 0) := by decide +kernel
theorem i_L_law_1307 : fetch 0 1307 = some (.iconst 3, 1308, 0, 0, 0, 0) := by decide +kernel
theorem i_L_law_1308 : fetch 0 1308 = some (.iadd, 1309, 0, 0, 0, 0) := by decide +kernel
theorem i_L_law_1309 : fetch 0 1309 = some (.iaload, 1310, 0, 0, 0, 0) := by decide +kernel
theorem i_L_law_1310 : fetch 0 1310 = some (.invokevirtual 148, 1313, 203, 0, 0, 1439) := by decide +kernel
theorem i_L_law_1313 : fetch 0 1313 = some (.if_icmp .eq 460, 1316, 0, 0, 0, 0) := by decide +kernel
theorem i_L_law_1316 : fetch 0 1316 = some (.iconst 0, 1317, 0, 0, 0, 0) := by decide +kernel
theorem i_L_law_1317 : fetch 0 1317 = some (.ireturn, 1318, 0, 0, 0, 0) := by decide +kernel
theorem i_L_law_1318 : fetch 0 1318 = some (.aload_n 1, 1319, 0, 0, 0, 0) := by decide +kernel
theorem i_L_law_1319 : fetch 0 1319 = some (.aload_n 0, 1320, 0, 0, 0, 0) := by decide +kernel
theorem i_L_law_1320 : fetch 0 1320 = some (.iload_n 3, 1321, 0, 0, 0, 0) := by decide +kernel
theorem i_L_law_1321 : fetch 0 1321 = some (.iconst 1, 1322, 0, 0, 0, 0) := by decide +kernel
theorem i_L_law_1322 : fetch 0 1322 = some (.iadd, 1323, 0, 0, 0, 0) := by decide +kernel
theorem i_L_law_1323 : fetch 0 1323 = some (.iaload, 1324, 0, 0, 0, 0) := by decide +kernel
theorem i_L_law_1324 : fetch 0 1324 = some (.aload_n 0, 1325, 0, 0, 0, 0) := by decide +kernel
theorem i_L_law_1325 : fetch 0 1325 = some (.iload_n 3, 1326, 0, 0, 0, 0) := by decide +kernel
theorem i_L_law_1326 : fetch 0 1326 = some (.iconst 2, 1327, 0, 0, 0, 0) := by decide +kernel
theorem i_L_law_1327 : fetch 0 1327 = some (.iadd, 1328, 0, 0, 0, 0) := by decide +kernel
theorem i_L_law_1328 : fetch 0 1328 = some (.iaload, 1329, 0, 0, 0, 0) := by decide +kernel
theorem i_L_law_1329 : fetch 0 1329 = some (.aload_n 0, 1330, 0, 0, 0, 0) := by decide +kernel
theorem i_L_law_1330 : fetch 0 1330 = some (.iload_n 3, 1331, 0, 0, 0, 0) := by decide +kernel
theorem i_L_law_1331 : fetch 0 1331 = some (.iconst 3, 1332, 0, 0, 0, 0) := by decide +kernel
theorem i_L_law_1332 : fetch 0 1332 = some (.iadd, 1333, 0, 0, 0, 0) := by decide +kernel
theorem i_L_law_1333 : fetch 0 1333 = some (.iaload, 1334, 0, 0, 0, 0) := by decide +kernel
theorem i_L_law_1334 : fetch 0 1334 = some (.invokevirtual 149, 1337, 99, 0, 0, 891) := by decide +kernel
theorem i_L_law_1337 : fetch 0 1337 = some (.aload_n 2, 1338, 0, 0, 0, 0) := by decide +kernel
theorem i_L_law_1338 : fetch 0 1338 = some (.aload_n 0, 1339, 0, 0, 0, 0) := by decide +kernel
theorem i_L_law_1339 : fetch 0 1339 = some (.iload_n 3, 1340, 0, 0, 0, 0) := by decide +kernel
theorem i_L_law_1340 : fetch 0 1340 = some (.iconst 1, 1341, 0, 0, 0, 0) := by decide +kernel
theorem i_L_law_1341 : fetch 0 1341 = some (.iadd, 1342, 0, 0, 0, 0) := by decide +kernel
theorem i_L_law_1342 : fetch 0 1342 = some (.iaload, 1343, 0, 0, 0, 0) := by decide +kernel
theorem i_L_law_1343 : fetch 0 1343 = some (.aload_n 0, 1344, 0, 0, 0, 0) := by decide +kernel
theorem i_L_law_1344 : fetch 0 1344 = some (.iload_n 3, 1345, 0, 0, 0, 0) := by decide +kernel
theorem i_L_law_1345 : fetch 0 1345 = some (.iconst 2, 1346, 0, 0, 0, 0) := by decide +kernel
theorem i_L_law_1346 : fetch 0 1346 = some (.iadd, 1347, 0, 0, 0, 0) := by decide +kernel
theorem i_L_law_1347 : fetch 0 1347 = some (.iaload, 1348, 0, 0, 0, 0) := by decide +kernel
theorem i_L_law_1348 : fetch 0 1348 = some (.aload_n 0, 1349, 0, 0, 0, 0) := by decide +kernel
theorem i_L_law_1349 : fetch 0 1349 = some (.iload_n 3, 1350, 0, 0, 0, 0) := by decide +kernel
theorem i_L_law_1350 : fetch 0 1350 = some (.iconst 3, 1351, 0, 0, 0, 0) := by decide +kernel
theorem i_L_law_1351 : fetch 0 1351 = some (.iadd, 1352, 0, 0, 0, 0) := by decide +kernel
theorem i_L_law_1352 : fetch 0 1352 = some (.iaload, 1353, 0, 0, 0, 0) := by decide +kernel
theorem i_L_law_1353 : fetch 0 1353 = some (.invokevirtual 153, 1356, 206, 0, 0, 1444) := by decide +kernel
theorem i_L_law_1356 : fetch 0 1356 = some (.lcmp, 1357, 0, 0, 0, 0) := by decide +kernel
theorem i_L_law_1357 : fetch 0 1357 = some (.ifCond .eq 416, 1360, 0, 0, 0, 0) := by decide +kernel
theorem i_L_law_1360 : fetch 0 1360 = some (.iconst 0, 1361, 0, 0, 0, 0) := by decide +kernel
theorem i_L_law_1361 : fetch 0 1361 = some (.ireturn, 1362, 0, 0, 0, 0) := by decide +kernel
theorem i_L_law_1362 : fetch 0 1362 = some (.aload_n 1, 1363, 0, 0, 0, 0) := by decide +kernel
theorem i_L_law_1363 : fetch 0 1363 = some (.aload_n 0, 1364, 0, 0, 0, 0) := by decide +kernel
theorem i_L_law_1364 : fetch 0 1364 = some (.iload_n 3, 1365, 0, 0, 0, 0) := by decide +kernel
theorem i_L_law_1365 : fetch 0 1365 = some (.iconst 1, 1366, 0, 0, 0, 0) := by decide +kernel
theorem i_L_law_1366 : fetch 0 1366 = some (.iadd, 1367, 0, 0, 0, 0) := by decide +kernel
theorem i_L_law_1367 : fetch 0 1367 = some (.iaload, 1368, 0, 0, 0, 0) := by decide +kernel
theorem i_L_law_1368 : fetch 0 1368 = some (.aload_n 0, 1369, 0, 0, 0, 0) := by decide +kernel
theorem i_L_law_1369 : fetch 0 1369 = some (.iload_n 3, 1370, 0, 0, 0, 0) := by decide +kernel
theorem i_L_law_1370 : fetch 0 1370 = some (.iconst 2, 1371, 0, 0, 0, 0) := by decide +kernel
theorem i_L_law_1371 : fetch 0 1371 = some (.iadd, 1372, 0, 0, 0, 0) := by decide +kernel
theorem i_L_law_1372 : fetch 0 1372 = some (.iaload, 1373, 0, 0, 0, 0) := by decide +kernel
theorem i_L_law_1373 : fetch 0 1373 = some (.aload_n 0, 1374, 0, 0, 0, 0) := by decide +kernel
theorem i_L_law_1374 : fetch 0 1374 = some (.iload_n 3, 1375, 0, 0, 0, 0) := by decide +kernel
theorem i_L_law_1375 : fetch 0 1375 = some (.iconst 3, 1376, 0, 0, 0, 0) := by decide +kernel
theorem i_L_law_1376 : fetch 0 1376 = some (.iadd, 1377, 0, 0, 0, 0) := by decide +kernel
theorem i_L_law_1377 : fetch 0 1377 = some (.iaload, 1378, 0, 0, 0, 0) := by decide +kernel
theorem i_L_law_1378 : fetch 0 1378 = some (.aload_n 0, 1379, 0, 0, 0, 0) := by decide +kernel
theorem i_L_law_1379 : fetch 0 1379 = some (.iload_n 3, 1380, 0, 0, 0, 0) := by decide +kernel
theorem i_L_law_1380 : fetch 0 1380 = some (.iconst 4, 1381, 0, 0, 0, 0) := by decide +kernel
theorem i_L_law_1381 : fetch 0 1381 = some (.iadd, 1382, 0, 0, 0, 0) := by decide +kernel
theorem i_L_law_1382 : fetch 0 1382 = some (.iaload, 1383, 0, 0, 0, 0) := by decide +kernel
theorem i_L_law_1383 : fetch 0 1383 = some (.invokevirtual 154, 1386, 100, 0, 0, 900) := by decide +kernel
theorem i_L_law_1386 : fetch 0 1386 = some (.aload_n 2, 1387, 0, 0, 0, 0) := by decide +kernel
theorem i_L_law_1387 : fetch 0 1387 = some (.aload_n 0, 1388, 0, 0, 0, 0) := by decide +kernel
theorem i_L_law_1388 : fetch 0 1388 = some (.iload_n 3, 1389, 0, 0, 0, 0) := by decide +kernel
theorem i_L_law_1389 : fetch 0 1389 = some (.iconst 1, 1390, 0, 0, 0, 0) := by decide +kernel
theorem i_L_law_1390 : fetch 0 1390 = some (.iadd, 1391, 0, 0, 0, 0) := by decide +kernel
theorem i_L_law_1391 : fetch 0 1391 = some (.iaload, 1392, 0, 0, 0, 0) := by decide +kernel
theorem i_L_law_1392 : fetch 0 1392 = some (.aload_n 0, 1393, 0, 0, 0, 0) := by decide +kernel
theorem i_L_law_1393 : fetch 0 1393 = some (.iload_n 3, 1394, 0, 0, 0, 0) := by decide +kernel
theorem i_L_law_1394 : fetch 0 1394 = some (.iconst 2, 1395, 0, 0, 0, 0) := by decide +kernel
theorem i_L_law_1395 : fetch 0 1395 = some (.iadd, 1396, 0, 0, 0, 0) := by decide +kernel
theorem i_L_law_1396 : fetch 0 1396 = some (.iaload, 1397, 0, 0, 0, 0) := by decide +kernel
theorem i_L_law_1397 : fetch 0 1397 = some (.aload_n 0, 1398, 0, 0, 0, 0) := by decide +kernel
theorem i_L_law_1398 : fetch 0 1398 = some (.iload_n 3, 1399, 0, 0, 0, 0) := by decide +kernel
theorem i_L_law_1399 : fetch 0 1399 = some (.iconst 3, 1400, 0, 0, 0, 0) := by decide +kernel
theorem i_L_law_1400 : fetch 0 1400 = some (.iadd, 1401, 0, 0, 0, 0) := by decide +kernel
theorem i_L_law_1401 : fetch 0 1401 = some (.iaload, 1402, 0, 0, 0, 0) := by decide +kernel
theorem i_L_law_1402 : fetch 0 1402 = some (.aload_n 0, 1403, 0, 0, 0, 0) := by decide +kernel
theorem i_L_law_1403 : fetch 0 1403 = some (.iload_n 3, 1404, 0, 0, 0, 0) := by decide +kernel
theorem i_L_law_1404 : fetch 0 1404 = some (.iconst 4, 1405, 0, 0, 0, 0) := by decide +kernel
theorem i_L_law_1405 : fetch 0 1405 = some (.iadd, 1406, 0, 0, 0, 0) := by decide +kernel
theorem i_L_law_1406 : fetch 0 1406 = some (.iaload, 1407, 0, 0, 0, 0) := by decide +kernel
theorem i_L_law_1407 : fetch 0 1407 = some (.invokevirtual 158, 1410, 208, 0, 0, 1455) := by decide +kernel
theorem i_L_law_1410 : fetch 0 1410 = some (.lcmp, 1411, 0, 0, 0, 0) := by decide +kernel
theorem i_L_law_1411 : fetch 0 1411 = some (.ifCond .eq 362, 1414, 0, 0, 0, 0) := by decide +kernel
theorem i_L_law_1414 : fetch 0 1414 = some (.iconst 0, 1415, 0, 0, 0, 0) := by decide +kernel
theorem i_L_law_1415 : fetch 0 1415 = some (.ireturn, 1416, 0, 0, 0, 0) := by decide +kernel
theorem i_L_law_1416 : fetch 0 1416 = some (.aload_n 1, 1417, 0, 0, 0, 0) := by decide +kernel
theorem i_L_law_1417 : fetch 0 1417 = some (.aload_n 0, 1418, 0, 0, 0, 0) := by decide +kernel
theorem i_L_law_1418 : fetch 0 1418 = some (.iload_n 3, 1419, 0, 0, 0, 0) := by decide +kernel
theorem i_L_law_1419 : fetch 0 1419 = some (.iconst 1, 1420, 0, 0, 0, 0) := by decide +kernel
theorem i_L_law_1420 : fetch 0 1420 = some (.iadd, 1421, 0, 0, 0, 0) := by decide +kernel
theorem i_L_law_1421 : fetch 0 1421 = some (.iaload, 1422, 0, 0, 0, 0) := by decide +kernel
theorem i_L_law_1422 : fetch 0 1422 = some (.aload_n 0, 1423, 0, 0, 0, 0) := by decide +kernel
theorem i_L_law_1423 : fetch 0 1423 = some (.iload_n 3, 1424, 0, 0, 0, 0) := by decide +kernel
theorem i_L_law_1424 : fetch 0 1424 = some (.iconst 2, 1425, 0, 0, 0, 0) := by decide +kernel
theorem i_L_law_1425 : fetch 0 1425 = some (.iadd, 1426, 0, 0, 0, 0) := by decide +kernel
theorem i_L_law_1426 : fetch 0 1426 = some (.iaload, 1427, 0, 0, 0, 0) := by decide +kernel
theorem i_L_law_1427 : fetch 0 1427 = some (.aload_n 0, 1428, 0, 0, 0, 0) := by decide +kernel
theorem i_L_law_1428 : fetch 0 1428 = some (.iload_n 3, 1429, 0, 0, 0, 0) := by decide +kernel
theorem i_L_law_1429 : fetch 0 1429 = some (.iconst 3, 1430, 0, 0, 0, 0) := by decide +kernel
theorem i_L_law_1430 : fetch 0 1430 = some (.iadd, 1431, 0, 0, 0, 0) := by decide +kernel
theorem i_L_law_1431 : fetch 0 1431 = some (.iaload, 1432, 0, 0, 0, 0) := by decide +kernel
theorem i_L_law_1432 : fetch 0 1432 = some (.invokevirtual 159, 1435, 101, 0, 0, 910) := by decide +kernel
theorem i_L_law_1435 : fetch 0 1435 = some (.aload_n 2, 1436, 0, 0, 0, 0) := by decide +kernel
theorem i_L_law_1436 : fetch 0 1436 = some (.aload_n 0, 1437, 0, 0, 0, 0) := by decide +kernel
theorem i_L_law_1437 : fetch 0 1437 = some (.iload_n 3, 1438, 0, 0, 0, 0) := by decide +kernel
theorem i_L_law_1438 : fetch 0 1438 = some (.iconst 1, 1439, 0, 0, 0, 0) := by decide +kernel
theorem i_L_law_1439 : fetch 0 1439 = some (.iadd, 1440, 0, 0, 0, 0) := by decide +kernel
theorem i_L_law_1440 : fetch 0 1440 = some (.iaload, 1441, 0, 0, 0, 0) := by decide +kernel
theorem i_L_law_1441 : fetch 0 1441 = some (.aload_n 0, 1442, 0, 0, 0, 0) := by decide +kernel
theorem i_L_law_1442 : fetch 0 1442 = some (.iload_n 3, 1443, 0, 0, 0, 0) := by decide +kernel
theorem i_L_law_1443 : fetch 0 1443 = some (.iconst 2, 1444, 0, 0, 0, 0) := by decide +kernel
theorem i_L_law_1444 : fetch 0 1444 = some (.iadd, 1445, 0, 0, 0, 0) := by decide +kernel
theorem i_L_law_1445 : fetch 0 1445 = some (.iaload, 1446, 0, 0, 0, 0) := by decide +kernel
theorem i_L_law_1446 : fetch 0 1446 = some (.aload_n 0, 1447, 0, 0, 0, 0) := by decide +kernel
theorem i_L_law_1447 : fetch 0 1447 = some (.iload_n 3, 1448, 0, 0, 0, 0) := by decide +kernel
theorem i_L_law_1448 : fetch 0 1448 = some (.iconst 3, 1449, 0, 0, 0, 0) := by decide +kernel
theorem i_L_law_1449 : fetch 0 1449 = some (.iadd, 1450, 0, 0, 0, 0) := by decide +kernel
theorem i_L_law_1450 : fetch 0 1450 = some (.iaload, 1451, 0, 0, 0, 0) := by decide +kernel
theorem i_L_law_1451 : fetch 0 1451 = some (.invokevirtual 162, 1454, 209, 0, 0, 1462) := by decide +kernel
theorem i_L_law_1454 : fetch 0 1454 = some (.if_icmp .eq 319, 1457, 0, 0, 0, 0) := by decide +kernel
theorem i_L_law_1457 : fetch 0 1457 = some (.iconst 0, 1458, 0, 0, 0, 0) := by decide +kernel
theorem i_L_law_1458 : fetch 0 1458 = some (.ireturn, 1459, 0, 0, 0, 0) := by decide +kernel
theorem i_L_law_1459 : fetch 0 1459 = some (.aload_n 1, 1460, 0, 0, 0, 0) := by decide +kernel
theorem i_L_law_1460 : fetch 0 1460 = some (.aload_n 0, 1461, 0, 0, 0, 0) := by decide +kernel
theorem i_L_law_1461 : fetch 0 1461 = some (.iload_n 3, 1462, 0, 0, 0, 0) := by decide +kernel
theorem i_L_law_1462 : fetch 0 1462 = some (.iconst 1, 1463, 0, 0, 0, 0) := by decide +kernel
theorem i_L_law_1463 : fetch 0 1463 = some (.iadd, 1464, 0, 0, 0, 0) := by decide +kernel
theorem i_L_law_1464 : fetch 0 1464 = some (.iaload, 1465, 0, 0, 0, 0) := by decide +kernel
theorem i_L_law_1465 : fetch 0 1465 = some (.aload_n 0, 1466, 0, 0, 0, 0) := by decide +kernel
theorem i_L_law_1466 : fetch 0 1466 = some (.iload_n 3, 1467, 0, 0, 0, 0) := by decide +kernel
theorem i_L_law_1467 : fetch 0 1467 = some (.iconst 2, 1468, 0, 0, 0, 0) := by decide +kernel
theorem i_L_law_1468 : fetch 0 1468 = some (.iadd, 1469, 0, 0, 0, 0) := by decide +kernel
theorem i_L_law_1469 : fetch 0 1469 = some (.iaload, 1470, 0, 0, 0, 0) := by decide +kernel
theorem i_L_law_1470 : fetch 0 1470 = some (.aload_n 0, 1471, 0, 0, 0, 0) := by decide +kernel
theorem i_L_law_1471 : fetch 0 1471 = some (.iload_n 3, 1472, 0, 0, 0, 0) := by decide +kernel
theorem i_L_law_1472 : fetch 0 1472 = some (.iconst 3, 1473, 0, 0, 0, 0) := by decide +kernel
theorem i_L_law_1473 : fetch 0 1473 = some (.iadd, 1474, 0, 0, 0, 0) := by decide +kernel
theorem i_L_law_1474 : fetch 0 1474 = some (.iaload, 1475, 0, 0, 0, 0) := by decide +kernel
theorem i_L_law_1475 : fetch 0 1475 = some (.aload_n 0, 1476, 0, 0, 0, 0) := by decide +kernel
theorem i_L_law_1476 : fetch 0 1476 = some (.iload_n 3, 1477, 0, 0, 0, 0) := by decide +kernel
theorem i_L_law_1477 : fetch 0 1477 = some (.iconst 4, 1478, 0, 0, 0, 0) := by decide +kernel
theorem i_L_law_1478 : fetch 0 1478 = some (.iadd, 1479, 0, 0, 0, 0) := by decide +kernel
theorem i_L_law_1479 : fetch 0 1479 = some (.iaload, 1480, 0, 0, 0, 0) := by decide +kernel
theorem i_L_law_1480 : fetch 0 1480 = some (.invokevirtual 163, 1483, 102, 0, 0, 914) := by decide +kernel
theorem i_L_law_1483 : fetch 0 1483 = some (.aload_n 2, 1484, 0, 0, 0, 0) := by decide +kernel
theorem i_L_law_1484 : fetch 0 1484 = some (.aload_n 0, 1485, 0, 0, 0, 0) := by decide +kernel
theorem i_L_law_1485 : fetch 0 1485 = some (.iload_n 3, 1486, 0, 0, 0, 0) := by decide +kernel
theorem i_L_law_1486 : fetch 0 1486 = some (.iconst 1, 1487, 0, 0, 0, 0) := by decide +kernel
theorem i_L_law_1487 : fetch 0 1487 = some (.iadd, 1488, 0, 0, 0, 0) := by decide +kernel
theorem i_L_law_1488 : fetch 0 1488 = some (.iaload, 1489, 0, 0, 0, 0) := by decide +kernel
theorem i_L_law_1489 : fetch 0 1489 = some (.aload_n 0, 1490, 0, 0, 0, 0) := by decide +kernel
theorem i_L_law_1490 : fetch 0 1490 = some (.iload_n 3, 1491, 0, 0, 0, 0) := by decide +kernel
theorem i_L_law_1491 : fetch 0 1491 = some (.iconst 2, 1492, 0, 0, 0, 0) := by decide +kernel
theorem i_L_law_1492 : fetch 0 1492 = some (.iadd, 1493, 0, 0, 0, 0) := by decide +kernel
theorem i_L_law_1493 : fetch 0 1493 = some (.iaload, 1494, 0, 0, 0, 0) := by decide +kernel
theorem i_L_law_1494 : fetch 0 1494 = some (.aload_n 0, 1495, 0, 0, 0, 0) := by decide +kernel
theorem i_L_law_1495 : fetch 0 1495 = some (.iload_n 3, 1496, 0, 0, 0, 0) := by decide +kernel
theorem i_L_law_1496 : fetch 0 1496 = some (.iconst 3, 1497, 0, 0, 0, 0) := by decide +kernel
theorem i_L_law_1497 : fetch 0 1497 = some (.iadd, 1498, 0, 0, 0, 0) := by decide +kernel
theorem i_L_law_1498 : fetch 0 1498 = some (.iaload, 1499, 0, 0, 0, 0) := by decide +kernel
theorem i_L_law_1499 : fetch 0 1499 = some (.aload_n 0, 1500, 0, 0, 0, 0) := by decide +kernel
theorem i_L_law_1500 : fetch 0 1500 = some (.iload_n 3, 1501, 0, 0, 0, 0) := by decide +kernel
theorem i_L_law_1501 : fetch 0 1501 = some (.iconst 4, 1502, 0, 0, 0, 0) := by decide +kernel
theorem i_L_law_1502 : fetch 0 1502 = some (.iadd, 1503, 0, 0, 0, 0) := by decide +kernel
theorem i_L_law_1503 : fetch 0 1503 = some (.iaload, 1504, 0, 0, 0, 0) := by decide +kernel
theorem i_L_law_1504 : fetch 0 1504 = some (.invokevirtual 167, 1507, 210, 0, 0, 1466) := by decide +kernel
theorem i_L_law_1507 : fetch 0 1507 = some (.if_icmp .eq 266, 1510, 0, 0, 0, 0) := by decide +kernel
theorem i_L_law_1510 : fetch 0 1510 = some (.iconst 0, 1511, 0, 0, 0, 0) := by decide +kernel
theorem i_L_law_1511 : fetch 0 1511 = some (.ireturn, 1512, 0, 0, 0, 0) := by decide +kernel
theorem i_L_law_1512 : fetch 0 1512 = some (.aload_n 1, 1513, 0, 0, 0, 0) := by decide +kernel
theorem i_L_law_1513 : fetch 0 1513 = some (.invokevirtual 168, 1516, 103, 0, 0, 918) := by decide +kernel
theorem i_L_law_1516 : fetch 0 1516 = some (.aload_n 2, 1517, 0, 0, 0, 0) := by decide +kernel
theorem i_L_law_1517 : fetch 0 1517 = some (.invokevirtual 171, 1520, 211, 0, 0, 1470) := by decide +kernel
theorem i_L_law_1520 : fetch 0 1520 = some (.if_icmp .eq 253, 1523, 0, 0, 0, 0) := by decide +kernel
theorem i_L_law_1523 : fetch 0 1523 = some (.iconst 0, 1524, 0, 0, 0, 0) := by decide +kernel
theorem i_L_law_1524 : fetch 0 1524 = some (.ireturn, 1525, 0, 0, 0, 0) := by decide +kernel
theorem i_L_law_1525 : fetch 0 1525 = some (.aload_n 1, 1526, 0, 0, 0, 0) := by decide +kernel
theorem i_L_law_1526 : fetch 0 1526 = some (.invokevirtual 172, 1529, 104, 0, 0, 922) := by decide +kernel
theorem i_L_law_1529 : fetch 0 1529 = some (.aload_n 2, 1530, 0, 0, 0, 0) := by decide +kernel
theorem i_L_law_1530 : fetch 0 1530 = some (.invokevirtual 175, 1533, 212, 0, 0, 1474) := by decide +kernel
theorem i_L_law_1533 : fetch 0 1533 = some (.if_icmp .eq 240, 1536, 0, 0, 0, 0) := by decide +kernel
theorem i_L_law_1536 : fetch 0 1536 = some (.iconst 0, 1537, 0, 0, 0, 0) := by decide +kernel
theorem i_L_law_1537 : fetch 0 1537 = some (.ireturn, 1538, 0, 0, 0, 0) := by decide +kernel
theorem i_L_law_1538 : fetch 0 1538 = some (.aload_n 1, 1539, 0, 0, 0, 0) := by decide +kernel
theorem i_L_law_1539 : fetch 0 1539 = some (.aload_n 0, 1540, 0, 0, 0, 0) := by decide +kernel
theorem i_L_law_1540 : fetch 0 1540 = some (.iload_n 3, 1541, 0, 0, 0, 0) := by decide +kernel
theorem i_L_law_1541 : fetch 0 1541 = some (.iconst 1, 1542, 0, 0, 0, 0) := by decide +kernel
theorem i_L_law_1542 : fetch 0 1542 = some (.iadd, 1543, 0, 0, 0, 0) := by decide +kernel
theorem i_L_law_1543 : fetch 0 1543 = some (.iaload, 1544, 0, 0, 0, 0) := by decide +kernel
theorem i_L_law_1544 : fetch 0 1544 = some (.aload_n 0, 1545, 0, 0, 0, 0) := by decide +kernel
theorem i_L_law_1545 : fetch 0 1545 = some (.iload_n 3, 1546, 0, 0, 0, 0) := by decide +kernel
theorem i_L_law_1546 : fetch 0 1546 = some (.iconst 2, 1547, 0, 0, 0, 0) := by decide +kernel
theorem i_L_law_1547 : fetch 0 1547 = some (.iadd, 1548, 0, 0, 0, 0) := by decide +kernel
theorem i_L_law_1548 : fetch 0 1548 = some (.iaload, 1549, 0, 0, 0, 0) := by decide +kernel
theorem i_L_law_1549 : fetch 0 1549 = some (.aload_n 0, 1550, 0, 0, 0, 0) := by decide +kernel
theorem i_L_law_1550 : fetch 0 1550 = some (.iload_n 3, 1551, 0, 0, 0, 0) := by decide +kernel
theorem i_L_law_1551 : fetch 0 1551 = some (.iconst 3, 1552, 0, 0, 0, 0) := by decide +kernel
theorem i_L_law_1552 : fetch 0 1552 = some (.iadd, 1553, 0, 0, 0, 0) := by decide +kernel
theorem i_L_law_1553 : fetch 0 1553 = some (.iaload, 1554, 0, 0, 0, 0) := by decide +kernel
theorem i_L_law_1554 : fetch 0 1554 = some (.invokevirtual 176, 1557, 105, 0, 0, 926) := by decide +kernel
theorem i_L_law_1557 : fetch 0 1557 = some (.aload_n 2, 1558, 0, 0, 0, 0) := by decide +kernel
theorem i_L_law_1558 : fetch 0 1558 = some (.aload_n 0, 1559, 0, 0, 0, 0) := by decide +kernel
theorem i_L_law_1559 : fetch 0 1559 = some (.iload_n 3, 1560, 0, 0, 0, 0) := by decide +kernel
theorem i_L_law_1560 : fetch 0 1560 = some (.iconst 1, 1561, 0, 0, 0, 0) := by decide +kernel
theorem i_L_law_1561 : fetch 0 1561 = some (.iadd, 1562, 0, 0, 0, 0) := by decide +kernel
theorem i_L_law_1562 : fetch 0 1562 = some (.iaload, 1563, 0, 0, 0, 0) := by decide +kernel
theorem i_L_law_1563 : fetch 0 1563 = some (.aload_n 0, 1564, 0, 0, 0, 0) := by decide +kernel
theorem i_L_law_1564 : fetch 0 1564 = some (.iload_n 3, 1565, 0, 0, 0, 0) := by decide +kernel
theorem i_L_law_1565 : fetch 0 1565 = some (.iconst 2, 1566, 0, 0, 0, 0) := by decide +kernel
theorem i_L_law_1566 : fetch 0 1566 = some (.iadd, 1567, 0, 0, 0, 0) := by decide +kernel
theorem i_L_law_1567 : fetch 0 1567 = some (.iaload, 1568, 0, 0, 0, 0) := by decide +kernel
theorem i_L_law_1568 : fetch 0 1568 = some (.aload_n 0, 1569, 0, 0, 0, 0) := by decide +kernel
theorem i_L_law_1569 : fetch 0 1569 = some (.iload_n 3, 1570, 0, 0, 0, 0) := by decide +kernel
theorem i_L_law_1570 : fetch 0 1570 = some (.iconst 3, 1571, 0, 0, 0, 0) := by decide +kernel
theorem i_L_law_1571 : fetch 0 1571 = some (.iadd, 1572, 0, 0, 0, 0) := by decide +kernel
theorem i_L_law_1572 : fetch 0 1572 = some (.iaload, 1573, 0, 0, 0, 0) := by decide +kernel
theorem i_L_law_1573 : fetch 0 1573 = some (.invokevirtual 179, 1576, 213, 0, 0, 1478) := by decide +kernel
theorem i_L_law_1576 : fetch 0 1576 = some (.if_icmp .eq 197, 1579, 0, 0, 0, 0) := by decide +kernel
theorem i_L_law_1579 : fetch 0 1579 = some (.iconst 0, 1580, 0, 0, 0, 0) := by decide +kernel
theorem i_L_law_1580 : fetch 0 1580 = some (.ireturn, 1581, 0, 0, 0, 0) := by decide +kernel
theorem i_L_law_1581 : fetch 0 1581 = some (.aload_n 1, 1582, 0, 0, 0, 0) := by decide +kernel
theorem i_L_law_1582 : fetch 0 1582 = some (.aload_n 0, 1583, 0, 0, 0, 0) := by decide +kernel
theorem i_L_law_1583 : fetch 0 1583 = some (.iload_n 3, 1584, 0, 0, 0, 0) := by decide +kernel
theorem i_L_law_1584 : fetch 0 1584 = some (.iconst 1, 1585, 0, 0, 0, 0) := by decide +kernel
theorem i_L_law_1585 : fetch 0 1585 = some (.iadd, 1586, 0, 0, 0, 0) := by decide +kernel
theorem i_L_law_1586 : fetch 0 1586 = some (.iaload, 1587, 0, 0, 0, 0) := by decide +kernel
theorem i_L_law_1587 : fetch 0 1587 = some (.aload_n 0, 1588, 0, 0, 0, 0) := by decide +kernel
theorem i_L_law_1588 : fetch 0 1588 = some (.iload_n 3, 1589, 0, 0, 0, 0) := by decide +kernel
theorem i_L_law_1589 : fetch 0 1589 = some (.iconst 2, 1590, 0, 0, 0, 0) := by decide +kernel
theorem i_L_law_1590 : fetch 0 1590 = some (.iadd, 1591, 0, 0, 0, 0) := by decide +kernel
theorem i_L_law_1591 : fetch 0 1591 = some (.iaload, 1592, 0, 0, 0, 0) := by decide +kernel
theorem i_L_law_1592 : fetch 0 1592 = some (.aload_n 0, 1593, 0, 0, 0, 0) := by decide +kernel
theorem i_L_law_1593 : fetch 0 1593 = some (.iload_n 3, 1594, 0, 0, 0, 0) := by decide +kernel
theorem i_L_law_1594 : fetch 0 1594 = some (.iconst 3, 1595, 0, 0, 0, 0) := by decide +kernel
theorem i_L_law_1595 : fetch 0 1595 = some (.iadd, 1596, 0, 0, 0, 0) := by decide +kernel
theorem i_L_law_1596 : fetch 0 1596 = some (.iaload, 1597, 0, 0, 0, 0) := by decide +kernel
theorem i_L_law_1597 : fetch 0 1597 = some (.invokevirtual 180, 1600, 106, 0, 0, 930) := by decide +kernel
theorem i_L_law_1600 : fetch 0 1600 = some (.aload_n 2, 1601, 0, 0, 0, 0) := by decide +kernel
theorem i_L_law_1601 : fetch 0 1601 = some (.aload_n 0, 1602, 0, 0, 0, 0) := by decide +kernel
theorem i_L_law_1602 : fetch 0 1602 = some (.iload_n 3, 1603, 0, 0, 0, 0) := by decide +kernel
theorem i_L_law_1603 : fetch 0 1603 = some (.iconst 1, 1604, 0, 0, 0, 0) := by decide +kernel
theorem i_L_law_1604 : fetch 0 1604 = some (.iadd, 1605, 0, 0, 0, 0) := by decide +kernel
theorem i_L_law_1605 : fetch 0 1605 = some (.iaload, 1606, 0, 0, 0, 0) := by decide +kernel
theorem i_L_law_1606 : fetch 0 1606 = some (.aload_n 0, 1607, 0, 0, 0, 0) := by decide +kernel
theorem i_L_law_1607 : fetch 0 1607 = some (.iload_n 3, 1608, 0, 0, 0, 0) := by decide +kernel
theorem i_L_law_1608 : fetch 0 1608 = some (.iconst 2, 1609, 0, 0, 0, 0) := by decide +kernel
theorem i_L_law_1609 : fetch 0 1609 = some (.iadd, 1610, 0, 0, 0, 0) := by decide +kernel
theorem i_L_law_1610 : fetch 0 1610 = some (.iaload, 1611, 0, 0, 0, 0) := by decide +kernel
theorem i_L_law_1611 : fetch 0 1611 = some (.aload_n 0, 1612, 0, 0, 0, 0) := by decide +kernel
theorem i_L_law_1612 : fetch 0 1612 = some (.iload_n 3, 1613, 0, 0, 0, 0) := by decide +kernel
theorem i_L_law_1613 : fetch 0 1613 = some (.iconst 3, 1614, 0, 0, 0, 0) := by decide +kernel
theorem i_L_law_1614 : fetch 0 1614 = some (.iadd, 1615, 0, 0, 0, 0) := by decide +kernel
theorem i_L_law_1615 : fetch 0 1615 = some (.iaload, 1616, 0, 0, 0, 0) := by decide +kernel
theorem i_L_law_1616 : fetch 0 1616 = some (.invokevirtual 183, 1619, 214, 0, 0, 1482) := by decide +kernel
theorem i_L_law_1619 : fetch 0 1619 = some (.if_icmp .eq 154, 1622, 0, 0, 0, 0) := by decide +kernel
theorem i_L_law_1622 : fetch 0 1622 = some (.iconst 0, 1623, 0, 0, 0, 0) := by decide +kernel
theorem i_L_law_1623 : fetch 0 1623 = some (.ireturn, 1624, 0, 0, 0, 0) := by decide +kernel
theorem i_L_law_1624 : fetch 0 1624 = some (.aload_n 1, 1625, 0, 0, 0, 0) := by decide +kernel
theorem i_L_law_1625 : fetch 0 1625 = some (.aload_n 0, 1626, 0, 0, 0, 0) := by decide +kernel
theorem i_L_law_1626 : fetch 0 1626 = some (.iload_n 3, 1627, 0, 0, 0, 0) := by decide +kernel
theorem i_L_law_1627 : fetch 0 1627 = some (.iconst 1, 1628, 0, 0, 0, 0) := by decide +kernel
theorem i_L_law_1628 : fetch 0 1628 = some (.iadd, 1629, 0, 0, 0, 0) := by decide +kernel
theorem i_L_law_1629 : fetch 0 1629 = some (.iaload, 1630, 0, 0, 0, 0) := by decide +kernel
theorem i_L_law_1630 : fetch 0 1630 = some (.aload_n 0, 1631, 0, 0, 0, 0) := by decide +kernel
theorem i_L_law_1631 : fetch 0 1631 = some (.iload_n 3, 1632, 0, 0, 0, 0) := by decide +kernel
theorem i_L_law_1632 : fetch 0 1632 = some (.iconst 2, 1633, 0, 0, 0, 0) := by decide +kernel
theorem i_L_law_1633 : fetch 0 1633 = some (.iadd, 1634, 0, 0, 0, 0) := by decide +kernel
theorem i_L_law_1634 : fetch 0 1634 = some (.iaload, 1635, 0, 0, 0, 0) := by decide +kernel
theorem i_L_law_1635 : fetch 0 1635 = some (.aload_n 0, 1636, 0, 0, 0, 0) := by decide +kernel
theorem i_L_law_1636 : fetch 0 1636 = some (.iload_n 3, 1637, 0, 0, 0, 0) := by decide +kernel
theorem i_L_law_1637 : fetch 0 1637 = some (.iconst 3, 1638, 0, 0, 0, 0) := by decide +kernel
theorem i_L_law_1638 : fetch 0 1638 = some (.iadd, 1639, 0, 0, 0, 0) := by decide +kernel
theorem i_L_law_1639 : fetch 0 1639 = some (.iaload, 1640, 0, 0, 0, 0) := by decide +kernel
theorem i_L_law_1640 : fetch 0 1640 = some (.aload_n 0, 1641, 0, 0, 0, 0) := by decide +kernel
theorem i_L_law_1641 : fetch 0 1641 = some (.iload_n 3, 1642, 0, 0, 0, 0) := by decide +kernel
theorem i_L_law_1642 : fetch 0 1642 = some (.iconst 4, 1643, 0, 0, 0, 0) := by decide +kernel
theorem i_L_law_1643 : fetch 0 1643 = some (.iadd, 1644, 0, 0, 0, 0) := by decide +kernel
theorem i_L_law_1644 : fetch 0 1644 = some (.iaload, 1645, 0, 0, 0, 0) := by decide +kernel
theorem i_L_law_1645 : fetch 0 1645 = some (.aload_n 0, 1646, 0, 0, 0, 0) := by decide +kernel
theorem i_L_law_1646 : fetch 0 1646 = some (.iload_n 3, 1647, 0, 0, 0, 0) := by decide +kernel
theorem i_L_law_1647 : fetch 0 1647 = some (.iconst 5, 1648, 0, 0, 0, 0) := by decide +kernel
theorem i_L_law_1648 : fetch 0 1648 = some (.iadd, 1649, 0, 0, 0, 0) := by decide +kernel
theorem i_L_law_1649 : fetch 0 1649 = some (.iaload, 1650, 0, 0, 0, 0) := by decide +kernel
theorem i_L_law_1650 : fetch 0 1650 = some (.invokevirtual 184, 1653, 107, 0, 0, 935) := by decide +kernel
theorem i_L_law_1653 : fetch 0 1653 = some (.aload_n 2, 1654, 0, 0, 0, 0) := by decide +kernel
theorem i_L_law_1654 : fetch 0 1654 = some (.aload_n 0, 1655, 0, 0, 0, 0) := by decide +kernel
theorem i_L_law_1655 : fetch 0 1655 = some (.iload_n 3, 1656, 0, 0, 0, 0) := by decide +kernel
theorem i_L_law_1656 : fetch 0 1656 = some (.iconst 1, 1657, 0, 0, 0, 0) := by decide +kernel
theorem i_L_law_1657 : fetch 0 1657 = some (.iadd, 1658, 0, 0, 0, 0) := by decide +kernel
theorem i_L_law_1658 : fetch 0 1658 = some (.iaload, 1659, 0, 0, 0, 0) := by decide +kernel
theorem i_L_law_1659 : fetch 0 1659 = some (.aload_n 0, 1660, 0, 0, 0, 0) := by decide +kernel
theorem i_L_law_1660 : fetch 0 1660 = some (.iload_n 3, 1661, 0, 0, 0, 0) := by decide +kernel
theorem i_L_law_1661 : fetch 0 1661 = some (.iconst 2, 1662, 0, 0, 0, 0) := by decide +kernel
theorem i_L_law_1662 : fetch 0 1662 = some (.iadd, 1663, 0, 0, 0, 0) := by decide +kernel
theorem i_L_law_1663 : fetch 0 1663 = some (.iaload, 1664, 0, 0, 0, 0) := by decide +kernel
theorem i_L_law_1664 : fetch 0 1664 = some (.aload_n 0, 1665, 0, 0, 0, 0) := by decide +kernel
theorem i_L_law_1665 : fetch 0 1665 = some (.iload_n 3, 1666, 0, 0, 0, 0) := by decide +kernel
theorem i_L_law_1666 : fetch 0 1666 = some (.iconst 3, 1667, 0, 0, 0, 0) := by decide +kernel
theorem i_L_law_1667 : fetch 0 1667 = some (.iadd, 1668, 0, 0, 0, 0) := by decide +kernel
theorem i_L_law_1668 : fetch 0 1668 = some (.iaload, 1669, 0, 0, 0, 0) := by decide +kernel
theorem i_L_law_1669 : fetch 0 1669 = some (.aload_n 0, 1670, 0, 0, 0, 0) := by decide +kernel
theorem i_L_law_1670 : fetch 0 1670 = some (.iload_n 3, 1671, 0, 0, 0, 0) := by decide +kernel
theorem i_L_law_1671 : fetch 0 1671 = some (.iconst 4, 1672, 0, 0, 0, 0) := by decide +kernel
theorem i_L_law_1672 : fetch 0 1672 = some (.iadd, 1673, 0, 0, 0, 0) := by decide +kernel
theorem i_L_law_1673 : fetch 0 1673 = some (.iaload, 1674, 0, 0, 0, 0) := by decide +kernel
theorem i_L_law_1674 : fetch 0 1674 = some (.aload_n 0, 1675, 0, 0, 0, 0) := by decide +kernel
theorem i_L_law_1675 : fetch 0 1675 = some (.iload_n 3, 1676, 0, 0, 0, 0) := by decide +kernel
theorem i_L_law_1676 : fetch 0 1676 = some (.iconst 5, 1677, 0, 0, 0, 0) := by decide +kernel
theorem i_L_law_1677 : fetch 0 1677 = some (.iadd, 1678, 0, 0, 0, 0) := by decide +kernel
theorem i_L_law_1678 : fetch 0 1678 = some (.iaload, 1679, 0, 0, 0, 0) := by decide +kernel
theorem i_L_law_1679 : fetch 0 1679 = some (.invokevirtual 188, 1682, 215, 0, 0, 1486) := by decide +kernel
theorem i_L_law_1682 : fetch 0 1682 = some (.if_icmp .eq 91, 1685, 0, 0, 0, 0) := by decide +kernel
theorem i_L_law_1685 : fetch 0 1685 = some (.iconst 0, 1686, 0, 0, 0, 0) := by decide +kernel
theorem i_L_law_1686 : fetch 0 1686 = some (.ireturn, 1687, 0, 0, 0, 0) := by decide +kernel
theorem i_L_law_1687 : fetch 0 1687 = some (.aload_n 1, 1688, 0, 0, 0, 0) := by decide +kernel
theorem i_L_law_1688 : fetch 0 1688 = some (.aload_n 0, 1689, 0, 0, 0, 0) := by decide +kernel
theorem i_L_law_1689 : fetch 0 1689 = some (.iload_n 3, 1690, 0, 0, 0, 0) := by decide +kernel
theorem i_L_law_1690 : fetch 0 1690 = some (.iconst 1, 1691, 0, 0, 0, 0) := by decide +kernel
theorem i_L_law_1691 : fetch 0 1691 = some (.iadd, 1692, 0, 0, 0, 0) := by decide +kernel
theorem i_L_law_1692 : fetch 0 1692 = some (.iaload, 1693, 0, 0, 0, 0) := by decide +kernel
theorem i_L_law_1693 : fetch 0 1693 = some (.aload_n 0, 1694, 0, 0, 0, 0) := by decide +kernel
theorem i_L_law_1694 : fetch 0 1694 = some (.iload_n 3, 1695, 0, 0, 0, 0) := by decide +kernel
theorem i_L_law_1695 : fetch 0 1695 = some (.iconst 2, 1696, 0, 0, 0, 0) := by decide +kernel
theorem i_L_law_1696 : fetch 0 1696 = some (.iadd, 1697, 0, 0, 0, 0) := by decide +kernel
theorem i_L_law_1697 : fetch 0 1697 = some (.iaload, 1698, 0, 0, 0, 0) := by decide +kernel
theorem i_L_law_1698 : fetch 0 1698 = some (.aload_n 0, 1699, 0, 0, 0, 0) := by decide +kernel
theorem i_L_law_1699 : fetch 0 1699 = some (.iload_n 3, 1700, 0, 0, 0, 0) := by decide +kernel
theorem i_L_law_1700 : fetch 0 1700 = some (.iconst 3, 1701, 0, 0, 0, 0) := by decide +kernel
theorem i_L_law_1701 : fetch 0 1701 = some (.iadd, 1702, 0, 0, 0, 0) := by decide +kernel
theorem i_L_law_1702 : fetch 0 1702 = some (.iaload, 1703, 0, 0, 0, 0) := by decide +kernel
theorem i_L_law_1703 : fetch 0 1703 = some (.aload_n 0, 1704, 0, 0, 0, 0) := by decide +kernel
theorem i_L_law_1704 : fetch 0 1704 = some (.iload_n 3, 1705, 0, 0, 0, 0) := by decide +kernel
theorem i_L_law_1705 : fetch 0 1705 = some (.iconst 4, 1706, 0, 0, 0, 0) := by decide +kernel
theorem i_L_law_1706 : fetch 0 1706 = some (.iadd, 1707, 0, 0, 0, 0) := by decide +kernel
theorem i_L_law_1707 : fetch 0 1707 = some (.iaload, 1708, 0, 0, 0, 0) := by decide +kernel
theorem i_L_law_1708 : fetch 0 1708 = some (.invokevirtual 189, 1711, 108, 0, 0, 939) := by decide +kernel
theorem i_L_law_1711 : fetch 0 1711 = some (.aload_n 2, 1712, 0, 0, 0, 0) := by decide +kernel
theorem i_L_law_1712 : fetch 0 1712 = some (.aload_n 0, 1713, 0, 0, 0, 0) := by decide +kernel
theorem i_L_law_1713 : fetch 0 1713 = some (.iload_n 3, 1714, 0, 0, 0, 0) := by decide +kernel
theorem i_L_law_1714 : fetch 0 1714 = some (.iconst 1, 1715, 0, 0, 0, 0) := by decide +kernel
theorem i_L_law_1715 : fetch 0 1715 = some (.iadd, 1716, 0, 0, 0, 0) := by decide +kernel
theorem i_L_law_1716 : fetch 0 1716 = some (.iaload, 1717, 0, 0, 0, 0) := by decide +kernel
theorem i_L_law_1717 : fetch 0 1717 = some (.aload_n 0, 1718, 0, 0, 0, 0) := by decide +kernel
theorem i_L_law_1718 : fetch 0 1718 = some (.iload_n 3, 1719, 0, 0, 0, 0) := by decide +kernel
theorem i_L_law_1719 : fetch 0 1719 = some (.iconst 2, 1720, 0, 0, 0, 0) := by decide +kernel
theorem i_L_law_1720 : fetch 0 1720 = some (.iadd, 1721, 0, 0, 0, 0) := by decide +kernel
theorem i_L_law_1721 : fetch 0 1721 = some (.iaload, 1722, 0, 0, 0, 0) := by decide +kernel
theorem i_L_law_1722 : fetch 0 1722 = some (.aload_n 0, 1723, 0, 0, 0, 0) := by decide +kernel
theorem i_L_law_1723 : fetch 0 1723 = some (.iload_n 3, 1724, 0, 0, 0, 0) := by decide +kernel
theorem i_L_law_1724 : fetch 0 1724 = some (.iconst 3, 1725, 0, 0, 0, 0) := by decide +kernel
theorem i_L_law_1725 : fetch 0 1725 = some (.iadd, 1726, 0, 0, 0, 0) := by decide +kernel
theorem i_L_law_1726 : fetch 0 1726 = some (.iaload, 1727, 0, 0, 0, 0) := by decide +kernel
theorem i_L_law_1727 : fetch 0 1727 = some (.aload_n 0, 1728, 0, 0, 0, 0) := by decide +kernel
theorem i_L_law_1728 : fetch 0 1728 = some (.iload_n 3, 1729, 0, 0, 0, 0) := by decide +kernel
theorem i_L_law_1729 : fetch 0 1729 = some (.iconst 4, 1730, 0, 0, 0, 0) := by decide +kernel
theorem i_L_law_1730 : fetch 0 1730 = some (.iadd, 1731, 0, 0, 0, 0) := by decide +kernel
theorem i_L_law_1731 : fetch 0 1731 = some (.iaload, 1732, 0, 0, 0, 0) := by decide +kernel
theorem i_L_law_1732 : fetch 0 1732 = some (.invokevirtual 192, 1735, 216, 0, 0, 1490) := by decide +kernel
theorem i_L_law_1735 : fetch 0 1735 = some (.if_icmp .eq 38, 1738, 0, 0, 0, 0) := by decide +kernel
theorem i_L_law_1738 : fetch 0 1738 = some (.iconst 0, 1739, 0, 0, 0, 0) := by decide +kernel
theorem i_L_law_1739 : fetch 0 1739 = some (.ireturn, 1740, 0, 0, 0, 0) := by decide +kernel
theorem i_L_law_1740 : fetch 0 1740 = some (.aload_n 1, 1741, 0, 0, 0, 0) := by decide +kernel
theorem i_L_law_1741 : fetch 0 1741 = some (.aload_n 0, 1742, 0, 0, 0, 0) := by decide +kernel
theorem i_L_law_1742 : fetch 0 1742 = some (.iload_n 3, 1743, 0, 0, 0, 0) := by decide +kernel
theorem i_L_law_1743 : fetch 0 1743 = some (.iconst 1, 1744, 0, 0, 0, 0) := by decide +kernel
theorem i_L_law_1744 : fetch 0 1744 = some (.iadd, 1745, 0, 0, 0, 0) := by decide +kernel
theorem i_L_law_1745 : fetch 0 1745 = some (.iaload, 1746, 0, 0, 0, 0) := by decide +kernel
theorem i_L_law_1746 : fetch 0 1746 = some (.aload_n 0, 1747, 0, 0, 0, 0) := by decide +kernel
theorem i_L_law_1747 : fetch 0 1747 = some (.iload_n 3, 1748, 0, 0, 0, 0) := by decide +kernel
theorem i_L_law_1748 : fetch 0 1748 = some (.iconst 2, 1749, 0, 0, 0, 0) := by decide +kernel
theorem i_L_law_1749 : fetch 0 1749 = some (.iadd, 1750, 0, 0, 0, 0) := by decide +kernel
theorem i_L_law_1750 : fetch 0 1750 = some (.iaload, 1751, 0, 0, 0, 0) := by decide +kernel
theorem i_L_law_1751 : fetch 0 1751 = some (.invokevirtual 193, 1754, 109, 0, 0, 944) := by decide +kernel
theorem i_L_law_1754 : fetch 0 1754 = some (.aload_n 2, 1755, 0, 0, 0, 0) := by decide +kernel
theorem i_L_law_1755 : fetch 0 1755 = some (.aload_n 0, 1756, 0, 0, 0, 0) := by decide +kernel
theorem i_L_law_1756 : fetch 0 1756 = some (.iload_n 3, 1757, 0, 0, 0, 0) := by decide +kernel
theorem i_L_law_1757 : fetch 0 1757 = some (.iconst 1, 1758, 0, 0, 0, 0) := by decide +kernel
theorem i_L_law_1758 : fetch 0 1758 = some (.iadd, 1759, 0, 0, 0, 0) := by decide +kernel
theorem i_L_law_1759 : fetch 0 1759 = some (.iaload, 1760, 0, 0, 0, 0) := by decide +kernel
theorem i_L_law_1760 : fetch 0 1760 = some (.aload_n 0, 1761, 0, 0, 0, 0) := by decide +kernel
theorem i_L_law_1761 : fetch 0 1761 = some (.iload_n 3, 1762, 0, 0, 0, 0) := by decide +kernel
theorem i_L_law_1762 : fetch 0 1762 = some (.iconst 2, 1763, 0, 0, 0, 0) := by decide +kernel
theorem i_L_law_1763 : fetch 0 1763 = some (.iadd, 1764, 0, 0, 0, 0) := by decide +kernel
theorem i_L_law_1764 : fetch 0 1764 = some (.iaload, 1765, 0, 0, 0, 0) := by decide +kernel
theorem i_L_law_1765 : fetch 0 1765 = some (.invokevirtual 196, 1768, 218, 0, 0, 1495) := by decide +kernel
theorem i_L_law_1768 : fetch 0 1768 = some (.if_icmp .eq 5, 1771, 0, 0, 0, 0) := by decide +kernel
theorem i_L_law_1771 : fetch 0 1771 = some (.iconst 0, 1772, 0, 0, 0, 0) := by decide +kernel
theorem i_L_law_1772 : fetch 0 1772 = some (.ireturn, 1773, 0, 0, 0, 0) := by decide +kernel
theorem i_L_law_1773 : fetch 0 1773 = some (.iinc 3 6, 1776, 0, 0, 0, 0) := by decide +kernel
theorem i_L_law_1776 : fetch 0 1776 = some (.goto (-1758), 1779, 0, 0, 0, 0) := by decide +kernel
theorem i_L_law_1779 : fetch 0 1779 = some (.iconst 1, 1780, 0, 0, 0, 0) := by decide +kernel
theorem i_L_law_1780 : fetch 0 1780 = some (.ireturn, 1781, 0, 0, 0, 0) := by decide +kernel
def f_L_law_1773 (X : Nat → Int32) (n : Nat) (K18 : Nat → Nat → Int32 → Hp → Option (Int32 × Hp)) (v1 : Nat) (v2 : Nat) (v3 : Int32) (h : Hp) : Option (Int32 × Hp) :=
  K18 v1 v2 (v3 + 6) h
set_option maxRecDepth 100000 in
set_option maxHeartbeats 4000000 in
theorem r_L_law_1773 {X : Nat → Int32} {d : Nat} (hd : 110 ≤ (d + 1)) {n : Nat} {K18 : Nat → Nat → Int32 → Hp → Option (Int32 × Hp)} (HK18 : ∀ (v1 : Nat) (v2 : Nat) (v3 : Int32) (h : Hp) (o : (Int32 × Hp)), K18 v1 v2 v3 h = some o → Run X (d + 1) 0 18 [some (.ref 14), some (.ref v1), some (.ref v2), some (.int v3)] [] h (some (.int o.1), o.2)) {v1 : Nat} {v2 : Nat} {v3 : Int32} {h : Hp} {o : (Int32 × Hp)} (hf : f_L_law_1773 X n K18 v1 v2 v3 h = some o) : Run X (d + 1) 0 1773 [some (.ref 14), some (.ref v1), some (.ref v2), some (.int v3)] [] h (some (.int o.1), o.2) := by
  unfold f_L_law_1773 at hf
  refine rs_iinc i_L_law_1773 rfl (v := v3 + 6) rfl (Nat.le_of_ble_eq_true rfl) (lv' := [some (.ref 14), some (.ref v1), some (.ref v2), some (.int (v3 + 6))]) rfl ?_
  refine rs_goto i_L_law_1776 (tg := 18) (by decide) ?_
  exact HK18 _ _ _ _ _ hf
def f_L_law_18 (X : Nat → Int32) (n : Nat) : Nat → Nat → Nat → Int32 → Hp → Option (Int32 × Hp)
  | 0, _, _, _, _ => none
  | m + 1, v1, v2, v3, h =>
    if (hk h 14).1 = 22 then
    if ((Int32.ofNat (hk h 14).2) - 6) < v3 then
      some (1, h)
    else
      if okC h 14 v3 then
      if ((X (ix v3)) &&& 63) = 0 then
        if okC h 14 (v3 + 1) then
        if okC h 14 (v3 + 2) then
        if okC h 14 (v3 + 3) then
        if okO h v1 7 then
        (f_X7_roll v1 (X (ix (v3 + 1))) (X (ix (v3 + 2))) (X (ix (v3 + 3))) h).bind fun o448 =>
        if okC o448.2 14 (v3 + 1) then
        if okC o448.2 14 (v3 + 2) then
        if okC o448.2 14 (v3 + 3) then
        if okO o448.2 v2 8 then
        (f_X8_roll v2 (X (ix (v3 + 1))) (X (ix (v3 + 2))) (X (ix (v3 + 3))) o448.2).bind fun o453 =>
        if o448.1 = o453.1 then
          f_L_law_1773 X n (f_L_law_18 X n m) v1 v2 v3 o453.2
        else
          some (0, o453.2)
        else none
        else none
        else none
        else none
        else none
        else none
        else none
        else none
      else
        if ((X (ix v3)) &&& 63) = 1 then
          if okC h 14 (v3 + 1) then
          if okC h 14 (v3 + 2) then
          if okO h v1 7 then
          (f_X7_set v1 (X (ix (v3 + 1))) (X (ix (v3 + 2))) h).bind fun o438 =>
          if okC o438.2 14 (v3 + 1) then
          if okC o438.2 14 (v3 + 2) then
          if okO o438.2 v2 8 then
          (f_X8_set v2 (X (ix (v3 + 1))) (X (ix (v3 + 2))) o438.2).bind fun o442 =>
          if o438.1 = o442.1 then
            f_L_law_1773 X n (f_L_law_18 X n m) v1 v2 v3 o442.2
          else
            some (0, o442.2)
          else none
          else none
          else none
          else none
          else none
          else none
        else
          if ((X (ix v3)) &&& 63) = 2 then
            if okC h 14 (v3 + 1) then
            if okO h v1 7 then
            (f_X7_count v1 (X (ix (v3 + 1))) h).bind fun o430 =>
            if okC o430.2 14 (v3 + 1) then
            if okO o430.2 v2 8 then
            (f_X8_count v2 (X (ix (v3 + 1))) o430.2).bind fun o433 =>
            if o430.1 = o433.1 then
              f_L_law_1773 X n (f_L_law_18 X n m) v1 v2 v3 o433.2
            else
              some (0, o433.2)
            else none
            else none
            else none
            else none
          else
            if ((X (ix v3)) &&& 63) = 3 then
              if okC h 14 (v3 + 1) then
              if okC h 14 (v3 + 2) then
              if okC h 14 (v3 + 3) then
              if okO h v1 7 then
              (f_X7_feed n v1 (((Int32.toInt64 (X (ix (v3 + 1)))) <<< (Int32.toInt64 32 &&& 63)) ||| ((Int32.toInt64 (X (ix (v3 + 2)))) &&& 4294967295)) (X (ix (v3 + 3))) h).bind fun o421 =>
              if okC o421.2 14 (v3 + 1) then
              if okC o421.2 14 (v3 + 2) then
              if okC o421.2 14 (v3 + 3) then
              if okO o421.2 v2 8 then
              (f_X8_feed n v2 (((Int32.toInt64 (X (ix (v3 + 1)))) <<< (Int32.toInt64 32 &&& 63)) ||| ((Int32.toInt64 (X (ix (v3 + 2)))) &&& 4294967295)) (X (ix (v3 + 3))) o421.2).bind fun o426 =>
              if o421.1 = o426.1 then
                f_L_law_1773 X n (f_L_law_18 X n m) v1 v2 v3 o426.2
              else
                some (0, o426.2)
              else none
              else none
              else none
              else none
              else none
              else none
              else none
              else none
            else
              if ((X (ix v3)) &&& 63) = 4 then
                if okO h v1 7 then
                (f_X7_text n v1 h).bind fun o413 =>
                if okO o413.2 v2 8 then
                (f_X8_text n v2 o413.2).bind fun o415 =>
                if o413.1 = o415.1 then
                  f_L_law_1773 X n (f_L_law_18 X n m) v1 v2 v3 o415.2
                else
                  some (0, o415.2)
                else none
                else none
              else
                if ((X (ix v3)) &&& 63) = 5 then
                  if okC h 14 (v3 + 1) then
                  if okO h v1 7 then
                  (f_X7_force v1 (X (ix (v3 + 1))) h).bind fun o407 =>
                  if okC o407.2 14 (v3 + 1) then
                  if okO o407.2 v2 8 then
                  (f_X8_force v2 (X (ix (v3 + 1))) o407.2).bind fun o410 =>
                  if o407.1 = o410.1 then
                    f_L_law_1773 X n (f_L_law_18 X n m) v1 v2 v3 o410.2
                  else
                    some (0, o410.2)
                  else none
                  else none
                  else none
                  else none
                else
                  if ((X (ix v3)) &&& 63) = 6 then
                    if okC h 14 (v3 + 1) then
                    if okC h 14 (v3 + 2) then
                    if okC h 14 (v3 + 3) then
                    if okO h v1 7 then
                    (f_X7_step v1 (X (ix (v3 + 1))) (X (ix (v3 + 2))) (X (ix (v3 + 3))) h).bind fun o398 =>
                    if okC o398.2 14 (v3 + 1) then
                    if okC o398.2 14 (v3 + 2) then
                    if okC o398.2 14 (v3 + 3) then
                    if okO o398.2 v2 8 then
                    (f_X8_step v2 (X (ix (v3 + 1))) (X (ix (v3 + 2))) (X (ix (v3 + 3))) o398.2).bind fun o403 =>
                    if o398.1 = o403.1 then
                      f_L_law_1773 X n (f_L_law_18 X n m) v1 v2 v3 o403.2
                    else
                      some (0, o403.2)
                    else none
                    else none
                    else none
                    else none
                    else none
                    else none
                    else none
                    else none
                  else
                    if ((X (ix v3)) &&& 63) = 7 then
                      if okO h v1 7 then
                      (f_X7_forget v1 h).bind fun o390 =>
                      if okO o390.2 v2 8 then
                      (f_X8_forget v2 o390.2).bind fun o392 =>
                      if o390.1 = o392.1 then
                        f_L_law_1773 X n (f_L_law_18 X n m) v1 v2 v3 o392.2
                      else
                        some (0, o392.2)
                      else none
                      else none
                    else
                      if ((X (ix v3)) &&& 63) = 8 then
                        if okC h 14 (v3 + 1) then
                        if okC h 14 (v3 + 2) then
                        if okO h v1 7 then
                        (f_X7_stepTold v1 (X (ix (v3 + 1))) (X (ix (v3 + 2))) h).bind fun o383 =>
                        if okC o383.2 14 (v3 + 1) then
                        if okC o383.2 14 (v3 + 2) then
                        if okO o383.2 v2 8 then
                        (f_X8_stepTold v2 (X (ix (v3 + 1))) (X (ix (v3 + 2))) o383.2).bind fun o387 =>
                        if o383.1 = o387.1 then
                          f_L_law_1773 X n (f_L_law_18 X n m) v1 v2 v3 o387.2
                        else
                          some (0, o387.2)
                        else none
                        else none
                        else none
                        else none
                        else none
                        else none
                      else
                        if ((X (ix v3)) &&& 63) = 9 then
                          if okC h 14 (v3 + 1) then
                          if okC h 14 (v3 + 2) then
                          if okC h 14 (v3 + 3) then
                          if okO h v1 7 then
                          (f_X7_rope n v1 (X (ix (v3 + 1))) (X (ix (v3 + 2))) (X (ix (v3 + 3))) h).bind fun o373 =>
                          if okC o373.2 14 (v3 + 1) then
                          if okC o373.2 14 (v3 + 2) then
                          if okC o373.2 14 (v3 + 3) then
                          if okO o373.2 v2 8 then
                          (f_X8_rope n v2 (X (ix (v3 + 1))) (X (ix (v3 + 2))) (X (ix (v3 + 3))) o373.2).bind fun o378 =>
                          if o373.1 = o378.1 then
                            f_L_law_1773 X n (f_L_law_18 X n m) v1 v2 v3 o378.2
                          else
                            some (0, o378.2)
                          else none
                          else none
                          else none
                          else none
                          else none
                          else none
                          else none
                          else none
                        else
                          if ((X (ix v3)) &&& 63) = 10 then
                            if okC h 14 (v3 + 1) then
                            if okC h 14 (v3 + 2) then
                            if okO h v1 7 then
                            (f_X7_state n v1 (X (ix (v3 + 1))) (X (ix (v3 + 2))) h).bind fun o363 =>
                            if okC o363.2 14 (v3 + 1) then
                            if okC o363.2 14 (v3 + 2) then
                            if okO o363.2 v2 8 then
                            (f_X8_state n v2 (X (ix (v3 + 1))) (X (ix (v3 + 2))) o363.2).bind fun o367 =>
                            if o363.1 = o367.1 then
                              f_L_law_1773 X n (f_L_law_18 X n m) v1 v2 v3 o367.2
                            else
                              some (0, o367.2)
                            else none
                            else none
                            else none
                            else none
                            else none
                            else none
                          else
                            if ((X (ix v3)) &&& 63) = 11 then
                              if okC h 14 (v3 + 1) then
                              if okC h 14 (v3 + 2) then
                              if okO h v1 7 then
                              (f_X7_whole n v1 (X (ix (v3 + 1))) (X (ix (v3 + 2))) h).bind fun o354 =>
                              if okC o354.2 14 (v3 + 1) then
                              if okC o354.2 14 (v3 + 2) then
                              if okO o354.2 v2 8 then
                              (f_X8_whole n v2 (X (ix (v3 + 1))) (X (ix (v3 + 2))) o354.2).bind fun o358 =>
                              if o354.1 = o358.1 then
                                f_L_law_1773 X n (f_L_law_18 X n m) v1 v2 v3 o358.2
                              else
                                some (0, o358.2)
                              else none
                              else none
                              else none
                              else none
                              else none
                              else none
                            else
                              if ((X (ix v3)) &&& 63) = 12 then
                                if okC h 14 (v3 + 1) then
                                if okO h v1 7 then
                                (f_X7_stop n v1 (X (ix (v3 + 1))) h).bind fun o346 =>
                                if okC o346.2 14 (v3 + 1) then
                                if okO o346.2 v2 8 then
                                (f_X8_stop n v2 (X (ix (v3 + 1))) o346.2).bind fun o349 =>
                                if o346.1 = o349.1 then
                                  f_L_law_1773 X n (f_L_law_18 X n m) v1 v2 v3 o349.2
                                else
                                  some (0, o349.2)
                                else none
                                else none
                                else none
                                else none
                              else
                                if ((X (ix v3)) &&& 63) = 13 then
                                  if okO h v1 7 then
                                  (f_X7_worst n v1 h).bind fun o340 =>
                                  if okO o340.2 v2 8 then
                                  (f_X8_worst n v2 o340.2).bind fun o342 =>
                                  if o340.1 = o342.1 then
                                    f_L_law_1773 X n (f_L_law_18 X n m) v1 v2 v3 o342.2
                                  else
                                    some (0, o342.2)
                                  else none
                                  else none
                                else
                                  if ((X (ix v3)) &&& 63) = 14 then
                                    if okC h 14 (v3 + 1) then
                                    if okC h 14 (v3 + 2) then
                                    if okO h v1 7 then
                                    (f_X7_window n v1 (X (ix (v3 + 1))) (X (ix (v3 + 2))) h).bind fun o333 =>
                                    if okC o333.2 14 (v3 + 1) then
                                    if okC o333.2 14 (v3 + 2) then
                                    if okO o333.2 v2 8 then
                                    (f_X8_window n v2 (X (ix (v3 + 1))) (X (ix (v3 + 2))) o333.2).bind fun o337 =>
                                    if o333.1 = o337.1 then
                                      f_L_law_1773 X n (f_L_law_18 X n m) v1 v2 v3 o337.2
                                    else
                                      some (0, o337.2)
                                    else none
                                    else none
                                    else none
                                    else none
                                    else none
                                    else none
                                  else
                                    if ((X (ix v3)) &&& 63) = 15 then
                                      if okC h 14 (v3 + 1) then
                                      if okC h 14 (v3 + 2) then
                                      if okC h 14 (v3 + 3) then
                                      if okO h v1 7 then
                                      (f_X7_pace n v1 (X (ix (v3 + 1))) (X (ix (v3 + 2))) (X (ix (v3 + 3))) h).bind fun o323 =>
                                      if okC o323.2 14 (v3 + 1) then
                                      if okC o323.2 14 (v3 + 2) then
                                      if okC o323.2 14 (v3 + 3) then
                                      if okO o323.2 v2 8 then
                                      (f_X8_pace n v2 (X (ix (v3 + 1))) (X (ix (v3 + 2))) (X (ix (v3 + 3))) o323.2).bind fun o328 =>
                                      if o323.1 = o328.1 then
                                        f_L_law_1773 X n (f_L_law_18 X n m) v1 v2 v3 o328.2
                                      else
                                        some (0, o328.2)
                                      else none
                                      else none
                                      else none
                                      else none
                                      else none
                                      else none
                                      else none
                                      else none
                                    else
                                      if ((X (ix v3)) &&& 63) = 16 then
                                        if okC h 14 (v3 + 1) then
                                        if okC h 14 (v3 + 2) then
                                        if okC h 14 (v3 + 3) then
                                        if okO h v1 7 then
                                        (f_X7_rest n v1 (X (ix (v3 + 1))) (X (ix (v3 + 2))) (X (ix (v3 + 3))) h).bind fun o312 =>
                                        if okC o312.2 14 (v3 + 1) then
                                        if okC o312.2 14 (v3 + 2) then
                                        if okC o312.2 14 (v3 + 3) then
                                        if okO o312.2 v2 8 then
                                        (f_X8_rest n v2 (X (ix (v3 + 1))) (X (ix (v3 + 2))) (X (ix (v3 + 3))) o312.2).bind fun o317 =>
                                        if o312.1 = o317.1 then
                                          f_L_law_1773 X n (f_L_law_18 X n m) v1 v2 v3 o317.2
                                        else
                                          some (0, o317.2)
                                        else none
                                        else none
                                        else none
                                        else none
                                        else none
                                        else none
                                        else none
                                        else none
                                      else
                                        if ((X (ix v3)) &&& 63) = 17 then
                                          if okC h 14 (v3 + 1) then
                                          if okC h 14 (v3 + 2) then
                                          if okO h v1 7 then
                                          (f_X7_dust n v1 (X (ix (v3 + 1))) (X (ix (v3 + 2))) h).bind fun o302 =>
                                          if okC o302.2 14 (v3 + 1) then
                                          if okC o302.2 14 (v3 + 2) then
                                          if okO o302.2 v2 8 then
                                          (f_X8_dust n v2 (X (ix (v3 + 1))) (X (ix (v3 + 2))) o302.2).bind fun o306 =>
                                          if o302.1 = o306.1 then
                                            f_L_law_1773 X n (f_L_law_18 X n m) v1 v2 v3 o306.2
                                          else
                                            some (0, o306.2)
                                          else none
                                          else none
                                          else none
                                          else none
                                          else none
                                          else none
                                        else
                                          if ((X (ix v3)) &&& 63) = 18 then
                                            if okC h 14 (v3 + 1) then
                                            if okC h 14 (v3 + 2) then
                                            if okC h 14 (v3 + 3) then
                                            if okO h v1 7 then
                                            (f_X7_doublings n v1 (X (ix (v3 + 1))) (X (ix (v3 + 2))) (X (ix (v3 + 3))) h).bind fun o292 =>
                                            if okC o292.2 14 (v3 + 1) then
                                            if okC o292.2 14 (v3 + 2) then
                                            if okC o292.2 14 (v3 + 3) then
                                            if okO o292.2 v2 8 then
                                            (f_X8_doublings n v2 (X (ix (v3 + 1))) (X (ix (v3 + 2))) (X (ix (v3 + 3))) o292.2).bind fun o297 =>
                                            if o292.1 = o297.1 then
                                              f_L_law_1773 X n (f_L_law_18 X n m) v1 v2 v3 o297.2
                                            else
                                              some (0, o297.2)
                                            else none
                                            else none
                                            else none
                                            else none
                                            else none
                                            else none
                                            else none
                                            else none
                                          else
                                            if ((X (ix v3)) &&& 63) = 19 then
                                              if okC h 14 (v3 + 1) then
                                              if okC h 14 (v3 + 2) then
                                              if okC h 14 (v3 + 3) then
                                              if okO h v1 7 then
                                              (f_X7_judge n v1 (X (ix (v3 + 1))) (X (ix (v3 + 2))) (X (ix (v3 + 3))) h).bind fun o281 =>
                                              if okC o281.2 14 (v3 + 1) then
                                              if okC o281.2 14 (v3 + 2) then
                                              if okC o281.2 14 (v3 + 3) then
                                              if okO o281.2 v2 8 then
                                              (f_X8_judge n v2 (X (ix (v3 + 1))) (X (ix (v3 + 2))) (X (ix (v3 + 3))) o281.2).bind fun o286 =>
                                              if o281.1 = o286.1 then
                                                f_L_law_1773 X n (f_L_law_18 X n m) v1 v2 v3 o286.2
                                              else
                                                some (0, o286.2)
                                              else none
                                              else none
                                              else none
                                              else none
                                              else none
                                              else none
                                              else none
                                              else none
                                            else
                                              if ((X (ix v3)) &&& 63) = 20 then
                                                if okC h 14 (v3 + 1) then
                                                if okC h 14 (v3 + 2) then
                                                if okO h v1 7 then
                                                (f_X7_film n v1 (X (ix (v3 + 1))) (X (ix (v3 + 2))) h).bind fun o271 =>
                                                if okC o271.2 14 (v3 + 1) then
                                                if okC o271.2 14 (v3 + 2) then
                                                if okO o271.2 v2 8 then
                                                (f_X8_film n v2 (X (ix (v3 + 1))) (X (ix (v3 + 2))) o271.2).bind fun o275 =>
                                                if o271.1 = o275.1 then
                                                  f_L_law_1773 X n (f_L_law_18 X n m) v1 v2 v3 o275.2
                                                else
                                                  some (0, o275.2)
                                                else none
                                                else none
                                                else none
                                                else none
                                                else none
                                                else none
                                              else
                                                if ((X (ix v3)) &&& 63) = 21 then
                                                  if okC h 14 (v3 + 1) then
                                                  if okC h 14 (v3 + 2) then
                                                  if okC h 14 (v3 + 3) then
                                                  if okO h v1 7 then
                                                  (f_X7_serves n v1 (X (ix (v3 + 1))) (X (ix (v3 + 2))) (X (ix (v3 + 3))) h).bind fun o261 =>
                                                  if okC o261.2 14 (v3 + 1) then
                                                  if okC o261.2 14 (v3 + 2) then
                                                  if okC o261.2 14 (v3 + 3) then
                                                  if okO o261.2 v2 8 then
                                                  (f_X8_serves n v2 (X (ix (v3 + 1))) (X (ix (v3 + 2))) (X (ix (v3 + 3))) o261.2).bind fun o266 =>
                                                  if o261.1 = o266.1 then
                                                    f_L_law_1773 X n (f_L_law_18 X n m) v1 v2 v3 o266.2
                                                  else
                                                    some (0, o266.2)
                                                  else none
                                                  else none
                                                  else none
                                                  else none
                                                  else none
                                                  else none
                                                  else none
                                                  else none
                                                else
                                                  if ((X (ix v3)) &&& 63) = 22 then
                                                    if okC h 14 (v3 + 1) then
                                                    if okC h 14 (v3 + 2) then
                                                    if okO h v1 7 then
                                                    (f_X7_which n v1 (X (ix (v3 + 1))) (X (ix (v3 + 2))) h).bind fun o251 =>
                                                    if okC o251.2 14 (v3 + 1) then
                                                    if okC o251.2 14 (v3 + 2) then
                                                    if okO o251.2 v2 8 then
                                                    (f_X8_which n v2 (X (ix (v3 + 1))) (X (ix (v3 + 2))) o251.2).bind fun o255 =>
                                                    if o251.1 = o255.1 then
                                                      f_L_law_1773 X n (f_L_law_18 X n m) v1 v2 v3 o255.2
                                                    else
                                                      some (0, o255.2)
                                                    else none
                                                    else none
                                                    else none
                                                    else none
                                                    else none
                                                    else none
                                                  else
                                                    if ((X (ix v3)) &&& 63) = 23 then
                                                      if okC h 14 (v3 + 1) then
                                                      if okC h 14 (v3 + 2) then
                                                      if okO h v1 7 then
                                                      (f_X7_fault n v1 (X (ix (v3 + 1))) (X (ix (v3 + 2))) h).bind fun o242 =>
                                                      if okC o242.2 14 (v3 + 1) then
                                                      if okC o242.2 14 (v3 + 2) then
                                                      if okO o242.2 v2 8 then
                                                      (f_X8_fault n v2 (X (ix (v3 + 1))) (X (ix (v3 + 2))) o242.2).bind fun o246 =>
                                                      if o242.1 = o246.1 then
                                                        f_L_law_1773 X n (f_L_law_18 X n m) v1 v2 v3 o246.2
                                                      else
                                                        some (0, o246.2)
                                                      else none
                                                      else none
                                                      else none
                                                      else none
                                                      else none
                                                      else none
                                                    else
                                                      if ((X (ix v3)) &&& 63) = 24 then
                                                        if okC h 14 (v3 + 1) then
                                                        if okC h 14 (v3 + 2) then
                                                        if okO h v1 7 then
                                                        (f_X7_uneven n v1 (X (ix (v3 + 1))) (X (ix (v3 + 2))) h).bind fun o233 =>
                                                        if okC o233.2 14 (v3 + 1) then
                                                        if okC o233.2 14 (v3 + 2) then
                                                        if okO o233.2 v2 8 then
                                                        (f_X8_uneven n v2 (X (ix (v3 + 1))) (X (ix (v3 + 2))) o233.2).bind fun o237 =>
                                                        if o233.1 = o237.1 then
                                                          f_L_law_1773 X n (f_L_law_18 X n m) v1 v2 v3 o237.2
                                                        else
                                                          some (0, o237.2)
                                                        else none
                                                        else none
                                                        else none
                                                        else none
                                                        else none
                                                        else none
                                                      else
                                                        if ((X (ix v3)) &&& 63) = 25 then
                                                          if okC h 14 (v3 + 1) then
                                                          if okC h 14 (v3 + 2) then
                                                          if okC h 14 (v3 + 3) then
                                                          if okO h v1 7 then
                                                          (f_X7_cooks n v1 (X (ix (v3 + 1))) (X (ix (v3 + 2))) (X (ix (v3 + 3))) h).bind fun o223 =>
                                                          if okC o223.2 14 (v3 + 1) then
                                                          if okC o223.2 14 (v3 + 2) then
                                                          if okC o223.2 14 (v3 + 3) then
                                                          if okO o223.2 v2 8 then
                                                          (f_X8_cooks n v2 (X (ix (v3 + 1))) (X (ix (v3 + 2))) (X (ix (v3 + 3))) o223.2).bind fun o228 =>
                                                          if o223.1 = o228.1 then
                                                            f_L_law_1773 X n (f_L_law_18 X n m) v1 v2 v3 o228.2
                                                          else
                                                            some (0, o228.2)
                                                          else none
                                                          else none
                                                          else none
                                                          else none
                                                          else none
                                                          else none
                                                          else none
                                                          else none
                                                        else
                                                          if ((X (ix v3)) &&& 63) = 26 then
                                                            if okC h 14 (v3 + 1) then
                                                            if okO h v1 7 then
                                                            (f_X7_pot n v1 (X (ix (v3 + 1))) h).bind fun o214 =>
                                                            if okC o214.2 14 (v3 + 1) then
                                                            if okO o214.2 v2 8 then
                                                            (f_X8_pot n v2 (X (ix (v3 + 1))) o214.2).bind fun o217 =>
                                                            if o214.1 = o217.1 then
                                                              f_L_law_1773 X n (f_L_law_18 X n m) v1 v2 v3 o217.2
                                                            else
                                                              some (0, o217.2)
                                                            else none
                                                            else none
                                                            else none
                                                            else none
                                                          else
                                                            if ((X (ix v3)) &&& 63) = 27 then
                                                              if okC h 14 (v3 + 1) then
                                                              if okC h 14 (v3 + 2) then
                                                              if okO h v1 7 then
                                                              (f_X7_place n v1 (X (ix (v3 + 1))) (X (ix (v3 + 2))) h).bind fun o206 =>
                                                              if okC o206.2 14 (v3 + 1) then
                                                              if okC o206.2 14 (v3 + 2) then
                                                              if okO o206.2 v2 8 then
                                                              (f_X8_place n v2 (X (ix (v3 + 1))) (X (ix (v3 + 2))) o206.2).bind fun o210 =>
                                                              if o206.1 = o210.1 then
                                                                f_L_law_1773 X n (f_L_law_18 X n m) v1 v2 v3 o210.2
                                                              else
                                                                some (0, o210.2)
                                                              else none
                                                              else none
                                                              else none
                                                              else none
                                                              else none
                                                              else none
                                                            else
                                                              if ((X (ix v3)) &&& 63) = 28 then
                                                                if okC h 14 (v3 + 1) then
                                                                if okC h 14 (v3 + 2) then
                                                                if okC h 14 (v3 + 3) then
                                                                if okO h v1 7 then
                                                                (f_X7_apart n v1 (X (ix (v3 + 1))) (X (ix (v3 + 2))) (X (ix (v3 + 3))) h).bind fun o196 =>
                                                                if okC o196.2 14 (v3 + 1) then
                                                                if okC o196.2 14 (v3 + 2) then
                                                                if okC o196.2 14 (v3 + 3) then
                                                                if okO o196.2 v2 8 then
                                                                (f_X8_apart n v2 (X (ix (v3 + 1))) (X (ix (v3 + 2))) (X (ix (v3 + 3))) o196.2).bind fun o201 =>
                                                                if o196.1 = o201.1 then
                                                                  f_L_law_1773 X n (f_L_law_18 X n m) v1 v2 v3 o201.2
                                                                else
                                                                  some (0, o201.2)
                                                                else none
                                                                else none
                                                                else none
                                                                else none
                                                                else none
                                                                else none
                                                                else none
                                                                else none
                                                              else
                                                                if ((X (ix v3)) &&& 63) = 29 then
                                                                  if okC h 14 (v3 + 1) then
                                                                  if okC h 14 (v3 + 2) then
                                                                  if okC h 14 (v3 + 3) then
                                                                  if okO h v1 7 then
                                                                  (f_X7_parted n v1 (X (ix (v3 + 1))) (X (ix (v3 + 2))) (X (ix (v3 + 3))) h).bind fun o185 =>
                                                                  if okC o185.2 14 (v3 + 1) then
                                                                  if okC o185.2 14 (v3 + 2) then
                                                                  if okC o185.2 14 (v3 + 3) then
                                                                  if okO o185.2 v2 8 then
                                                                  (f_X8_parted n v2 (X (ix (v3 + 1))) (X (ix (v3 + 2))) (X (ix (v3 + 3))) o185.2).bind fun o190 =>
                                                                  if o185.1 = o190.1 then
                                                                    f_L_law_1773 X n (f_L_law_18 X n m) v1 v2 v3 o190.2
                                                                  else
                                                                    some (0, o190.2)
                                                                  else none
                                                                  else none
                                                                  else none
                                                                  else none
                                                                  else none
                                                                  else none
                                                                  else none
                                                                  else none
                                                                else
                                                                  if ((X (ix v3)) &&& 63) = 30 then
                                                                    if okC h 14 (v3 + 1) then
                                                                    if okO h v1 7 then
                                                                    (f_X7_round n v1 (X (ix (v3 + 1))) h).bind fun o176 =>
                                                                    if okC o176.2 14 (v3 + 1) then
                                                                    if okO o176.2 v2 8 then
                                                                    (f_X8_round n v2 (X (ix (v3 + 1))) o176.2).bind fun o179 =>
                                                                    if o176.1 = o179.1 then
                                                                      f_L_law_1773 X n (f_L_law_18 X n m) v1 v2 v3 o179.2
                                                                    else
                                                                      some (0, o179.2)
                                                                    else none
                                                                    else none
                                                                    else none
                                                                    else none
                                                                  else
                                                                    if ((X (ix v3)) &&& 63) = 31 then
                                                                      if okC h 14 (v3 + 1) then
                                                                      if okC h 14 (v3 + 2) then
                                                                      if okC h 14 (v3 + 3) then
                                                                      if okO h v1 7 then
                                                                      (f_X7_colours n v1 (X (ix (v3 + 1))) (X (ix (v3 + 2))) (X (ix (v3 + 3))) h).bind fun o167 =>
                                                                      if okC o167.2 14 (v3 + 1) then
                                                                      if okC o167.2 14 (v3 + 2) then
                                                                      if okC o167.2 14 (v3 + 3) then
                                                                      if okO o167.2 v2 8 then
                                                                      (f_X8_colours n v2 (X (ix (v3 + 1))) (X (ix (v3 + 2))) (X (ix (v3 + 3))) o167.2).bind fun o172 =>
                                                                      if o167.1 = o172.1 then
                                                                        f_L_law_1773 X n (f_L_law_18 X n m) v1 v2 v3 o172.2
                                                                      else
                                                                        some (0, o172.2)
                                                                      else none
                                                                      else none
                                                                      else none
                                                                      else none
                                                                      else none
                                                                      else none
                                                                      else none
                                                                      else none
                                                                    else
                                                                      if ((X (ix v3)) &&& 63) = 32 then
                                                                        if okC h 14 (v3 + 1) then
                                                                        if okC h 14 (v3 + 2) then
                                                                        if okC h 14 (v3 + 3) then
                                                                        if okO h v1 7 then
                                                                        (f_X7_thin n v1 (X (ix (v3 + 1))) (X (ix (v3 + 2))) (X (ix (v3 + 3))) h).bind fun o156 =>
                                                                        if okC o156.2 14 (v3 + 1) then
                                                                        if okC o156.2 14 (v3 + 2) then
                                                                        if okC o156.2 14 (v3 + 3) then
                                                                        if okO o156.2 v2 8 then
                                                                        (f_X8_thin n v2 (X (ix (v3 + 1))) (X (ix (v3 + 2))) (X (ix (v3 + 3))) o156.2).bind fun o161 =>
                                                                        if o156.1 = o161.1 then
                                                                          f_L_law_1773 X n (f_L_law_18 X n m) v1 v2 v3 o161.2
                                                                        else
                                                                          some (0, o161.2)
                                                                        else none
                                                                        else none
                                                                        else none
                                                                        else none
                                                                        else none
                                                                        else none
                                                                        else none
                                                                        else none
                                                                      else
                                                                        if ((X (ix v3)) &&& 63) = 33 then
                                                                          if okC h 14 (v3 + 1) then
                                                                          if okC h 14 (v3 + 2) then
                                                                          if okC h 14 (v3 + 3) then
                                                                          if okC h 14 (v3 + 4) then
                                                                          if okO h v1 7 then
                                                                          (f_X7_odds n v1 (X (ix (v3 + 1))) (X (ix (v3 + 2))) (X (ix (v3 + 3))) (X (ix (v3 + 4))) h).bind fun o144 =>
                                                                          if okC o144.2 14 (v3 + 1) then
                                                                          if okC o144.2 14 (v3 + 2) then
                                                                          if okC o144.2 14 (v3 + 3) then
                                                                          if okC o144.2 14 (v3 + 4) then
                                                                          if okO o144.2 v2 8 then
                                                                          (f_X8_odds n v2 (X (ix (v3 + 1))) (X (ix (v3 + 2))) (X (ix (v3 + 3))) (X (ix (v3 + 4))) o144.2).bind fun o150 =>
                                                                          if o144.1 = o150.1 then
                                                                            f_L_law_1773 X n (f_L_law_18 X n m) v1 v2 v3 o150.2
                                                                          else
                                                                            some (0, o150.2)
                                                                          else none
                                                                          else none
                                                                          else none
                                                                          else none
                                                                          else none
                                                                          else none
                                                                          else none
                                                                          else none
                                                                          else none
                                                                          else none
                                                                        else
                                                                          if ((X (ix v3)) &&& 63) = 34 then
                                                                            if okC h 14 (v3 + 1) then
                                                                            if okC h 14 (v3 + 2) then
                                                                            if okC h 14 (v3 + 3) then
                                                                            if okO h v1 7 then
                                                                            (f_X7_record n v1 (X (ix (v3 + 1))) (X (ix (v3 + 2))) (X (ix (v3 + 3))) h).bind fun o132 =>
                                                                            if okC o132.2 14 (v3 + 1) then
                                                                            if okC o132.2 14 (v3 + 2) then
                                                                            if okC o132.2 14 (v3 + 3) then
                                                                            if okO o132.2 v2 8 then
                                                                            (f_X8_record n v2 (X (ix (v3 + 1))) (X (ix (v3 + 2))) (X (ix (v3 + 3))) o132.2).bind fun o137 =>
                                                                            if o132.1 = o137.1 then
                                                                              f_L_law_1773 X n (f_L_law_18 X n m) v1 v2 v3 o137.2
                                                                            else
                                                                              some (0, o137.2)
                                                                            else none
                                                                            else none
                                                                            else none
                                                                            else none
                                                                            else none
                                                                            else none
                                                                            else none
                                                                            else none
                                                                          else
                                                                            if ((X (ix v3)) &&& 63) = 35 then
                                                                              if okC h 14 (v3 + 1) then
                                                                              if okC h 14 (v3 + 2) then
                                                                              if okC h 14 (v3 + 3) then
                                                                              if okC h 14 (v3 + 4) then
                                                                              if okO h v1 7 then
                                                                              (f_X7_drawn n v1 (X (ix (v3 + 1))) (X (ix (v3 + 2))) (X (ix (v3 + 3))) (X (ix (v3 + 4))) h).bind fun o120 =>
                                                                              if okC o120.2 14 (v3 + 1) then
                                                                              if okC o120.2 14 (v3 + 2) then
                                                                              if okC o120.2 14 (v3 + 3) then
                                                                              if okC o120.2 14 (v3 + 4) then
                                                                              if okO o120.2 v2 8 then
                                                                              (f_X8_drawn n v2 (X (ix (v3 + 1))) (X (ix (v3 + 2))) (X (ix (v3 + 3))) (X (ix (v3 + 4))) o120.2).bind fun o126 =>
                                                                              if o120.1 = o126.1 then
                                                                                f_L_law_1773 X n (f_L_law_18 X n m) v1 v2 v3 o126.2
                                                                              else
                                                                                some (0, o126.2)
                                                                              else none
                                                                              else none
                                                                              else none
                                                                              else none
                                                                              else none
                                                                              else none
                                                                              else none
                                                                              else none
                                                                              else none
                                                                              else none
                                                                            else
                                                                              if ((X (ix v3)) &&& 63) = 36 then
                                                                                if okO h v1 7 then
                                                                                (f_X7_image v1 h).bind fun o111 =>
                                                                                if okO o111.2 v2 8 then
                                                                                (f_X8_image n v2 o111.2).bind fun o113 =>
                                                                                if o111.1 = o113.1 then
                                                                                  f_L_law_1773 X n (f_L_law_18 X n m) v1 v2 v3 o113.2
                                                                                else
                                                                                  some (0, o113.2)
                                                                                else none
                                                                                else none
                                                                              else
                                                                                if ((X (ix v3)) &&& 63) = 37 then
                                                                                  if okO h v1 7 then
                                                                                  (f_X7_back v1 h).bind fun o106 =>
                                                                                  if okO o106.2 v2 8 then
                                                                                  (f_X8_back n v2 o106.2).bind fun o108 =>
                                                                                  if o106.1 = o108.1 then
                                                                                    f_L_law_1773 X n (f_L_law_18 X n m) v1 v2 v3 o108.2
                                                                                  else
                                                                                    some (0, o108.2)
                                                                                  else none
                                                                                  else none
                                                                                else
                                                                                  if ((X (ix v3)) &&& 63) = 38 then
                                                                                    if okC h 14 (v3 + 1) then
                                                                                    if okC h 14 (v3 + 2) then
                                                                                    if okC h 14 (v3 + 3) then
                                                                                    if okO h v1 7 then
                                                                                    (f_X7_sheet n v1 (X (ix (v3 + 1))) (X (ix (v3 + 2))) (X (ix (v3 + 3))) h).bind fun o98 =>
                                                                                    if okC o98.2 14 (v3 + 1) then
                                                                                    if okC o98.2 14 (v3 + 2) then
                                                                                    if okC o98.2 14 (v3 + 3) then
                                                                                    if okO o98.2 v2 8 then
                                                                                    (f_X8_sheet n v2 (X (ix (v3 + 1))) (X (ix (v3 + 2))) (X (ix (v3 + 3))) o98.2).bind fun o103 =>
                                                                                    if o98.1 = o103.1 then
                                                                                      f_L_law_1773 X n (f_L_law_18 X n m) v1 v2 v3 o103.2
                                                                                    else
                                                                                      some (0, o103.2)
                                                                                    else none
                                                                                    else none
                                                                                    else none
                                                                                    else none
                                                                                    else none
                                                                                    else none
                                                                                    else none
                                                                                    else none
                                                                                  else
                                                                                    if ((X (ix v3)) &&& 63) = 39 then
                                                                                      if okC h 14 (v3 + 1) then
                                                                                      if okC h 14 (v3 + 2) then
                                                                                      if okC h 14 (v3 + 3) then
                                                                                      if okO h v1 7 then
                                                                                      (f_X7_cell v1 (X (ix (v3 + 1))) (X (ix (v3 + 2))) (X (ix (v3 + 3))) h).bind fun o87 =>
                                                                                      if okC o87.2 14 (v3 + 1) then
                                                                                      if okC o87.2 14 (v3 + 2) then
                                                                                      if okC o87.2 14 (v3 + 3) then
                                                                                      if okO o87.2 v2 8 then
                                                                                      (f_X8_cell v2 (X (ix (v3 + 1))) (X (ix (v3 + 2))) (X (ix (v3 + 3))) o87.2).bind fun o92 =>
                                                                                      if o87.1 = o92.1 then
                                                                                        f_L_law_1773 X n (f_L_law_18 X n m) v1 v2 v3 o92.2
                                                                                      else
                                                                                        some (0, o92.2)
                                                                                      else none
                                                                                      else none
                                                                                      else none
                                                                                      else none
                                                                                      else none
                                                                                      else none
                                                                                      else none
                                                                                      else none
                                                                                    else
                                                                                      if ((X (ix v3)) &&& 63) = 40 then
                                                                                        if okC h 14 (v3 + 1) then
                                                                                        if okC h 14 (v3 + 2) then
                                                                                        if okC h 14 (v3 + 3) then
                                                                                        if okC h 14 (v3 + 4) then
                                                                                        if okC h 14 (v3 + 5) then
                                                                                        if okO h v1 7 then
                                                                                        (f_X7_copy v1 (X (ix (v3 + 1))) (X (ix (v3 + 2))) (X (ix (v3 + 3))) (X (ix (v3 + 4))) (X (ix (v3 + 5))) h).bind fun o74 =>
                                                                                        if okC o74.2 14 (v3 + 1) then
                                                                                        if okC o74.2 14 (v3 + 2) then
                                                                                        if okC o74.2 14 (v3 + 3) then
                                                                                        if okC o74.2 14 (v3 + 4) then
                                                                                        if okC o74.2 14 (v3 + 5) then
                                                                                        if okO o74.2 v2 8 then
                                                                                        (f_X8_copy n v2 (X (ix (v3 + 1))) (X (ix (v3 + 2))) (X (ix (v3 + 3))) (X (ix (v3 + 4))) (X (ix (v3 + 5))) o74.2).bind fun o81 =>
                                                                                        if o74.1 = o81.1 then
                                                                                          f_L_law_1773 X n (f_L_law_18 X n m) v1 v2 v3 o81.2
                                                                                        else
                                                                                          some (0, o81.2)
                                                                                        else none
                                                                                        else none
                                                                                        else none
                                                                                        else none
                                                                                        else none
                                                                                        else none
                                                                                        else none
                                                                                        else none
                                                                                        else none
                                                                                        else none
                                                                                        else none
                                                                                        else none
                                                                                      else
                                                                                        if ((X (ix v3)) &&& 63) = 41 then
                                                                                          if okC h 14 (v3 + 1) then
                                                                                          if okC h 14 (v3 + 2) then
                                                                                          if okC h 14 (v3 + 3) then
                                                                                          if okC h 14 (v3 + 4) then
                                                                                          if okO h v1 7 then
                                                                                          (f_X7_stepsBy n v1 (X (ix (v3 + 1))) (X (ix (v3 + 2))) (X (ix (v3 + 3))) (X (ix (v3 + 4))) h).bind fun o60 =>
                                                                                          if okC o60.2 14 (v3 + 1) then
                                                                                          if okC o60.2 14 (v3 + 2) then
                                                                                          if okC o60.2 14 (v3 + 3) then
                                                                                          if okC o60.2 14 (v3 + 4) then
                                                                                          if okO o60.2 v2 8 then
                                                                                          (f_X8_stepsBy n v2 (X (ix (v3 + 1))) (X (ix (v3 + 2))) (X (ix (v3 + 3))) (X (ix (v3 + 4))) o60.2).bind fun o66 =>
                                                                                          if o60.1 = o66.1 then
                                                                                            f_L_law_1773 X n (f_L_law_18 X n m) v1 v2 v3 o66.2
                                                                                          else
                                                                                            some (0, o66.2)
                                                                                          else none
                                                                                          else none
                                                                                          else none
                                                                                          else none
                                                                                          else none
                                                                                          else none
                                                                                          else none
                                                                                          else none
                                                                                          else none
                                                                                          else none
                                                                                        else
                                                                                          if ((X (ix v3)) &&& 63) = 42 then
                                                                                            if okC h 14 (v3 + 1) then
                                                                                            if okC h 14 (v3 + 2) then
                                                                                            if okO h v1 7 then
                                                                                            (f_X7_taken n v1 (X (ix (v3 + 1))) (X (ix (v3 + 2))) h).bind fun o49 =>
                                                                                            if okC o49.2 14 (v3 + 1) then
                                                                                            if okC o49.2 14 (v3 + 2) then
                                                                                            if okO o49.2 v2 8 then
                                                                                            (f_X8_taken v2 (X (ix (v3 + 1))) (X (ix (v3 + 2))) o49.2).bind fun o53 =>
                                                                                            if o49.1 = o53.1 then
                                                                                              f_L_law_1773 X n (f_L_law_18 X n m) v1 v2 v3 o53.2
                                                                                            else
                                                                                              some (0, o53.2)
                                                                                            else none
                                                                                            else none
                                                                                            else none
                                                                                            else none
                                                                                            else none
                                                                                            else none
                                                                                          else
                                                                                            f_L_law_1773 X n (f_L_law_18 X n m) v1 v2 v3 h
      else none
    else none
set_option maxRecDepth 100000 in
set_option maxHeartbeats 4000000 in
theorem r_L_law_18 {X : Nat → Int32} {d : Nat} (hd : 110 ≤ (d + 1)) {n : Nat} : ∀ (m : Nat) (v1 : Nat) (v2 : Nat) (v3 : Int32) (h : Hp) (o : (Int32 × Hp)), f_L_law_18 X n m v1 v2 v3 h = some o → Run X (d + 1) 0 18 [some (.ref 14), some (.ref v1), some (.ref v2), some (.int v3)] [] h (some (.int o.1), o.2) := by
  intro m
  induction m with
  | zero => intro v1 v2 v3 h o hf; cases hf
  | succ m ih =>
    intro v1 v2 v3 h o hf
    rw [f_L_law_18] at hf
    refine rs_iload_n i_L_law_18 rfl ?_
    refine rs_aload_n i_L_law_19 rfl ?_
    obtain ⟨c1, hf⟩ := ite_some hf
    refine rs_alC i_L_law_20 c1 ?_
    refine rs_bipush i_L_law_21 (v := 6) (by decide) ?_
    refine rs_isub i_L_law_23 ?_
    by_cases c2 : ((Int32.ofNat (hk h 14).2) - 6) < v3
    · replace hf := (if_pos c2).symm.trans hf
      refine rs_icT i_L_law_24 (ct_gt c2) (tg := 1779) (by decide) ?_
      refine rs_iconst i_L_law_1779 (v := 1) (by decide) ?_
      have hf := Option.some.inj hf
      subst hf
      exact rs_iret i_L_law_1780 m_L_law (by decide)
    · replace hf := (if_neg c2).symm.trans hf
      refine rs_icF i_L_law_24 (cf_gt c2) ?_
      refine rs_aload_n i_L_law_27 rfl ?_
      refine rs_iload_n i_L_law_28 rfl ?_
      obtain ⟨c3, hf⟩ := ite_some hf
      refine rs_ialdS i_L_law_29 c3 ?_
      refine rs_bipush i_L_law_30 (v := 63) (by decide) ?_
      refine rs_iand i_L_law_32 ?_
      by_cases c4 : ((X (ix v3)) &&& 63) = 0
      · replace hf := (if_pos c4).symm.trans hf
        refine rs_tsw i_L_law_33 (off := 187) (by rw [c4]; decide) (tg := 220) (by decide) ?_
        refine rs_aload_n i_L_law_220 rfl ?_
        refine rs_aload_n i_L_law_221 rfl ?_
        refine rs_iload_n i_L_law_222 rfl ?_
        refine rs_iconst i_L_law_223 (v := 1) (by decide) ?_
        refine rs_iadd i_L_law_224 ?_
        obtain ⟨c445, hf⟩ := ite_some hf
        refine rs_ialdS i_L_law_225 c445 ?_
        refine rs_aload_n i_L_law_226 rfl ?_
        refine rs_iload_n i_L_law_227 rfl ?_
        refine rs_iconst i_L_law_228 (v := 2) (by decide) ?_
        refine rs_iadd i_L_law_229 ?_
        obtain ⟨c446, hf⟩ := ite_some hf
        refine rs_ialdS i_L_law_230 c446 ?_
        refine rs_aload_n i_L_law_231 rfl ?_
        refine rs_iload_n i_L_law_232 rfl ?_
        refine rs_iconst i_L_law_233 (v := 3) (by decide) ?_
        refine rs_iadd i_L_law_234 ?_
        obtain ⟨c447, hf⟩ := ite_some hf
        refine rs_ialdS i_L_law_235 c447 ?_
        obtain ⟨c449, hf⟩ := ite_some hf
        obtain ⟨o448, e448, hf⟩ := bind_some hf
        refine rs_inV i_L_law_236 m_X7_roll rfl (As := [.int (X (ix (v3 + 1))), .int (X (ix (v3 + 2))), .int (X (ix (v3 + 3)))]) (rest := []) rfl rfl (Nat.le_of_ble_eq_true rfl) c449 (c_X7_roll (by omega) e448) (st' := [.int o448.1]) rfl ?_
        refine rs_aload_n i_L_law_239 rfl ?_
        refine rs_aload_n i_L_law_240 rfl ?_
        refine rs_iload_n i_L_law_241 rfl ?_
        refine rs_iconst i_L_law_242 (v := 1) (by decide) ?_
        refine rs_iadd i_L_law_243 ?_
        obtain ⟨c450, hf⟩ := ite_some hf
        refine rs_ialdS i_L_law_244 c450 ?_
        refine rs_aload_n i_L_law_245 rfl ?_
        refine rs_iload_n i_L_law_246 rfl ?_
        refine rs_iconst i_L_law_247 (v := 2) (by decide) ?_
        refine rs_iadd i_L_law_248 ?_
        obtain ⟨c451, hf⟩ := ite_some hf
        refine rs_ialdS i_L_law_249 c451 ?_
        refine rs_aload_n i_L_law_250 rfl ?_
        refine rs_iload_n i_L_law_251 rfl ?_
        refine rs_iconst i_L_law_252 (v := 3) (by decide) ?_
        refine rs_iadd i_L_law_253 ?_
        obtain ⟨c452, hf⟩ := ite_some hf
        refine rs_ialdS i_L_law_254 c452 ?_
        obtain ⟨c454, hf⟩ := ite_some hf
        obtain ⟨o453, e453, hf⟩ := bind_some hf
        refine rs_inV i_L_law_255 m_X8_roll rfl (As := [.int (X (ix (v3 + 1))), .int (X (ix (v3 + 2))), .int (X (ix (v3 + 3)))]) (rest := [.int o448.1]) rfl rfl (Nat.le_of_ble_eq_true rfl) c454 (c_X8_roll (by omega) e453) (st' := [.int o453.1, .int o448.1]) rfl ?_
        by_cases c455 : o448.1 = o453.1
        · replace hf := (if_pos c455).symm.trans hf
          refine rs_icT i_L_law_258 (ct_eq c455) (tg := 1773) (by decide) ?_
          exact r_L_law_1773 hd ih hf
        · replace hf := (if_neg c455).symm.trans hf
          refine rs_icF i_L_law_258 (cf_eq c455) ?_
          refine rs_iconst i_L_law_261 (v := 0) (by decide) ?_
          have hf := Option.some.inj hf
          subst hf
          exact rs_iret i_L_law_262 m_L_law (by decide)
      · replace hf := (if_neg c4).symm.trans hf
        by_cases c5 : ((X (ix v3)) &&& 63) = 1
        · replace hf := (if_pos c5).symm.trans hf
          refine rs_tsw i_L_law_33 (off := 230) (by rw [c5]; decide) (tg := 263) (by decide) ?_
          refine rs_aload_n i_L_law_263 rfl ?_
          refine rs_aload_n i_L_law_264 rfl ?_
          refine rs_iload_n i_L_law_265 rfl ?_
          refine rs_iconst i_L_law_266 (v := 1) (by decide) ?_
          refine rs_iadd i_L_law_267 ?_
          obtain ⟨c436, hf⟩ := ite_some hf
          refine rs_ialdS i_L_law_268 c436 ?_
          refine rs_aload_n i_L_law_269 rfl ?_
          refine rs_iload_n i_L_law_270 rfl ?_
          refine rs_iconst i_L_law_271 (v := 2) (by decide) ?_
          refine rs_iadd i_L_law_272 ?_
          obtain ⟨c437, hf⟩ := ite_some hf
          refine rs_ialdS i_L_law_273 c437 ?_
          obtain ⟨c439, hf⟩ := ite_some hf
          obtain ⟨o438, e438, hf⟩ := bind_some hf
          refine rs_inV i_L_law_274 m_X7_set rfl (As := [.int (X (ix (v3 + 1))), .int (X (ix (v3 + 2)))]) (rest := []) rfl rfl (Nat.le_of_ble_eq_true rfl) c439 (c_X7_set (by omega) e438) (st' := [.int o438.1]) rfl ?_
          refine rs_aload_n i_L_law_277 rfl ?_
          refine rs_aload_n i_L_law_278 rfl ?_
          refine rs_iload_n i_L_law_279 rfl ?_
          refine rs_iconst i_L_law_280 (v := 1) (by decide) ?_
          refine rs_iadd i_L_law_281 ?_
          obtain ⟨c440, hf⟩ := ite_some hf
          refine rs_ialdS i_L_law_282 c440 ?_
          refine rs_aload_n i_L_law_283 rfl ?_
          refine rs_iload_n i_L_law_284 rfl ?_
          refine rs_iconst i_L_law_285 (v := 2) (by decide) ?_
          refine rs_iadd i_L_law_286 ?_
          obtain ⟨c441, hf⟩ := ite_some hf
          refine rs_ialdS i_L_law_287 c441 ?_
          obtain ⟨c443, hf⟩ := ite_some hf
          obtain ⟨o442, e442, hf⟩ := bind_some hf
          refine rs_inV i_L_law_288 m_X8_set rfl (As := [.int (X (ix (v3 + 1))), .int (X (ix (v3 + 2)))]) (rest := [.int o438.1]) rfl rfl (Nat.le_of_ble_eq_true rfl) c443 (c_X8_set (by omega) e442) (st' := [.int o442.1, .int o438.1]) rfl ?_
          by_cases c444 : o438.1 = o442.1
          · replace hf := (if_pos c444).symm.trans hf
            refine rs_icT i_L_law_291 (ct_eq c444) (tg := 1773) (by decide) ?_
            exact r_L_law_1773 hd ih hf
          · replace hf := (if_neg c444).symm.trans hf
            refine rs_icF i_L_law_291 (cf_eq c444) ?_
            refine rs_iconst i_L_law_294 (v := 0) (by decide) ?_
            have hf := Option.some.inj hf
            subst hf
            exact rs_iret i_L_law_295 m_L_law (by decide)
        · replace hf := (if_neg c5).symm.trans hf
          by_cases c6 : ((X (ix v3)) &&& 63) = 2
          · replace hf := (if_pos c6).symm.trans hf
            refine rs_tsw i_L_law_33 (off := 263) (by rw [c6]; decide) (tg := 296) (by decide) ?_
            refine rs_aload_n i_L_law_296 rfl ?_
            refine rs_aload_n i_L_law_297 rfl ?_
            refine rs_iload_n i_L_law_298 rfl ?_
            refine rs_iconst i_L_law_299 (v := 1) (by decide) ?_
            refine rs_iadd i_L_law_300 ?_
            obtain ⟨c429, hf⟩ := ite_some hf
            refine rs_ialdS i_L_law_301 c429 ?_
            obtain ⟨c431, hf⟩ := ite_some hf
            obtain ⟨o430, e430, hf⟩ := bind_some hf
            refine rs_inV i_L_law_302 m_X7_count rfl (As := [.int (X (ix (v3 + 1)))]) (rest := []) rfl rfl (Nat.le_of_ble_eq_true rfl) c431 (c_X7_count (by omega) e430) (st' := [.int o430.1]) rfl ?_
            refine rs_aload_n i_L_law_305 rfl ?_
            refine rs_aload_n i_L_law_306 rfl ?_
            refine rs_iload_n i_L_law_307 rfl ?_
            refine rs_iconst i_L_law_308 (v := 1) (by decide) ?_
            refine rs_iadd i_L_law_309 ?_
            obtain ⟨c432, hf⟩ := ite_some hf
            refine rs_ialdS i_L_law_310 c432 ?_
            obtain ⟨c434, hf⟩ := ite_some hf
            obtain ⟨o433, e433, hf⟩ := bind_some hf
            refine rs_inV i_L_law_311 m_X8_count rfl (As := [.int (X (ix (v3 + 1)))]) (rest := [.int o430.1]) rfl rfl (Nat.le_of_ble_eq_true rfl) c434 (c_X8_count (by omega) e433) (st' := [.int o433.1, .int o430.1]) rfl ?_
            by_cases c435 : o430.1 = o433.1
            · replace hf := (if_pos c435).symm.trans hf
              refine rs_icT i_L_law_314 (ct_eq c435) (tg := 1773) (by decide) ?_
              exact r_L_law_1773 hd ih hf
            · replace hf := (if_neg c435).symm.trans hf
              refine rs_icF i_L_law_314 (cf_eq c435) ?_
              refine rs_iconst i_L_law_317 (v := 0) (by decide) ?_
              have hf := Option.some.inj hf
              subst hf
              exact rs_iret i_L_law_318 m_L_law (by decide)
          · replace hf := (if_neg c6).symm.trans hf
            by_cases c7 : ((X (ix v3)) &&& 63) = 3
            · replace hf := (if_pos c7).symm.trans hf
              refine rs_tsw i_L_law_33 (off := 286) (by rw [c7]; decide) (tg := 319) (by decide) ?_
              refine rs_aload_n i_L_law_319 rfl ?_
              refine rs_aload_n i_L_law_320 rfl ?_
              refine rs_iload_n i_L_law_321 rfl ?_
              refine rs_iconst i_L_law_322 (v := 1) (by decide) ?_
              refine rs_iadd i_L_law_323 ?_
              obtain ⟨c418, hf⟩ := ite_some hf
              refine rs_ialdS i_L_law_324 c418 ?_
              refine rs_i2l i_L_law_325 ?_
              refine rs_bipush i_L_law_326 (v := 32) (by decide) ?_
              refine rs_lshl i_L_law_328 ?_
              refine rs_aload_n i_L_law_329 rfl ?_
              refine rs_iload_n i_L_law_330 rfl ?_
              refine rs_iconst i_L_law_331 (v := 2) (by decide) ?_
              refine rs_iadd i_L_law_332 ?_
              obtain ⟨c419, hf⟩ := ite_some hf
              refine rs_ialdS i_L_law_333 c419 ?_
              refine rs_i2l i_L_law_334 ?_
              refine rs_ldc2 i_L_law_335 (v := 4294967295) (by decide) ?_
              refine rs_land i_L_law_338 ?_
              refine rs_lor i_L_law_339 ?_
              refine rs_aload_n i_L_law_340 rfl ?_
              refine rs_iload_n i_L_law_341 rfl ?_
              refine rs_iconst i_L_law_342 (v := 3) (by decide) ?_
              refine rs_iadd i_L_law_343 ?_
              obtain ⟨c420, hf⟩ := ite_some hf
              refine rs_ialdS i_L_law_344 c420 ?_
              obtain ⟨c422, hf⟩ := ite_some hf
              obtain ⟨o421, e421, hf⟩ := bind_some hf
              refine rs_inV i_L_law_345 m_X7_feed rfl (As := [.long (((Int32.toInt64 (X (ix (v3 + 1)))) <<< (Int32.toInt64 32 &&& 63)) ||| ((Int32.toInt64 (X (ix (v3 + 2)))) &&& 4294967295)), .int (X (ix (v3 + 3)))]) (rest := []) rfl rfl (Nat.le_of_ble_eq_true rfl) c422 (c_X7_feed (by omega) e421) (st' := [.int o421.1]) rfl ?_
              refine rs_aload_n i_L_law_348 rfl ?_
              refine rs_aload_n i_L_law_349 rfl ?_
              refine rs_iload_n i_L_law_350 rfl ?_
              refine rs_iconst i_L_law_351 (v := 1) (by decide) ?_
              refine rs_iadd i_L_law_352 ?_
              obtain ⟨c423, hf⟩ := ite_some hf
              refine rs_ialdS i_L_law_353 c423 ?_
              refine rs_i2l i_L_law_354 ?_
              refine rs_bipush i_L_law_355 (v := 32) (by decide) ?_
              refine rs_lshl i_L_law_357 ?_
              refine rs_aload_n i_L_law_358 rfl ?_
              refine rs_iload_n i_L_law_359 rfl ?_
              refine rs_iconst i_L_law_360 (v := 2) (by decide) ?_
              refine rs_iadd i_L_law_361 ?_
              obtain ⟨c424, hf⟩ := ite_some hf
              refine rs_ialdS i_L_law_362 c424 ?_
              refine rs_i2l i_L_law_363 ?_
              refine rs_ldc2 i_L_law_364 (v := 4294967295) (by decide) ?_
              refine rs_land i_L_law_367 ?_
              refine rs_lor i_L_law_368 ?_
              refine rs_aload_n i_L_law_369 rfl ?_
              refine rs_iload_n i_L_law_370 rfl ?_
              refine rs_iconst i_L_law_371 (v := 3) (by decide) ?_
              refine rs_iadd i_L_law_372 ?_
              obtain ⟨c425, hf⟩ := ite_some hf
              refine rs_ialdS i_L_law_373 c425 ?_
              obtain ⟨c427, hf⟩ := ite_some hf
              obtain ⟨o426, e426, hf⟩ := bind_some hf
              refine rs_inV i_L_law_374 m_X8_feed rfl (As := [.long (((Int32.toInt64 (X (ix (v3 + 1)))) <<< (Int32.toInt64 32 &&& 63)) ||| ((Int32.toInt64 (X (ix (v3 + 2)))) &&& 4294967295)), .int (X (ix (v3 + 3)))]) (rest := [.int o421.1]) rfl rfl (Nat.le_of_ble_eq_true rfl) c427 (c_X8_feed (by omega) e426) (st' := [.int o426.1, .int o421.1]) rfl ?_
              by_cases c428 : o421.1 = o426.1
              · replace hf := (if_pos c428).symm.trans hf
                refine rs_icT i_L_law_377 (ct_eq c428) (tg := 1773) (by decide) ?_
                exact r_L_law_1773 hd ih hf
              · replace hf := (if_neg c428).symm.trans hf
                refine rs_icF i_L_law_377 (cf_eq c428) ?_
                refine rs_iconst i_L_law_380 (v := 0) (by decide) ?_
                have hf := Option.some.inj hf
                subst hf
                exact rs_iret i_L_law_381 m_L_law (by decide)
            · replace hf := (if_neg c7).symm.trans hf
              by_cases c8 : ((X (ix v3)) &&& 63) = 4
              · replace hf := (if_pos c8).symm.trans hf
                refine rs_tsw i_L_law_33 (off := 349) (by rw [c8]; decide) (tg := 382) (by decide) ?_
                refine rs_aload_n i_L_law_382 rfl ?_
                obtain ⟨c414, hf⟩ := ite_some hf
                obtain ⟨o413, e413, hf⟩ := bind_some hf
                refine rs_inV i_L_law_383 m_X7_text rfl (As := []) (rest := []) rfl rfl (Nat.le_of_ble_eq_true rfl) c414 (c_X7_text (by omega) e413) (st' := [.int o413.1]) rfl ?_
                refine rs_aload_n i_L_law_386 rfl ?_
                obtain ⟨c416, hf⟩ := ite_some hf
                obtain ⟨o415, e415, hf⟩ := bind_some hf
                refine rs_inV i_L_law_387 m_X8_text rfl (As := []) (rest := [.int o413.1]) rfl rfl (Nat.le_of_ble_eq_true rfl) c416 (c_X8_text (by omega) e415) (st' := [.int o415.1, .int o413.1]) rfl ?_
                by_cases c417 : o413.1 = o415.1
                · replace hf := (if_pos c417).symm.trans hf
                  refine rs_icT i_L_law_390 (ct_eq c417) (tg := 1773) (by decide) ?_
                  exact r_L_law_1773 hd ih hf
                · replace hf := (if_neg c417).symm.trans hf
                  refine rs_icF i_L_law_390 (cf_eq c417) ?_
                  refine rs_iconst i_L_law_393 (v := 0) (by decide) ?_
                  have hf := Option.some.inj hf
                  subst hf
                  exact rs_iret i_L_law_394 m_L_law (by decide)
              · replace hf := (if_neg c8).symm.trans hf
                by_cases c9 : ((X (ix v3)) &&& 63) = 5
                · replace hf := (if_pos c9).symm.trans hf
                  refine rs_tsw i_L_law_33 (off := 362) (by rw [c9]; decide) (tg := 395) (by decide) ?_
                  refine rs_aload_n i_L_law_395 rfl ?_
                  refine rs_aload_n i_L_law_396 rfl ?_
                  refine rs_iload_n i_L_law_397 rfl ?_
                  refine rs_iconst i_L_law_398 (v := 1) (by decide) ?_
                  refine rs_iadd i_L_law_399 ?_
                  obtain ⟨c406, hf⟩ := ite_some hf
                  refine rs_ialdS i_L_law_400 c406 ?_
                  obtain ⟨c408, hf⟩ := ite_some hf
                  obtain ⟨o407, e407, hf⟩ := bind_some hf
                  refine rs_inV i_L_law_401 m_X7_force rfl (As := [.int (X (ix (v3 + 1)))]) (rest := []) rfl rfl (Nat.le_of_ble_eq_true rfl) c408 (c_X7_force (by omega) e407) (st' := [.int o407.1]) rfl ?_
                  refine rs_aload_n i_L_law_404 rfl ?_
                  refine rs_aload_n i_L_law_405 rfl ?_
                  refine rs_iload_n i_L_law_406 rfl ?_
                  refine rs_iconst i_L_law_407 (v := 1) (by decide) ?_
                  refine rs_iadd i_L_law_408 ?_
                  obtain ⟨c409, hf⟩ := ite_some hf
                  refine rs_ialdS i_L_law_409 c409 ?_
                  obtain ⟨c411, hf⟩ := ite_some hf
                  obtain ⟨o410, e410, hf⟩ := bind_some hf
                  refine rs_inV i_L_law_410 m_X8_force rfl (As := [.int (X (ix (v3 + 1)))]) (rest := [.int o407.1]) rfl rfl (Nat.le_of_ble_eq_true rfl) c411 (c_X8_force (by omega) e410) (st' := [.int o410.1, .int o407.1]) rfl ?_
                  by_cases c412 : o407.1 = o410.1
                  · replace hf := (if_pos c412).symm.trans hf
                    refine rs_icT i_L_law_413 (ct_eq c412) (tg := 1773) (by decide) ?_
                    exact r_L_law_1773 hd ih hf
                  · replace hf := (if_neg c412).symm.trans hf
                    refine rs_icF i_L_law_413 (cf_eq c412) ?_
                    refine rs_iconst i_L_law_416 (v := 0) (by decide) ?_
                    have hf := Option.some.inj hf
                    subst hf
                    exact rs_iret i_L_law_417 m_L_law (by decide)
                · replace hf := (if_neg c9).symm.trans hf
                  by_cases c10 : ((X (ix v3)) &&& 63) = 6
                  · replace hf := (if_pos c10).symm.trans hf
                    refine rs_tsw i_L_law_33 (off := 385) (by rw [c10]; decide) (tg := 418) (by decide) ?_
                    refine rs_aload_n i_L_law_418 rfl ?_
                    refine rs_aload_n i_L_law_419 rfl ?_
                    refine rs_iload_n i_L_law_420 rfl ?_
                    refine rs_iconst i_L_law_421 (v := 1) (by decide) ?_
                    refine rs_iadd i_L_law_422 ?_
                    obtain ⟨c395, hf⟩ := ite_some hf
                    refine rs_ialdS i_L_law_423 c395 ?_
                    refine rs_aload_n i_L_law_424 rfl ?_
                    refine rs_iload_n i_L_law_425 rfl ?_
                    refine rs_iconst i_L_law_426 (v := 2) (by decide) ?_
                    refine rs_iadd i_L_law_427 ?_
                    obtain ⟨c396, hf⟩ := ite_some hf
                    refine rs_ialdS i_L_law_428 c396 ?_
                    refine rs_aload_n i_L_law_429 rfl ?_
                    refine rs_iload_n i_L_law_430 rfl ?_
                    refine rs_iconst i_L_law_431 (v := 3) (by decide) ?_
                    refine rs_iadd i_L_law_432 ?_
                    obtain ⟨c397, hf⟩ := ite_some hf
                    refine rs_ialdS i_L_law_433 c397 ?_
                    obtain ⟨c399, hf⟩ := ite_some hf
                    obtain ⟨o398, e398, hf⟩ := bind_some hf
                    refine rs_inV i_L_law_434 m_X7_step rfl (As := [.int (X (ix (v3 + 1))), .int (X (ix (v3 + 2))), .int (X (ix (v3 + 3)))]) (rest := []) rfl rfl (Nat.le_of_ble_eq_true rfl) c399 (c_X7_step (by omega) e398) (st' := [.int o398.1]) rfl ?_
                    refine rs_aload_n i_L_law_437 rfl ?_
                    refine rs_aload_n i_L_law_438 rfl ?_
                    refine rs_iload_n i_L_law_439 rfl ?_
                    refine rs_iconst i_L_law_440 (v := 1) (by decide) ?_
                    refine rs_iadd i_L_law_441 ?_
                    obtain ⟨c400, hf⟩ := ite_some hf
                    refine rs_ialdS i_L_law_442 c400 ?_
                    refine rs_aload_n i_L_law_443 rfl ?_
                    refine rs_iload_n i_L_law_444 rfl ?_
                    refine rs_iconst i_L_law_445 (v := 2) (by decide) ?_
                    refine rs_iadd i_L_law_446 ?_
                    obtain ⟨c401, hf⟩ := ite_some hf
                    refine rs_ialdS i_L_law_447 c401 ?_
                    refine rs_aload_n i_L_law_448 rfl ?_
                    refine rs_iload_n i_L_law_449 rfl ?_
                    refine rs_iconst i_L_law_450 (v := 3) (by decide) ?_
                    refine rs_iadd i_L_law_451 ?_
                    obtain ⟨c402, hf⟩ := ite_some hf
                    refine rs_ialdS i_L_law_452 c402 ?_
                    obtain ⟨c404, hf⟩ := ite_some hf
                    obtain ⟨o403, e403, hf⟩ := bind_some hf
                    refine rs_inV i_L_law_453 m_X8_step rfl (As := [.int (X (ix (v3 + 1))), .int (X (ix (v3 + 2))), .int (X (ix (v3 + 3)))]) (rest := [.int o398.1]) rfl rfl (Nat.le_of_ble_eq_true rfl) c404 (c_X8_step (by omega) e403) (st' := [.int o403.1, .int o398.1]) rfl ?_
                    by_cases c405 : o398.1 = o403.1
                    · replace hf := (if_pos c405).symm.trans hf
                      refine rs_icT i_L_law_456 (ct_eq c405) (tg := 1773) (by decide) ?_
                      exact r_L_law_1773 hd ih hf
                    · replace hf := (if_neg c405).symm.trans hf
                      refine rs_icF i_L_law_456 (cf_eq c405) ?_
                      refine rs_iconst i_L_law_459 (v := 0) (by decide) ?_
                      have hf := Option.some.inj hf
                      subst hf
                      exact rs_iret i_L_law_460 m_L_law (by decide)
                  · replace hf := (if_neg c10).symm.trans hf
                    by_cases c11 : ((X (ix v3)) &&& 63) = 7
                    · replace hf := (if_pos c11).symm.trans hf
                      refine rs_tsw i_L_law_33 (off := 428) (by rw [c11]; decide) (tg := 461) (by decide) ?_
                      refine rs_aload_n i_L_law_461 rfl ?_
                      obtain ⟨c391, hf⟩ := ite_some hf
                      obtain ⟨o390, e390, hf⟩ := bind_some hf
                      refine rs_inV i_L_law_462 m_X7_forget rfl (As := []) (rest := []) rfl rfl (Nat.le_of_ble_eq_true rfl) c391 (c_X7_forget (by omega) e390) (st' := [.int o390.1]) rfl ?_
                      refine rs_aload_n i_L_law_465 rfl ?_
                      obtain ⟨c393, hf⟩ := ite_some hf
                      obtain ⟨o392, e392, hf⟩ := bind_some hf
                      refine rs_inV i_L_law_466 m_X8_forget rfl (As := []) (rest := [.int o390.1]) rfl rfl (Nat.le_of_ble_eq_true rfl) c393 (c_X8_forget (by omega) e392) (st' := [.int o392.1, .int o390.1]) rfl ?_
                      by_cases c394 : o390.1 = o392.1
                      · replace hf := (if_pos c394).symm.trans hf
                        refine rs_icT i_L_law_469 (ct_eq c394) (tg := 1773) (by decide) ?_
                        exact r_L_law_1773 hd ih hf
                      · replace hf := (if_neg c394).symm.trans hf
                        refine rs_icF i_L_law_469 (cf_eq c394) ?_
                        refine rs_iconst i_L_law_472 (v := 0) (by decide) ?_
                        have hf := Option.some.inj hf
                        subst hf
                        exact rs_iret i_L_law_473 m_L_law (by decide)
                    · replace hf := (if_neg c11).symm.trans hf
                      by_cases c12 : ((X (ix v3)) &&& 63) = 8
                      · replace hf := (if_pos c12).symm.trans hf
                        refine rs_tsw i_L_law_33 (off := 441) (by rw [c12]; decide) (tg := 474) (by decide) ?_
                        refine rs_aload_n i_L_law_474 rfl ?_
                        refine rs_aload_n i_L_law_475 rfl ?_
                        refine rs_iload_n i_L_law_476 rfl ?_
                        refine rs_iconst i_L_law_477 (v := 1) (by decide) ?_
                        refine rs_iadd i_L_law_478 ?_
                        obtain ⟨c381, hf⟩ := ite_some hf
                        refine rs_ialdS i_L_law_479 c381 ?_
                        refine rs_aload_n i_L_law_480 rfl ?_
                        refine rs_iload_n i_L_law_481 rfl ?_
                        refine rs_iconst i_L_law_482 (v := 2) (by decide) ?_
                        refine rs_iadd i_L_law_483 ?_
                        obtain ⟨c382, hf⟩ := ite_some hf
                        refine rs_ialdS i_L_law_484 c382 ?_
                        obtain ⟨c384, hf⟩ := ite_some hf
                        obtain ⟨o383, e383, hf⟩ := bind_some hf
                        refine rs_inV i_L_law_485 m_X7_stepTold rfl (As := [.int (X (ix (v3 + 1))), .int (X (ix (v3 + 2)))]) (rest := []) rfl rfl (Nat.le_of_ble_eq_true rfl) c384 (c_X7_stepTold (by omega) e383) (st' := [.int o383.1]) rfl ?_
                        refine rs_aload_n i_L_law_488 rfl ?_
                        refine rs_aload_n i_L_law_489 rfl ?_
                        refine rs_iload_n i_L_law_490 rfl ?_
                        refine rs_iconst i_L_law_491 (v := 1) (by decide) ?_
                        refine rs_iadd i_L_law_492 ?_
                        obtain ⟨c385, hf⟩ := ite_some hf
                        refine rs_ialdS i_L_law_493 c385 ?_
                        refine rs_aload_n i_L_law_494 rfl ?_
                        refine rs_iload_n i_L_law_495 rfl ?_
                        refine rs_iconst i_L_law_496 (v := 2) (by decide) ?_
                        refine rs_iadd i_L_law_497 ?_
                        obtain ⟨c386, hf⟩ := ite_some hf
                        refine rs_ialdS i_L_law_498 c386 ?_
                        obtain ⟨c388, hf⟩ := ite_some hf
                        obtain ⟨o387, e387, hf⟩ := bind_some hf
                        refine rs_inV i_L_law_499 m_X8_stepTold rfl (As := [.int (X (ix (v3 + 1))), .int (X (ix (v3 + 2)))]) (rest := [.int o383.1]) rfl rfl (Nat.le_of_ble_eq_true rfl) c388 (c_X8_stepTold (by omega) e387) (st' := [.int o387.1, .int o383.1]) rfl ?_
                        by_cases c389 : o383.1 = o387.1
                        · replace hf := (if_pos c389).symm.trans hf
                          refine rs_icT i_L_law_502 (ct_eq c389) (tg := 1773) (by decide) ?_
                          exact r_L_law_1773 hd ih hf
                        · replace hf := (if_neg c389).symm.trans hf
                          refine rs_icF i_L_law_502 (cf_eq c389) ?_
                          refine rs_iconst i_L_law_505 (v := 0) (by decide) ?_
                          have hf := Option.some.inj hf
                          subst hf
                          exact rs_iret i_L_law_506 m_L_law (by decide)
                      · replace hf := (if_neg c12).symm.trans hf
                        by_cases c13 : ((X (ix v3)) &&& 63) = 9
                        · replace hf := (if_pos c13).symm.trans hf
                          refine rs_tsw i_L_law_33 (off := 474) (by rw [c13]; decide) (tg := 507) (by decide) ?_
                          refine rs_aload_n i_L_law_507 rfl ?_
                          refine rs_aload_n i_L_law_508 rfl ?_
                          refine rs_iload_n i_L_law_509 rfl ?_
                          refine rs_iconst i_L_law_510 (v := 1) (by decide) ?_
                          refine rs_iadd i_L_law_511 ?_
                          obtain ⟨c370, hf⟩ := ite_some hf
                          refine rs_ialdS i_L_law_512 c370 ?_
                          refine rs_aload_n i_L_law_513 rfl ?_
                          refine rs_iload_n i_L_law_514 rfl ?_
                          refine rs_iconst i_L_law_515 (v := 2) (by decide) ?_
                          refine rs_iadd i_L_law_516 ?_
                          obtain ⟨c371, hf⟩ := ite_some hf
                          refine rs_ialdS i_L_law_517 c371 ?_
                          refine rs_aload_n i_L_law_518 rfl ?_
                          refine rs_iload_n i_L_law_519 rfl ?_
                          refine rs_iconst i_L_law_520 (v := 3) (by decide) ?_
                          refine rs_iadd i_L_law_521 ?_
                          obtain ⟨c372, hf⟩ := ite_some hf
                          refine rs_ialdS i_L_law_522 c372 ?_
                          obtain ⟨c374, hf⟩ := ite_some hf
                          obtain ⟨o373, e373, hf⟩ := bind_some hf
                          refine rs_inV i_L_law_523 m_X7_rope rfl (As := [.int (X (ix (v3 + 1))), .int (X (ix (v3 + 2))), .int (X (ix (v3 + 3)))]) (rest := []) rfl rfl (Nat.le_of_ble_eq_true rfl) c374 (c_X7_rope (by omega) e373) (st' := [.int o373.1]) rfl ?_
                          refine rs_aload_n i_L_law_526 rfl ?_
                          refine rs_aload_n i_L_law_527 rfl ?_
                          refine rs_iload_n i_L_law_528 rfl ?_
                          refine rs_iconst i_L_law_529 (v := 1) (by decide) ?_
                          refine rs_iadd i_L_law_530 ?_
                          obtain ⟨c375, hf⟩ := ite_some hf
                          refine rs_ialdS i_L_law_531 c375 ?_
                          refine rs_aload_n i_L_law_532 rfl ?_
                          refine rs_iload_n i_L_law_533 rfl ?_
                          refine rs_iconst i_L_law_534 (v := 2) (by decide) ?_
                          refine rs_iadd i_L_law_535 ?_
                          obtain ⟨c376, hf⟩ := ite_some hf
                          refine rs_ialdS i_L_law_536 c376 ?_
                          refine rs_aload_n i_L_law_537 rfl ?_
                          refine rs_iload_n i_L_law_538 rfl ?_
                          refine rs_iconst i_L_law_539 (v := 3) (by decide) ?_
                          refine rs_iadd i_L_law_540 ?_
                          obtain ⟨c377, hf⟩ := ite_some hf
                          refine rs_ialdS i_L_law_541 c377 ?_
                          obtain ⟨c379, hf⟩ := ite_some hf
                          obtain ⟨o378, e378, hf⟩ := bind_some hf
                          refine rs_inV i_L_law_542 m_X8_rope rfl (As := [.int (X (ix (v3 + 1))), .int (X (ix (v3 + 2))), .int (X (ix (v3 + 3)))]) (rest := [.int o373.1]) rfl rfl (Nat.le_of_ble_eq_true rfl) c379 (c_X8_rope (by omega) e378) (st' := [.int o378.1, .int o373.1]) rfl ?_
                          by_cases c380 : o373.1 = o378.1
                          · replace hf := (if_pos c380).symm.trans hf
                            refine rs_icT i_L_law_545 (ct_eq c380) (tg := 1773) (by decide) ?_
                            exact r_L_law_1773 hd ih hf
                          · replace hf := (if_neg c380).symm.trans hf
                            refine rs_icF i_L_law_545 (cf_eq c380) ?_
                            refine rs_iconst i_L_law_548 (v := 0) (by decide) ?_
                            have hf := Option.some.inj hf
                            subst hf
                            exact rs_iret i_L_law_549 m_L_law (by decide)
                        · replace hf := (if_neg c13).symm.trans hf
                          by_cases c14 : ((X (ix v3)) &&& 63) = 10
                          · replace hf := (if_pos c14).symm.trans hf
                            refine rs_tsw i_L_law_33 (off := 517) (by rw [c14]; decide) (tg := 550) (by decide) ?_
                            refine rs_aload_n i_L_law_550 rfl ?_
                            refine rs_aload_n i_L_law_551 rfl ?_
                            refine rs_iload_n i_L_law_552 rfl ?_
                            refine rs_iconst i_L_law_553 (v := 1) (by decide) ?_
                            refine rs_iadd i_L_law_554 ?_
                            obtain ⟨c361, hf⟩ := ite_some hf
                            refine rs_ialdS i_L_law_555 c361 ?_
                            refine rs_aload_n i_L_law_556 rfl ?_
                            refine rs_iload_n i_L_law_557 rfl ?_
                            refine rs_iconst i_L_law_558 (v := 2) (by decide) ?_
                            refine rs_iadd i_L_law_559 ?_
                            obtain ⟨c362, hf⟩ := ite_some hf
                            refine rs_ialdS i_L_law_560 c362 ?_
                            obtain ⟨c364, hf⟩ := ite_some hf
                            obtain ⟨o363, e363, hf⟩ := bind_some hf
                            refine rs_inV i_L_law_561 m_X7_state rfl (As := [.int (X (ix (v3 + 1))), .int (X (ix (v3 + 2)))]) (rest := []) rfl rfl (Nat.le_of_ble_eq_true rfl) c364 (c_X7_state (by omega) e363) (st' := [.long o363.1]) rfl ?_
                            refine rs_aload_n i_L_law_564 rfl ?_
                            refine rs_aload_n i_L_law_565 rfl ?_
                            refine rs_iload_n i_L_law_566 rfl ?_
                            refine rs_iconst i_L_law_567 (v := 1) (by decide) ?_
                            refine rs_iadd i_L_law_568 ?_
                            obtain ⟨c365, hf⟩ := ite_some hf
                            refine rs_ialdS i_L_law_569 c365 ?_
                            refine rs_aload_n i_L_law_570 rfl ?_
                            refine rs_iload_n i_L_law_571 rfl ?_
                            refine rs_iconst i_L_law_572 (v := 2) (by decide) ?_
                            refine rs_iadd i_L_law_573 ?_
                            obtain ⟨c366, hf⟩ := ite_some hf
                            refine rs_ialdS i_L_law_574 c366 ?_
                            obtain ⟨c368, hf⟩ := ite_some hf
                            obtain ⟨o367, e367, hf⟩ := bind_some hf
                            refine rs_inV i_L_law_575 m_X8_state rfl (As := [.int (X (ix (v3 + 1))), .int (X (ix (v3 + 2)))]) (rest := [.long o363.1]) rfl rfl (Nat.le_of_ble_eq_true rfl) c368 (c_X8_state (by omega) e367) (st' := [.long o367.1, .long o363.1]) rfl ?_
                            refine rs_lcmp i_L_law_578 ?_
                            by_cases c369 : o363.1 = o367.1
                            · replace hf := (if_pos c369).symm.trans hf
                              refine rs_ifT i_L_law_579 (by rw [lc_eq]; exact decide_eq_true c369) (tg := 1773) (by decide) ?_
                              exact r_L_law_1773 hd ih hf
                            · replace hf := (if_neg c369).symm.trans hf
                              refine rs_ifF i_L_law_579 (by rw [lc_eq]; exact decide_eq_false c369) ?_
                              refine rs_iconst i_L_law_582 (v := 0) (by decide) ?_
                              have hf := Option.some.inj hf
                              subst hf
                              exact rs_iret i_L_law_583 m_L_law (by decide)
                          · replace hf := (if_neg c14).symm.trans hf
                            by_cases c15 : ((X (ix v3)) &&& 63) = 11
                            · replace hf := (if_pos c15).symm.trans hf
                              refine rs_tsw i_L_law_33 (off := 551) (by rw [c15]; decide) (tg := 584) (by decide) ?_
                              refine rs_aload_n i_L_law_584 rfl ?_
                              refine rs_aload_n i_L_law_585 rfl ?_
                              refine rs_iload_n i_L_law_586 rfl ?_
                              refine rs_iconst i_L_law_587 (v := 1) (by decide) ?_
                              refine rs_iadd i_L_law_588 ?_
                              obtain ⟨c352, hf⟩ := ite_some hf
                              refine rs_ialdS i_L_law_589 c352 ?_
                              refine rs_aload_n i_L_law_590 rfl ?_
                              refine rs_iload_n i_L_law_591 rfl ?_
                              refine rs_iconst i_L_law_592 (v := 2) (by decide) ?_
                              refine rs_iadd i_L_law_593 ?_
                              obtain ⟨c353, hf⟩ := ite_some hf
                              refine rs_ialdS i_L_law_594 c353 ?_
                              obtain ⟨c355, hf⟩ := ite_some hf
                              obtain ⟨o354, e354, hf⟩ := bind_some hf
                              refine rs_inV i_L_law_595 m_X7_whole rfl (As := [.int (X (ix (v3 + 1))), .int (X (ix (v3 + 2)))]) (rest := []) rfl rfl (Nat.le_of_ble_eq_true rfl) c355 (c_X7_whole (by omega) e354) (st' := [.long o354.1]) rfl ?_
                              refine rs_aload_n i_L_law_598 rfl ?_
                              refine rs_aload_n i_L_law_599 rfl ?_
                              refine rs_iload_n i_L_law_600 rfl ?_
                              refine rs_iconst i_L_law_601 (v := 1) (by decide) ?_
                              refine rs_iadd i_L_law_602 ?_
                              obtain ⟨c356, hf⟩ := ite_some hf
                              refine rs_ialdS i_L_law_603 c356 ?_
                              refine rs_aload_n i_L_law_604 rfl ?_
                              refine rs_iload_n i_L_law_605 rfl ?_
                              refine rs_iconst i_L_law_606 (v := 2) (by decide) ?_
                              refine rs_iadd i_L_law_607 ?_
                              obtain ⟨c357, hf⟩ := ite_some hf
                              refine rs_ialdS i_L_law_608 c357 ?_
                              obtain ⟨c359, hf⟩ := ite_some hf
                              obtain ⟨o358, e358, hf⟩ := bind_some hf
                              refine rs_inV i_L_law_609 m_X8_whole rfl (As := [.int (X (ix (v3 + 1))), .int (X (ix (v3 + 2)))]) (rest := [.long o354.1]) rfl rfl (Nat.le_of_ble_eq_true rfl) c359 (c_X8_whole (by omega) e358) (st' := [.long o358.1, .long o354.1]) rfl ?_
                              refine rs_lcmp i_L_law_612 ?_
                              by_cases c360 : o354.1 = o358.1
                              · replace hf := (if_pos c360).symm.trans hf
                                refine rs_ifT i_L_law_613 (by rw [lc_eq]; exact decide_eq_true c360) (tg := 1773) (by decide) ?_
                                exact r_L_law_1773 hd ih hf
                              · replace hf := (if_neg c360).symm.trans hf
                                refine rs_ifF i_L_law_613 (by rw [lc_eq]; exact decide_eq_false c360) ?_
                                refine rs_iconst i_L_law_616 (v := 0) (by decide) ?_
                                have hf := Option.some.inj hf
                                subst hf
                                exact rs_iret i_L_law_617 m_L_law (by decide)
                            · replace hf := (if_neg c15).symm.trans hf
                              by_cases c16 : ((X (ix v3)) &&& 63) = 12
                              · replace hf := (if_pos c16).symm.trans hf
                                refine rs_tsw i_L_law_33 (off := 585) (by rw [c16]; decide) (tg := 618) (by decide) ?_
                                refine rs_aload_n i_L_law_618 rfl ?_
                                refine rs_aload_n i_L_law_619 rfl ?_
                                refine rs_iload_n i_L_law_620 rfl ?_
                                refine rs_iconst i_L_law_621 (v := 1) (by decide) ?_
                                refine rs_iadd i_L_law_622 ?_
                                obtain ⟨c345, hf⟩ := ite_some hf
                                refine rs_ialdS i_L_law_623 c345 ?_
                                obtain ⟨c347, hf⟩ := ite_some hf
                                obtain ⟨o346, e346, hf⟩ := bind_some hf
                                refine rs_inV i_L_law_624 m_X7_stop rfl (As := [.int (X (ix (v3 + 1)))]) (rest := []) rfl rfl (Nat.le_of_ble_eq_true rfl) c347 (c_X7_stop (by omega) e346) (st' := [.int o346.1]) rfl ?_
                                refine rs_aload_n i_L_law_627 rfl ?_
                                refine rs_aload_n i_L_law_628 rfl ?_
                                refine rs_iload_n i_L_law_629 rfl ?_
                                refine rs_iconst i_L_law_630 (v := 1) (by decide) ?_
                                refine rs_iadd i_L_law_631 ?_
                                obtain ⟨c348, hf⟩ := ite_some hf
                                refine rs_ialdS i_L_law_632 c348 ?_
                                obtain ⟨c350, hf⟩ := ite_some hf
                                obtain ⟨o349, e349, hf⟩ := bind_some hf
                                refine rs_inV i_L_law_633 m_X8_stop rfl (As := [.int (X (ix (v3 + 1)))]) (rest := [.int o346.1]) rfl rfl (Nat.le_of_ble_eq_true rfl) c350 (c_X8_stop (by omega) e349) (st' := [.int o349.1, .int o346.1]) rfl ?_
                                by_cases c351 : o346.1 = o349.1
                                · replace hf := (if_pos c351).symm.trans hf
                                  refine rs_icT i_L_law_636 (ct_eq c351) (tg := 1773) (by decide) ?_
                                  exact r_L_law_1773 hd ih hf
                                · replace hf := (if_neg c351).symm.trans hf
                                  refine rs_icF i_L_law_636 (cf_eq c351) ?_
                                  refine rs_iconst i_L_law_639 (v := 0) (by decide) ?_
                                  have hf := Option.some.inj hf
                                  subst hf
                                  exact rs_iret i_L_law_640 m_L_law (by decide)
                              · replace hf := (if_neg c16).symm.trans hf
                                by_cases c17 : ((X (ix v3)) &&& 63) = 13
                                · replace hf := (if_pos c17).symm.trans hf
                                  refine rs_tsw i_L_law_33 (off := 608) (by rw [c17]; decide) (tg := 641) (by decide) ?_
                                  refine rs_aload_n i_L_law_641 rfl ?_
                                  obtain ⟨c341, hf⟩ := ite_some hf
                                  obtain ⟨o340, e340, hf⟩ := bind_some hf
                                  refine rs_inV i_L_law_642 m_X7_worst rfl (As := []) (rest := []) rfl rfl (Nat.le_of_ble_eq_true rfl) c341 (c_X7_worst (by omega) e340) (st' := [.int o340.1]) rfl ?_
                                  refine rs_aload_n i_L_law_645 rfl ?_
                                  obtain ⟨c343, hf⟩ := ite_some hf
                                  obtain ⟨o342, e342, hf⟩ := bind_some hf
                                  refine rs_inV i_L_law_646 m_X8_worst rfl (As := []) (rest := [.int o340.1]) rfl rfl (Nat.le_of_ble_eq_true rfl) c343 (c_X8_worst (by omega) e342) (st' := [.int o342.1, .int o340.1]) rfl ?_
                                  by_cases c344 : o340.1 = o342.1
                                  · replace hf := (if_pos c344).symm.trans hf
                                    refine rs_icT i_L_law_649 (ct_eq c344) (tg := 1773) (by decide) ?_
                                    exact r_L_law_1773 hd ih hf
                                  · replace hf := (if_neg c344).symm.trans hf
                                    refine rs_icF i_L_law_649 (cf_eq c344) ?_
                                    refine rs_iconst i_L_law_652 (v := 0) (by decide) ?_
                                    have hf := Option.some.inj hf
                                    subst hf
                                    exact rs_iret i_L_law_653 m_L_law (by decide)
                                · replace hf := (if_neg c17).symm.trans hf
                                  by_cases c18 : ((X (ix v3)) &&& 63) = 14
                                  · replace hf := (if_pos c18).symm.trans hf
                                    refine rs_tsw i_L_law_33 (off := 621) (by rw [c18]; decide) (tg := 654) (by decide) ?_
                                    refine rs_aload_n i_L_law_654 rfl ?_
                                    refine rs_aload_n i_L_law_655 rfl ?_
                                    refine rs_iload_n i_L_law_656 rfl ?_
                                    refine rs_iconst i_L_law_657 (v := 1) (by decide) ?_
                                    refine rs_iadd i_L_law_658 ?_
                                    obtain ⟨c331, hf⟩ := ite_some hf
                                    refine rs_ialdS i_L_law_659 c331 ?_
                                    refine rs_aload_n i_L_law_660 rfl ?_
                                    refine rs_iload_n i_L_law_661 rfl ?_
                                    refine rs_iconst i_L_law_662 (v := 2) (by decide) ?_
                                    refine rs_iadd i_L_law_663 ?_
                                    obtain ⟨c332, hf⟩ := ite_some hf
                                    refine rs_ialdS i_L_law_664 c332 ?_
                                    obtain ⟨c334, hf⟩ := ite_some hf
                                    obtain ⟨o333, e333, hf⟩ := bind_some hf
                                    refine rs_inV i_L_law_665 m_X7_window rfl (As := [.int (X (ix (v3 + 1))), .int (X (ix (v3 + 2)))]) (rest := []) rfl rfl (Nat.le_of_ble_eq_true rfl) c334 (c_X7_window (by omega) e333) (st' := [.int o333.1]) rfl ?_
                                    refine rs_aload_n i_L_law_668 rfl ?_
                                    refine rs_aload_n i_L_law_669 rfl ?_
                                    refine rs_iload_n i_L_law_670 rfl ?_
                                    refine rs_iconst i_L_law_671 (v := 1) (by decide) ?_
                                    refine rs_iadd i_L_law_672 ?_
                                    obtain ⟨c335, hf⟩ := ite_some hf
                                    refine rs_ialdS i_L_law_673 c335 ?_
                                    refine rs_aload_n i_L_law_674 rfl ?_
                                    refine rs_iload_n i_L_law_675 rfl ?_
                                    refine rs_iconst i_L_law_676 (v := 2) (by decide) ?_
                                    refine rs_iadd i_L_law_677 ?_
                                    obtain ⟨c336, hf⟩ := ite_some hf
                                    refine rs_ialdS i_L_law_678 c336 ?_
                                    obtain ⟨c338, hf⟩ := ite_some hf
                                    obtain ⟨o337, e337, hf⟩ := bind_some hf
                                    refine rs_inV i_L_law_679 m_X8_window rfl (As := [.int (X (ix (v3 + 1))), .int (X (ix (v3 + 2)))]) (rest := [.int o333.1]) rfl rfl (Nat.le_of_ble_eq_true rfl) c338 (c_X8_window (by omega) e337) (st' := [.int o337.1, .int o333.1]) rfl ?_
                                    by_cases c339 : o333.1 = o337.1
                                    · replace hf := (if_pos c339).symm.trans hf
                                      refine rs_icT i_L_law_682 (ct_eq c339) (tg := 1773) (by decide) ?_
                                      exact r_L_law_1773 hd ih hf
                                    · replace hf := (if_neg c339).symm.trans hf
                                      refine rs_icF i_L_law_682 (cf_eq c339) ?_
                                      refine rs_iconst i_L_law_685 (v := 0) (by decide) ?_
                                      have hf := Option.some.inj hf
                                      subst hf
                                      exact rs_iret i_L_law_686 m_L_law (by decide)
                                  · replace hf := (if_neg c18).symm.trans hf
                                    by_cases c19 : ((X (ix v3)) &&& 63) = 15
                                    · replace hf := (if_pos c19).symm.trans hf
                                      refine rs_tsw i_L_law_33 (off := 654) (by rw [c19]; decide) (tg := 687) (by decide) ?_
                                      refine rs_aload_n i_L_law_687 rfl ?_
                                      refine rs_aload_n i_L_law_688 rfl ?_
                                      refine rs_iload_n i_L_law_689 rfl ?_
                                      refine rs_iconst i_L_law_690 (v := 1) (by decide) ?_
                                      refine rs_iadd i_L_law_691 ?_
                                      obtain ⟨c320, hf⟩ := ite_some hf
                                      refine rs_ialdS i_L_law_692 c320 ?_
                                      refine rs_aload_n i_L_law_693 rfl ?_
                                      refine rs_iload_n i_L_law_694 rfl ?_
                                      refine rs_iconst i_L_law_695 (v := 2) (by decide) ?_
                                      refine rs_iadd i_L_law_696 ?_
                                      obtain ⟨c321, hf⟩ := ite_some hf
                                      refine rs_ialdS i_L_law_697 c321 ?_
                                      refine rs_aload_n i_L_law_698 rfl ?_
                                      refine rs_iload_n i_L_law_699 rfl ?_
                                      refine rs_iconst i_L_law_700 (v := 3) (by decide) ?_
                                      refine rs_iadd i_L_law_701 ?_
                                      obtain ⟨c322, hf⟩ := ite_some hf
                                      refine rs_ialdS i_L_law_702 c322 ?_
                                      obtain ⟨c324, hf⟩ := ite_some hf
                                      obtain ⟨o323, e323, hf⟩ := bind_some hf
                                      refine rs_inV i_L_law_703 m_X7_pace rfl (As := [.int (X (ix (v3 + 1))), .int (X (ix (v3 + 2))), .int (X (ix (v3 + 3)))]) (rest := []) rfl rfl (Nat.le_of_ble_eq_true rfl) c324 (c_X7_pace (by omega) e323) (st' := [.int o323.1]) rfl ?_
                                      refine rs_aload_n i_L_law_706 rfl ?_
                                      refine rs_aload_n i_L_law_707 rfl ?_
                                      refine rs_iload_n i_L_law_708 rfl ?_
                                      refine rs_iconst i_L_law_709 (v := 1) (by decide) ?_
                                      refine rs_iadd i_L_law_710 ?_
                                      obtain ⟨c325, hf⟩ := ite_some hf
                                      refine rs_ialdS i_L_law_711 c325 ?_
                                      refine rs_aload_n i_L_law_712 rfl ?_
                                      refine rs_iload_n i_L_law_713 rfl ?_
                                      refine rs_iconst i_L_law_714 (v := 2) (by decide) ?_
                                      refine rs_iadd i_L_law_715 ?_
                                      obtain ⟨c326, hf⟩ := ite_some hf
                                      refine rs_ialdS i_L_law_716 c326 ?_
                                      refine rs_aload_n i_L_law_717 rfl ?_
                                      refine rs_iload_n i_L_law_718 rfl ?_
                                      refine rs_iconst i_L_law_719 (v := 3) (by decide) ?_
                                      refine rs_iadd i_L_law_720 ?_
                                      obtain ⟨c327, hf⟩ := ite_some hf
                                      refine rs_ialdS i_L_law_721 c327 ?_
                                      obtain ⟨c329, hf⟩ := ite_some hf
                                      obtain ⟨o328, e328, hf⟩ := bind_some hf
                                      refine rs_inV i_L_law_722 m_X8_pace rfl (As := [.int (X (ix (v3 + 1))), .int (X (ix (v3 + 2))), .int (X (ix (v3 + 3)))]) (rest := [.int o323.1]) rfl rfl (Nat.le_of_ble_eq_true rfl) c329 (c_X8_pace (by omega) e328) (st' := [.int o328.1, .int o323.1]) rfl ?_
                                      by_cases c330 : o323.1 = o328.1
                                      · replace hf := (if_pos c330).symm.trans hf
                                        refine rs_icT i_L_law_725 (ct_eq c330) (tg := 1773) (by decide) ?_
                                        exact r_L_law_1773 hd ih hf
                                      · replace hf := (if_neg c330).symm.trans hf
                                        refine rs_icF i_L_law_725 (cf_eq c330) ?_
                                        refine rs_iconst i_L_law_728 (v := 0) (by decide) ?_
                                        have hf := Option.some.inj hf
                                        subst hf
                                        exact rs_iret i_L_law_729 m_L_law (by decide)
                                    · replace hf := (if_neg c19).symm.trans hf
                                      by_cases c20 : ((X (ix v3)) &&& 63) = 16
                                      · replace hf := (if_pos c20).symm.trans hf
                                        refine rs_tsw i_L_law_33 (off := 697) (by rw [c20]; decide) (tg := 730) (by decide) ?_
                                        refine rs_aload_n i_L_law_730 rfl ?_
                                        refine rs_aload_n i_L_law_731 rfl ?_
                                        refine rs_iload_n i_L_law_732 rfl ?_
                                        refine rs_iconst i_L_law_733 (v := 1) (by decide) ?_
                                        refine rs_iadd i_L_law_734 ?_
                                        obtain ⟨c309, hf⟩ := ite_some hf
                                        refine rs_ialdS i_L_law_735 c309 ?_
                                        refine rs_aload_n i_L_law_736 rfl ?_
                                        refine rs_iload_n i_L_law_737 rfl ?_
                                        refine rs_iconst i_L_law_738 (v := 2) (by decide) ?_
                                        refine rs_iadd i_L_law_739 ?_
                                        obtain ⟨c310, hf⟩ := ite_some hf
                                        refine rs_ialdS i_L_law_740 c310 ?_
                                        refine rs_aload_n i_L_law_741 rfl ?_
                                        refine rs_iload_n i_L_law_742 rfl ?_
                                        refine rs_iconst i_L_law_743 (v := 3) (by decide) ?_
                                        refine rs_iadd i_L_law_744 ?_
                                        obtain ⟨c311, hf⟩ := ite_some hf
                                        refine rs_ialdS i_L_law_745 c311 ?_
                                        obtain ⟨c313, hf⟩ := ite_some hf
                                        obtain ⟨o312, e312, hf⟩ := bind_some hf
                                        refine rs_inV i_L_law_746 m_X7_rest rfl (As := [.int (X (ix (v3 + 1))), .int (X (ix (v3 + 2))), .int (X (ix (v3 + 3)))]) (rest := []) rfl rfl (Nat.le_of_ble_eq_true rfl) c313 (c_X7_rest (by omega) e312) (st' := [.int o312.1]) rfl ?_
                                        refine rs_aload_n i_L_law_749 rfl ?_
                                        refine rs_aload_n i_L_law_750 rfl ?_
                                        refine rs_iload_n i_L_law_751 rfl ?_
                                        refine rs_iconst i_L_law_752 (v := 1) (by decide) ?_
                                        refine rs_iadd i_L_law_753 ?_
                                        obtain ⟨c314, hf⟩ := ite_some hf
                                        refine rs_ialdS i_L_law_754 c314 ?_
                                        refine rs_aload_n i_L_law_755 rfl ?_
                                        refine rs_iload_n i_L_law_756 rfl ?_
                                        refine rs_iconst i_L_law_757 (v := 2) (by decide) ?_
                                        refine rs_iadd i_L_law_758 ?_
                                        obtain ⟨c315, hf⟩ := ite_some hf
                                        refine rs_ialdS i_L_law_759 c315 ?_
                                        refine rs_aload_n i_L_law_760 rfl ?_
                                        refine rs_iload_n i_L_law_761 rfl ?_
                                        refine rs_iconst i_L_law_762 (v := 3) (by decide) ?_
                                        refine rs_iadd i_L_law_763 ?_
                                        obtain ⟨c316, hf⟩ := ite_some hf
                                        refine rs_ialdS i_L_law_764 c316 ?_
                                        obtain ⟨c318, hf⟩ := ite_some hf
                                        obtain ⟨o317, e317, hf⟩ := bind_some hf
                                        refine rs_inV i_L_law_765 m_X8_rest rfl (As := [.int (X (ix (v3 + 1))), .int (X (ix (v3 + 2))), .int (X (ix (v3 + 3)))]) (rest := [.int o312.1]) rfl rfl (Nat.le_of_ble_eq_true rfl) c318 (c_X8_rest (by omega) e317) (st' := [.int o317.1, .int o312.1]) rfl ?_
                                        by_cases c319 : o312.1 = o317.1
                                        · replace hf := (if_pos c319).symm.trans hf
                                          refine rs_icT i_L_law_768 (ct_eq c319) (tg := 1773) (by decide) ?_
                                          exact r_L_law_1773 hd ih hf
                                        · replace hf := (if_neg c319).symm.trans hf
                                          refine rs_icF i_L_law_768 (cf_eq c319) ?_
                                          refine rs_iconst i_L_law_771 (v := 0) (by decide) ?_
                                          have hf := Option.some.inj hf
                                          subst hf
                                          exact rs_iret i_L_law_772 m_L_law (by decide)
                                      · replace hf := (if_neg c20).symm.trans hf
                                        by_cases c21 : ((X (ix v3)) &&& 63) = 17
                                        · replace hf := (if_pos c21).symm.trans hf
                                          refine rs_tsw i_L_law_33 (off := 740) (by rw [c21]; decide) (tg := 773) (by decide) ?_
                                          refine rs_aload_n i_L_law_773 rfl ?_
                                          refine rs_aload_n i_L_law_774 rfl ?_
                                          refine rs_iload_n i_L_law_775 rfl ?_
                                          refine rs_iconst i_L_law_776 (v := 1) (by decide) ?_
                                          refine rs_iadd i_L_law_777 ?_
                                          obtain ⟨c300, hf⟩ := ite_some hf
                                          refine rs_ialdS i_L_law_778 c300 ?_
                                          refine rs_aload_n i_L_law_779 rfl ?_
                                          refine rs_iload_n i_L_law_780 rfl ?_
                                          refine rs_iconst i_L_law_781 (v := 2) (by decide) ?_
                                          refine rs_iadd i_L_law_782 ?_
                                          obtain ⟨c301, hf⟩ := ite_some hf
                                          refine rs_ialdS i_L_law_783 c301 ?_
                                          obtain ⟨c303, hf⟩ := ite_some hf
                                          obtain ⟨o302, e302, hf⟩ := bind_some hf
                                          refine rs_inV i_L_law_784 m_X7_dust rfl (As := [.int (X (ix (v3 + 1))), .int (X (ix (v3 + 2)))]) (rest := []) rfl rfl (Nat.le_of_ble_eq_true rfl) c303 (c_X7_dust (by omega) e302) (st' := [.int o302.1]) rfl ?_
                                          refine rs_aload_n i_L_law_787 rfl ?_
                                          refine rs_aload_n i_L_law_788 rfl ?_
                                          refine rs_iload_n i_L_law_789 rfl ?_
                                          refine rs_iconst i_L_law_790 (v := 1) (by decide) ?_
                                          refine rs_iadd i_L_law_791 ?_
                                          obtain ⟨c304, hf⟩ := ite_some hf
                                          refine rs_ialdS i_L_law_792 c304 ?_
                                          refine rs_aload_n i_L_law_793 rfl ?_
                                          refine rs_iload_n i_L_law_794 rfl ?_
                                          refine rs_iconst i_L_law_795 (v := 2) (by decide) ?_
                                          refine rs_iadd i_L_law_796 ?_
                                          obtain ⟨c305, hf⟩ := ite_some hf
                                          refine rs_ialdS i_L_law_797 c305 ?_
                                          obtain ⟨c307, hf⟩ := ite_some hf
                                          obtain ⟨o306, e306, hf⟩ := bind_some hf
                                          refine rs_inV i_L_law_798 m_X8_dust rfl (As := [.int (X (ix (v3 + 1))), .int (X (ix (v3 + 2)))]) (rest := [.int o302.1]) rfl rfl (Nat.le_of_ble_eq_true rfl) c307 (c_X8_dust (by omega) e306) (st' := [.int o306.1, .int o302.1]) rfl ?_
                                          by_cases c308 : o302.1 = o306.1
                                          · replace hf := (if_pos c308).symm.trans hf
                                            refine rs_icT i_L_law_801 (ct_eq c308) (tg := 1773) (by decide) ?_
                                            exact r_L_law_1773 hd ih hf
                                          · replace hf := (if_neg c308).symm.trans hf
                                            refine rs_icF i_L_law_801 (cf_eq c308) ?_
                                            refine rs_iconst i_L_law_804 (v := 0) (by decide) ?_
                                            have hf := Option.some.inj hf
                                            subst hf
                                            exact rs_iret i_L_law_805 m_L_law (by decide)
                                        · replace hf := (if_neg c21).symm.trans hf
                                          by_cases c22 : ((X (ix v3)) &&& 63) = 18
                                          · replace hf := (if_pos c22).symm.trans hf
                                            refine rs_tsw i_L_law_33 (off := 773) (by rw [c22]; decide) (tg := 806) (by decide) ?_
                                            refine rs_aload_n i_L_law_806 rfl ?_
                                            refine rs_aload_n i_L_law_807 rfl ?_
                                            refine rs_iload_n i_L_law_808 rfl ?_
                                            refine rs_iconst i_L_law_809 (v := 1) (by decide) ?_
                                            refine rs_iadd i_L_law_810 ?_
                                            obtain ⟨c289, hf⟩ := ite_some hf
                                            refine rs_ialdS i_L_law_811 c289 ?_
                                            refine rs_aload_n i_L_law_812 rfl ?_
                                            refine rs_iload_n i_L_law_813 rfl ?_
                                            refine rs_iconst i_L_law_814 (v := 2) (by decide) ?_
                                            refine rs_iadd i_L_law_815 ?_
                                            obtain ⟨c290, hf⟩ := ite_some hf
                                            refine rs_ialdS i_L_law_816 c290 ?_
                                            refine rs_aload_n i_L_law_817 rfl ?_
                                            refine rs_iload_n i_L_law_818 rfl ?_
                                            refine rs_iconst i_L_law_819 (v := 3) (by decide) ?_
                                            refine rs_iadd i_L_law_820 ?_
                                            obtain ⟨c291, hf⟩ := ite_some hf
                                            refine rs_ialdS i_L_law_821 c291 ?_
                                            obtain ⟨c293, hf⟩ := ite_some hf
                                            obtain ⟨o292, e292, hf⟩ := bind_some hf
                                            refine rs_inV i_L_law_822 m_X7_doublings rfl (As := [.int (X (ix (v3 + 1))), .int (X (ix (v3 + 2))), .int (X (ix (v3 + 3)))]) (rest := []) rfl rfl (Nat.le_of_ble_eq_true rfl) c293 (c_X7_doublings (by omega) e292) (st' := [.int o292.1]) rfl ?_
                                            refine rs_aload_n i_L_law_825 rfl ?_
                                            refine rs_aload_n i_L_law_826 rfl ?_
                                            refine rs_iload_n i_L_law_827 rfl ?_
                                            refine rs_iconst i_L_law_828 (v := 1) (by decide) ?_
                                            refine rs_iadd i_L_law_829 ?_
                                            obtain ⟨c294, hf⟩ := ite_some hf
                                            refine rs_ialdS i_L_law_830 c294 ?_
                                            refine rs_aload_n i_L_law_831 rfl ?_
                                            refine rs_iload_n i_L_law_832 rfl ?_
                                            refine rs_iconst i_L_law_833 (v := 2) (by decide) ?_
                                            refine rs_iadd i_L_law_834 ?_
                                            obtain ⟨c295, hf⟩ := ite_some hf
                                            refine rs_ialdS i_L_law_835 c295 ?_
                                            refine rs_aload_n i_L_law_836 rfl ?_
                                            refine rs_iload_n i_L_law_837 rfl ?_
                                            refine rs_iconst i_L_law_838 (v := 3) (by decide) ?_
                                            refine rs_iadd i_L_law_839 ?_
                                            obtain ⟨c296, hf⟩ := ite_some hf
                                            refine rs_ialdS i_L_law_840 c296 ?_
                                            obtain ⟨c298, hf⟩ := ite_some hf
                                            obtain ⟨o297, e297, hf⟩ := bind_some hf
                                            refine rs_inV i_L_law_841 m_X8_doublings rfl (As := [.int (X (ix (v3 + 1))), .int (X (ix (v3 + 2))), .int (X (ix (v3 + 3)))]) (rest := [.int o292.1]) rfl rfl (Nat.le_of_ble_eq_true rfl) c298 (c_X8_doublings (by omega) e297) (st' := [.int o297.1, .int o292.1]) rfl ?_
                                            by_cases c299 : o292.1 = o297.1
                                            · replace hf := (if_pos c299).symm.trans hf
                                              refine rs_icT i_L_law_844 (ct_eq c299) (tg := 1773) (by decide) ?_
                                              exact r_L_law_1773 hd ih hf
                                            · replace hf := (if_neg c299).symm.trans hf
                                              refine rs_icF i_L_law_844 (cf_eq c299) ?_
                                              refine rs_iconst i_L_law_847 (v := 0) (by decide) ?_
                                              have hf := Option.some.inj hf
                                              subst hf
                                              exact rs_iret i_L_law_848 m_L_law (by decide)
                                          · replace hf := (if_neg c22).symm.trans hf
                                            by_cases c23 : ((X (ix v3)) &&& 63) = 19
                                            · replace hf := (if_pos c23).symm.trans hf
                                              refine rs_tsw i_L_law_33 (off := 816) (by rw [c23]; decide) (tg := 849) (by decide) ?_
                                              refine rs_aload_n i_L_law_849 rfl ?_
                                              refine rs_aload_n i_L_law_850 rfl ?_
                                              refine rs_iload_n i_L_law_851 rfl ?_
                                              refine rs_iconst i_L_law_852 (v := 1) (by decide) ?_
                                              refine rs_iadd i_L_law_853 ?_
                                              obtain ⟨c278, hf⟩ := ite_some hf
                                              refine rs_ialdS i_L_law_854 c278 ?_
                                              refine rs_aload_n i_L_law_855 rfl ?_
                                              refine rs_iload_n i_L_law_856 rfl ?_
                                              refine rs_iconst i_L_law_857 (v := 2) (by decide) ?_
                                              refine rs_iadd i_L_law_858 ?_
                                              obtain ⟨c279, hf⟩ := ite_some hf
                                              refine rs_ialdS i_L_law_859 c279 ?_
                                              refine rs_aload_n i_L_law_860 rfl ?_
                                              refine rs_iload_n i_L_law_861 rfl ?_
                                              refine rs_iconst i_L_law_862 (v := 3) (by decide) ?_
                                              refine rs_iadd i_L_law_863 ?_
                                              obtain ⟨c280, hf⟩ := ite_some hf
                                              refine rs_ialdS i_L_law_864 c280 ?_
                                              obtain ⟨c282, hf⟩ := ite_some hf
                                              obtain ⟨o281, e281, hf⟩ := bind_some hf
                                              refine rs_inV i_L_law_865 m_X7_judge rfl (As := [.int (X (ix (v3 + 1))), .int (X (ix (v3 + 2))), .int (X (ix (v3 + 3)))]) (rest := []) rfl rfl (Nat.le_of_ble_eq_true rfl) c282 (c_X7_judge (by omega) e281) (st' := [.int o281.1]) rfl ?_
                                              refine rs_aload_n i_L_law_868 rfl ?_
                                              refine rs_aload_n i_L_law_869 rfl ?_
                                              refine rs_iload_n i_L_law_870 rfl ?_
                                              refine rs_iconst i_L_law_871 (v := 1) (by decide) ?_
                                              refine rs_iadd i_L_law_872 ?_
                                              obtain ⟨c283, hf⟩ := ite_some hf
                                              refine rs_ialdS i_L_law_873 c283 ?_
                                              refine rs_aload_n i_L_law_874 rfl ?_
                                              refine rs_iload_n i_L_law_875 rfl ?_
                                              refine rs_iconst i_L_law_876 (v := 2) (by decide) ?_
                                              refine rs_iadd i_L_law_877 ?_
                                              obtain ⟨c284, hf⟩ := ite_some hf
                                              refine rs_ialdS i_L_law_878 c284 ?_
                                              refine rs_aload_n i_L_law_879 rfl ?_
                                              refine rs_iload_n i_L_law_880 rfl ?_
                                              refine rs_iconst i_L_law_881 (v := 3) (by decide) ?_
                                              refine rs_iadd i_L_law_882 ?_
                                              obtain ⟨c285, hf⟩ := ite_some hf
                                              refine rs_ialdS i_L_law_883 c285 ?_
                                              obtain ⟨c287, hf⟩ := ite_some hf
                                              obtain ⟨o286, e286, hf⟩ := bind_some hf
                                              refine rs_inV i_L_law_884 m_X8_judge rfl (As := [.int (X (ix (v3 + 1))), .int (X (ix (v3 + 2))), .int (X (ix (v3 + 3)))]) (rest := [.int o281.1]) rfl rfl (Nat.le_of_ble_eq_true rfl) c287 (c_X8_judge (by omega) e286) (st' := [.int o286.1, .int o281.1]) rfl ?_
                                              by_cases c288 : o281.1 = o286.1
                                              · replace hf := (if_pos c288).symm.trans hf
                                                refine rs_icT i_L_law_887 (ct_eq c288) (tg := 1773) (by decide) ?_
                                                exact r_L_law_1773 hd ih hf
                                              · replace hf := (if_neg c288).symm.trans hf
                                                refine rs_icF i_L_law_887 (cf_eq c288) ?_
                                                refine rs_iconst i_L_law_890 (v := 0) (by decide) ?_
                                                have hf := Option.some.inj hf
                                                subst hf
                                                exact rs_iret i_L_law_891 m_L_law (by decide)
                                            · replace hf := (if_neg c23).symm.trans hf
                                              by_cases c24 : ((X (ix v3)) &&& 63) = 20
                                              · replace hf := (if_pos c24).symm.trans hf
                                                refine rs_tsw i_L_law_33 (off := 859) (by rw [c24]; decide) (tg := 892) (by decide) ?_
                                                refine rs_aload_n i_L_law_892 rfl ?_
                                                refine rs_aload_n i_L_law_893 rfl ?_
                                                refine rs_iload_n i_L_law_894 rfl ?_
                                                refine rs_iconst i_L_law_895 (v := 1) (by decide) ?_
                                                refine rs_iadd i_L_law_896 ?_
                                                obtain ⟨c269, hf⟩ := ite_some hf
                                                refine rs_ialdS i_L_law_897 c269 ?_
                                                refine rs_aload_n i_L_law_898 rfl ?_
                                                refine rs_iload_n i_L_law_899 rfl ?_
                                                refine rs_iconst i_L_law_900 (v := 2) (by decide) ?_
                                                refine rs_iadd i_L_law_901 ?_
                                                obtain ⟨c270, hf⟩ := ite_some hf
                                                refine rs_ialdS i_L_law_902 c270 ?_
                                                obtain ⟨c272, hf⟩ := ite_some hf
                                                obtain ⟨o271, e271, hf⟩ := bind_some hf
                                                refine rs_inV i_L_law_903 m_X7_film rfl (As := [.int (X (ix (v3 + 1))), .int (X (ix (v3 + 2)))]) (rest := []) rfl rfl (Nat.le_of_ble_eq_true rfl) c272 (c_X7_film (by omega) e271) (st' := [.int o271.1]) rfl ?_
                                                refine rs_aload_n i_L_law_906 rfl ?_
                                                refine rs_aload_n i_L_law_907 rfl ?_
                                                refine rs_iload_n i_L_law_908 rfl ?_
                                                refine rs_iconst i_L_law_909 (v := 1) (by decide) ?_
                                                refine rs_iadd i_L_law_910 ?_
                                                obtain ⟨c273, hf⟩ := ite_some hf
                                                refine rs_ialdS i_L_law_911 c273 ?_
                                                refine rs_aload_n i_L_law_912 rfl ?_
                                                refine rs_iload_n i_L_law_913 rfl ?_
                                                refine rs_iconst i_L_law_914 (v := 2) (by decide) ?_
                                                refine rs_iadd i_L_law_915 ?_
                                                obtain ⟨c274, hf⟩ := ite_some hf
                                                refine rs_ialdS i_L_law_916 c274 ?_
                                                obtain ⟨c276, hf⟩ := ite_some hf
                                                obtain ⟨o275, e275, hf⟩ := bind_some hf
                                                refine rs_inV i_L_law_917 m_X8_film rfl (As := [.int (X (ix (v3 + 1))), .int (X (ix (v3 + 2)))]) (rest := [.int o271.1]) rfl rfl (Nat.le_of_ble_eq_true rfl) c276 (c_X8_film (by omega) e275) (st' := [.int o275.1, .int o271.1]) rfl ?_
                                                by_cases c277 : o271.1 = o275.1
                                                · replace hf := (if_pos c277).symm.trans hf
                                                  refine rs_icT i_L_law_920 (ct_eq c277) (tg := 1773) (by decide) ?_
                                                  exact r_L_law_1773 hd ih hf
                                                · replace hf := (if_neg c277).symm.trans hf
                                                  refine rs_icF i_L_law_920 (cf_eq c277) ?_
                                                  refine rs_iconst i_L_law_923 (v := 0) (by decide) ?_
                                                  have hf := Option.some.inj hf
                                                  subst hf
                                                  exact rs_iret i_L_law_924 m_L_law (by decide)
                                              · replace hf := (if_neg c24).symm.trans hf
                                                by_cases c25 : ((X (ix v3)) &&& 63) = 21
                                                · replace hf := (if_pos c25).symm.trans hf
                                                  refine rs_tsw i_L_law_33 (off := 892) (by rw [c25]; decide) (tg := 925) (by decide) ?_
                                                  refine rs_aload_n i_L_law_925 rfl ?_
                                                  refine rs_aload_n i_L_law_926 rfl ?_
                                                  refine rs_iload_n i_L_law_927 rfl ?_
                                                  refine rs_iconst i_L_law_928 (v := 1) (by decide) ?_
                                                  refine rs_iadd i_L_law_929 ?_
                                                  obtain ⟨c258, hf⟩ := ite_some hf
                                                  refine rs_ialdS i_L_law_930 c258 ?_
                                                  refine rs_aload_n i_L_law_931 rfl ?_
                                                  refine rs_iload_n i_L_law_932 rfl ?_
                                                  refine rs_iconst i_L_law_933 (v := 2) (by decide) ?_
                                                  refine rs_iadd i_L_law_934 ?_
                                                  obtain ⟨c259, hf⟩ := ite_some hf
                                                  refine rs_ialdS i_L_law_935 c259 ?_
                                                  refine rs_aload_n i_L_law_936 rfl ?_
                                                  refine rs_iload_n i_L_law_937 rfl ?_
                                                  refine rs_iconst i_L_law_938 (v := 3) (by decide) ?_
                                                  refine rs_iadd i_L_law_939 ?_
                                                  obtain ⟨c260, hf⟩ := ite_some hf
                                                  refine rs_ialdS i_L_law_940 c260 ?_
                                                  obtain ⟨c262, hf⟩ := ite_some hf
                                                  obtain ⟨o261, e261, hf⟩ := bind_some hf
                                                  refine rs_inV i_L_law_941 m_X7_serves rfl (As := [.int (X (ix (v3 + 1))), .int (X (ix (v3 + 2))), .int (X (ix (v3 + 3)))]) (rest := []) rfl rfl (Nat.le_of_ble_eq_true rfl) c262 (c_X7_serves (by omega) e261) (st' := [.int o261.1]) rfl ?_
                                                  refine rs_aload_n i_L_law_944 rfl ?_
                                                  refine rs_aload_n i_L_law_945 rfl ?_
                                                  refine rs_iload_n i_L_law_946 rfl ?_
                                                  refine rs_iconst i_L_law_947 (v := 1) (by decide) ?_
                                                  refine rs_iadd i_L_law_948 ?_
                                                  obtain ⟨c263, hf⟩ := ite_some hf
                                                  refine rs_ialdS i_L_law_949 c263 ?_
                                                  refine rs_aload_n i_L_law_950 rfl ?_
                                                  refine rs_iload_n i_L_law_951 rfl ?_
                                                  refine rs_iconst i_L_law_952 (v := 2) (by decide) ?_
                                                  refine rs_iadd i_L_law_953 ?_
                                                  obtain ⟨c264, hf⟩ := ite_some hf
                                                  refine rs_ialdS i_L_law_954 c264 ?_
                                                  refine rs_aload_n i_L_law_955 rfl ?_
                                                  refine rs_iload_n i_L_law_956 rfl ?_
                                                  refine rs_iconst i_L_law_957 (v := 3) (by decide) ?_
                                                  refine rs_iadd i_L_law_958 ?_
                                                  obtain ⟨c265, hf⟩ := ite_some hf
                                                  refine rs_ialdS i_L_law_959 c265 ?_
                                                  obtain ⟨c267, hf⟩ := ite_some hf
                                                  obtain ⟨o266, e266, hf⟩ := bind_some hf
                                                  refine rs_inV i_L_law_960 m_X8_serves rfl (As := [.int (X (ix (v3 + 1))), .int (X (ix (v3 + 2))), .int (X (ix (v3 + 3)))]) (rest := [.int o261.1]) rfl rfl (Nat.le_of_ble_eq_true rfl) c267 (c_X8_serves (by omega) e266) (st' := [.int o266.1, .int o261.1]) rfl ?_
                                                  by_cases c268 : o261.1 = o266.1
                                                  · replace hf := (if_pos c268).symm.trans hf
                                                    refine rs_icT i_L_law_963 (ct_eq c268) (tg := 1773) (by decide) ?_
                                                    exact r_L_law_1773 hd ih hf
                                                  · replace hf := (if_neg c268).symm.trans hf
                                                    refine rs_icF i_L_law_963 (cf_eq c268) ?_
                                                    refine rs_iconst i_L_law_966 (v := 0) (by decide) ?_
                                                    have hf := Option.some.inj hf
                                                    subst hf
                                                    exact rs_iret i_L_law_967 m_L_law (by decide)
                                                · replace hf := (if_neg c25).symm.trans hf
                                                  by_cases c26 : ((X (ix v3)) &&& 63) = 22
                                                  · replace hf := (if_pos c26).symm.trans hf
                                                    refine rs_tsw i_L_law_33 (off := 935) (by rw [c26]; decide) (tg := 968) (by decide) ?_
                                                    refine rs_aload_n i_L_law_968 rfl ?_
                                                    refine rs_aload_n i_L_law_969 rfl ?_
                                                    refine rs_iload_n i_L_law_970 rfl ?_
                                                    refine rs_iconst i_L_law_971 (v := 1) (by decide) ?_
                                                    refine rs_iadd i_L_law_972 ?_
                                                    obtain ⟨c249, hf⟩ := ite_some hf
                                                    refine rs_ialdS i_L_law_973 c249 ?_
                                                    refine rs_aload_n i_L_law_974 rfl ?_
                                                    refine rs_iload_n i_L_law_975 rfl ?_
                                                    refine rs_iconst i_L_law_976 (v := 2) (by decide) ?_
                                                    refine rs_iadd i_L_law_977 ?_
                                                    obtain ⟨c250, hf⟩ := ite_some hf
                                                    refine rs_ialdS i_L_law_978 c250 ?_
                                                    obtain ⟨c252, hf⟩ := ite_some hf
                                                    obtain ⟨o251, e251, hf⟩ := bind_some hf
                                                    refine rs_inV i_L_law_979 m_X7_which rfl (As := [.int (X (ix (v3 + 1))), .int (X (ix (v3 + 2)))]) (rest := []) rfl rfl (Nat.le_of_ble_eq_true rfl) c252 (c_X7_which (by omega) e251) (st' := [.int o251.1]) rfl ?_
                                                    refine rs_aload_n i_L_law_982 rfl ?_
                                                    refine rs_aload_n i_L_law_983 rfl ?_
                                                    refine rs_iload_n i_L_law_984 rfl ?_
                                                    refine rs_iconst i_L_law_985 (v := 1) (by decide) ?_
                                                    refine rs_iadd i_L_law_986 ?_
                                                    obtain ⟨c253, hf⟩ := ite_some hf
                                                    refine rs_ialdS i_L_law_987 c253 ?_
                                                    refine rs_aload_n i_L_law_988 rfl ?_
                                                    refine rs_iload_n i_L_law_989 rfl ?_
                                                    refine rs_iconst i_L_law_990 (v := 2) (by decide) ?_
                                                    refine rs_iadd i_L_law_991 ?_
                                                    obtain ⟨c254, hf⟩ := ite_some hf
                                                    refine rs_ialdS i_L_law_992 c254 ?_
                                                    obtain ⟨c256, hf⟩ := ite_some hf
                                                    obtain ⟨o255, e255, hf⟩ := bind_some hf
                                                    refine rs_inV i_L_law_993 m_X8_which rfl (As := [.int (X (ix (v3 + 1))), .int (X (ix (v3 + 2)))]) (rest := [.int o251.1]) rfl rfl (Nat.le_of_ble_eq_true rfl) c256 (c_X8_which (by omega) e255) (st' := [.int o255.1, .int o251.1]) rfl ?_
                                                    by_cases c257 : o251.1 = o255.1
                                                    · replace hf := (if_pos c257).symm.trans hf
                                                      refine rs_icT i_L_law_996 (ct_eq c257) (tg := 1773) (by decide) ?_
                                                      exact r_L_law_1773 hd ih hf
                                                    · replace hf := (if_neg c257).symm.trans hf
                                                      refine rs_icF i_L_law_996 (cf_eq c257) ?_
                                                      refine rs_iconst i_L_law_999 (v := 0) (by decide) ?_
                                                      have hf := Option.some.inj hf
                                                      subst hf
                                                      exact rs_iret i_L_law_1000 m_L_law (by decide)
                                                  · replace hf := (if_neg c26).symm.trans hf
                                                    by_cases c27 : ((X (ix v3)) &&& 63) = 23
                                                    · replace hf := (if_pos c27).symm.trans hf
                                                      refine rs_tsw i_L_law_33 (off := 968) (by rw [c27]; decide) (tg := 1001) (by decide) ?_
                                                      refine rs_aload_n i_L_law_1001 rfl ?_
                                                      refine rs_aload_n i_L_law_1002 rfl ?_
                                                      refine rs_iload_n i_L_law_1003 rfl ?_
                                                      refine rs_iconst i_L_law_1004 (v := 1) (by decide) ?_
                                                      refine rs_iadd i_L_law_1005 ?_
                                                      obtain ⟨c240, hf⟩ := ite_some hf
                                                      refine rs_ialdS i_L_law_1006 c240 ?_
                                                      refine rs_aload_n i_L_law_1007 rfl ?_
                                                      refine rs_iload_n i_L_law_1008 rfl ?_
                                                      refine rs_iconst i_L_law_1009 (v := 2) (by decide) ?_
                                                      refine rs_iadd i_L_law_1010 ?_
                                                      obtain ⟨c241, hf⟩ := ite_some hf
                                                      refine rs_ialdS i_L_law_1011 c241 ?_
                                                      obtain ⟨c243, hf⟩ := ite_some hf
                                                      obtain ⟨o242, e242, hf⟩ := bind_some hf
                                                      refine rs_inV i_L_law_1012 m_X7_fault rfl (As := [.int (X (ix (v3 + 1))), .int (X (ix (v3 + 2)))]) (rest := []) rfl rfl (Nat.le_of_ble_eq_true rfl) c243 (c_X7_fault (by omega) e242) (st' := [.int o242.1]) rfl ?_
                                                      refine rs_aload_n i_L_law_1015 rfl ?_
                                                      refine rs_aload_n i_L_law_1016 rfl ?_
                                                      refine rs_iload_n i_L_law_1017 rfl ?_
                                                      refine rs_iconst i_L_law_1018 (v := 1) (by decide) ?_
                                                      refine rs_iadd i_L_law_1019 ?_
                                                      obtain ⟨c244, hf⟩ := ite_some hf
                                                      refine rs_ialdS i_L_law_1020 c244 ?_
                                                      refine rs_aload_n i_L_law_1021 rfl ?_
                                                      refine rs_iload_n i_L_law_1022 rfl ?_
                                                      refine rs_iconst i_L_law_1023 (v := 2) (by decide) ?_
                                                      refine rs_iadd i_L_law_1024 ?_
                                                      obtain ⟨c245, hf⟩ := ite_some hf
                                                      refine rs_ialdS i_L_law_1025 c245 ?_
                                                      obtain ⟨c247, hf⟩ := ite_some hf
                                                      obtain ⟨o246, e246, hf⟩ := bind_some hf
                                                      refine rs_inV i_L_law_1026 m_X8_fault rfl (As := [.int (X (ix (v3 + 1))), .int (X (ix (v3 + 2)))]) (rest := [.int o242.1]) rfl rfl (Nat.le_of_ble_eq_true rfl) c247 (c_X8_fault (by omega) e246) (st' := [.int o246.1, .int o242.1]) rfl ?_
                                                      by_cases c248 : o242.1 = o246.1
                                                      · replace hf := (if_pos c248).symm.trans hf
                                                        refine rs_icT i_L_law_1029 (ct_eq c248) (tg := 1773) (by decide) ?_
                                                        exact r_L_law_1773 hd ih hf
                                                      · replace hf := (if_neg c248).symm.trans hf
                                                        refine rs_icF i_L_law_1029 (cf_eq c248) ?_
                                                        refine rs_iconst i_L_law_1032 (v := 0) (by decide) ?_
                                                        have hf := Option.some.inj hf
                                                        subst hf
                                                        exact rs_iret i_L_law_1033 m_L_law (by decide)
                                                    · replace hf := (if_neg c27).symm.trans hf
                                                      by_cases c28 : ((X (ix v3)) &&& 63) = 24
                                                      · replace hf := (if_pos c28).symm.trans hf
                                                        refine rs_tsw i_L_law_33 (off := 1001) (by rw [c28]; decide) (tg := 1034) (by decide) ?_
                                                        refine rs_aload_n i_L_law_1034 rfl ?_
                                                        refine rs_aload_n i_L_law_1035 rfl ?_
                                                        refine rs_iload_n i_L_law_1036 rfl ?_
                                                        refine rs_iconst i_L_law_1037 (v := 1) (by decide) ?_
                                                        refine rs_iadd i_L_law_1038 ?_
                                                        obtain ⟨c231, hf⟩ := ite_some hf
                                                        refine rs_ialdS i_L_law_1039 c231 ?_
                                                        refine rs_aload_n i_L_law_1040 rfl ?_
                                                        refine rs_iload_n i_L_law_1041 rfl ?_
                                                        refine rs_iconst i_L_law_1042 (v := 2) (by decide) ?_
                                                        refine rs_iadd i_L_law_1043 ?_
                                                        obtain ⟨c232, hf⟩ := ite_some hf
                                                        refine rs_ialdS i_L_law_1044 c232 ?_
                                                        obtain ⟨c234, hf⟩ := ite_some hf
                                                        obtain ⟨o233, e233, hf⟩ := bind_some hf
                                                        refine rs_inV i_L_law_1045 m_X7_uneven rfl (As := [.int (X (ix (v3 + 1))), .int (X (ix (v3 + 2)))]) (rest := []) rfl rfl (Nat.le_of_ble_eq_true rfl) c234 (c_X7_uneven (by omega) e233) (st' := [.int o233.1]) rfl ?_
                                                        refine rs_aload_n i_L_law_1048 rfl ?_
                                                        refine rs_aload_n i_L_law_1049 rfl ?_
                                                        refine rs_iload_n i_L_law_1050 rfl ?_
                                                        refine rs_iconst i_L_law_1051 (v := 1) (by decide) ?_
                                                        refine rs_iadd i_L_law_1052 ?_
                                                        obtain ⟨c235, hf⟩ := ite_some hf
                                                        refine rs_ialdS i_L_law_1053 c235 ?_
                                                        refine rs_aload_n i_L_law_1054 rfl ?_
                                                        refine rs_iload_n i_L_law_1055 rfl ?_
                                                        refine rs_iconst i_L_law_1056 (v := 2) (by decide) ?_
                                                        refine rs_iadd i_L_law_1057 ?_
                                                        obtain ⟨c236, hf⟩ := ite_some hf
                                                        refine rs_ialdS i_L_law_1058 c236 ?_
                                                        obtain ⟨c238, hf⟩ := ite_some hf
                                                        obtain ⟨o237, e237, hf⟩ := bind_some hf
                                                        refine rs_inV i_L_law_1059 m_X8_uneven rfl (As := [.int (X (ix (v3 + 1))), .int (X (ix (v3 + 2)))]) (rest := [.int o233.1]) rfl rfl (Nat.le_of_ble_eq_true rfl) c238 (c_X8_uneven (by omega) e237) (st' := [.int o237.1, .int o233.1]) rfl ?_
                                                        by_cases c239 : o233.1 = o237.1
                                                        · replace hf := (if_pos c239).symm.trans hf
                                                          refine rs_icT i_L_law_1062 (ct_eq c239) (tg := 1773) (by decide) ?_
                                                          exact r_L_law_1773 hd ih hf
                                                        · replace hf := (if_neg c239).symm.trans hf
                                                          refine rs_icF i_L_law_1062 (cf_eq c239) ?_
                                                          refine rs_iconst i_L_law_1065 (v := 0) (by decide) ?_
                                                          have hf := Option.some.inj hf
                                                          subst hf
                                                          exact rs_iret i_L_law_1066 m_L_law (by decide)
                                                      · replace hf := (if_neg c28).symm.trans hf
                                                        by_cases c29 : ((X (ix v3)) &&& 63) = 25
                                                        · replace hf := (if_pos c29).symm.trans hf
                                                          refine rs_tsw i_L_law_33 (off := 1034) (by rw [c29]; decide) (tg := 1067) (by decide) ?_
                                                          refine rs_aload_n i_L_law_1067 rfl ?_
                                                          refine rs_aload_n i_L_law_1068 rfl ?_
                                                          refine rs_iload_n i_L_law_1069 rfl ?_
                                                          refine rs_iconst i_L_law_1070 (v := 1) (by decide) ?_
                                                          refine rs_iadd i_L_law_1071 ?_
                                                          obtain ⟨c220, hf⟩ := ite_some hf
                                                          refine rs_ialdS i_L_law_1072 c220 ?_
                                                          refine rs_aload_n i_L_law_1073 rfl ?_
                                                          refine rs_iload_n i_L_law_1074 rfl ?_
                                                          refine rs_iconst i_L_law_1075 (v := 2) (by decide) ?_
                                                          refine rs_iadd i_L_law_1076 ?_
                                                          obtain ⟨c221, hf⟩ := ite_some hf
                                                          refine rs_ialdS i_L_law_1077 c221 ?_
                                                          refine rs_aload_n i_L_law_1078 rfl ?_
                                                          refine rs_iload_n i_L_law_1079 rfl ?_
                                                          refine rs_iconst i_L_law_1080 (v := 3) (by decide) ?_
                                                          refine rs_iadd i_L_law_1081 ?_
                                                          obtain ⟨c222, hf⟩ := ite_some hf
                                                          refine rs_ialdS i_L_law_1082 c222 ?_
                                                          obtain ⟨c224, hf⟩ := ite_some hf
                                                          obtain ⟨o223, e223, hf⟩ := bind_some hf
                                                          refine rs_inV i_L_law_1083 m_X7_cooks rfl (As := [.int (X (ix (v3 + 1))), .int (X (ix (v3 + 2))), .int (X (ix (v3 + 3)))]) (rest := []) rfl rfl (Nat.le_of_ble_eq_true rfl) c224 (c_X7_cooks (by omega) e223) (st' := [.int o223.1]) rfl ?_
                                                          refine rs_aload_n i_L_law_1086 rfl ?_
                                                          refine rs_aload_n i_L_law_1087 rfl ?_
                                                          refine rs_iload_n i_L_law_1088 rfl ?_
                                                          refine rs_iconst i_L_law_1089 (v := 1) (by decide) ?_
                                                          refine rs_iadd i_L_law_1090 ?_
                                                          obtain ⟨c225, hf⟩ := ite_some hf
                                                          refine rs_ialdS i_L_law_1091 c225 ?_
                                                          refine rs_aload_n i_L_law_1092 rfl ?_
                                                          refine rs_iload_n i_L_law_1093 rfl ?_
                                                          refine rs_iconst i_L_law_1094 (v := 2) (by decide) ?_
                                                          refine rs_iadd i_L_law_1095 ?_
                                                          obtain ⟨c226, hf⟩ := ite_some hf
                                                          refine rs_ialdS i_L_law_1096 c226 ?_
                                                          refine rs_aload_n i_L_law_1097 rfl ?_
                                                          refine rs_iload_n i_L_law_1098 rfl ?_
                                                          refine rs_iconst i_L_law_1099 (v := 3) (by decide) ?_
                                                          refine rs_iadd i_L_law_1100 ?_
                                                          obtain ⟨c227, hf⟩ := ite_some hf
                                                          refine rs_ialdS i_L_law_1101 c227 ?_
                                                          obtain ⟨c229, hf⟩ := ite_some hf
                                                          obtain ⟨o228, e228, hf⟩ := bind_some hf
                                                          refine rs_inV i_L_law_1102 m_X8_cooks rfl (As := [.int (X (ix (v3 + 1))), .int (X (ix (v3 + 2))), .int (X (ix (v3 + 3)))]) (rest := [.int o223.1]) rfl rfl (Nat.le_of_ble_eq_true rfl) c229 (c_X8_cooks (by omega) e228) (st' := [.int o228.1, .int o223.1]) rfl ?_
                                                          by_cases c230 : o223.1 = o228.1
                                                          · replace hf := (if_pos c230).symm.trans hf
                                                            refine rs_icT i_L_law_1105 (ct_eq c230) (tg := 1773) (by decide) ?_
                                                            exact r_L_law_1773 hd ih hf
                                                          · replace hf := (if_neg c230).symm.trans hf
                                                            refine rs_icF i_L_law_1105 (cf_eq c230) ?_
                                                            refine rs_iconst i_L_law_1108 (v := 0) (by decide) ?_
                                                            have hf := Option.some.inj hf
                                                            subst hf
                                                            exact rs_iret i_L_law_1109 m_L_law (by decide)
                                                        · replace hf := (if_neg c29).symm.trans hf
                                                          by_cases c30 : ((X (ix v3)) &&& 63) = 26
                                                          · replace hf := (if_pos c30).symm.trans hf
                                                            refine rs_tsw i_L_law_33 (off := 1077) (by rw [c30]; decide) (tg := 1110) (by decide) ?_
                                                            refine rs_aload_n i_L_law_1110 rfl ?_
                                                            refine rs_aload_n i_L_law_1111 rfl ?_
                                                            refine rs_iload_n i_L_law_1112 rfl ?_
                                                            refine rs_iconst i_L_law_1113 (v := 1) (by decide) ?_
                                                            refine rs_iadd i_L_law_1114 ?_
                                                            obtain ⟨c213, hf⟩ := ite_some hf
                                                            refine rs_ialdS i_L_law_1115 c213 ?_
                                                            obtain ⟨c215, hf⟩ := ite_some hf
                                                            obtain ⟨o214, e214, hf⟩ := bind_some hf
                                                            refine rs_inV i_L_law_1116 m_X7_pot rfl (As := [.int (X (ix (v3 + 1)))]) (rest := []) rfl rfl (Nat.le_of_ble_eq_true rfl) c215 (c_X7_pot (by omega) e214) (st' := [.int o214.1]) rfl ?_
                                                            refine rs_aload_n i_L_law_1119 rfl ?_
                                                            refine rs_aload_n i_L_law_1120 rfl ?_
                                                            refine rs_iload_n i_L_law_1121 rfl ?_
                                                            refine rs_iconst i_L_law_1122 (v := 1) (by decide) ?_
                                                            refine rs_iadd i_L_law_1123 ?_
                                                            obtain ⟨c216, hf⟩ := ite_some hf
                                                            refine rs_ialdS i_L_law_1124 c216 ?_
                                                            obtain ⟨c218, hf⟩ := ite_some hf
                                                            obtain ⟨o217, e217, hf⟩ := bind_some hf
                                                            refine rs_inV i_L_law_1125 m_X8_pot rfl (As := [.int (X (ix (v3 + 1)))]) (rest := [.int o214.1]) rfl rfl (Nat.le_of_ble_eq_true rfl) c218 (c_X8_pot (by omega) e217) (st' := [.int o217.1, .int o214.1]) rfl ?_
                                                            by_cases c219 : o214.1 = o217.1
                                                            · replace hf := (if_pos c219).symm.trans hf
                                                              refine rs_icT i_L_law_1128 (ct_eq c219) (tg := 1773) (by decide) ?_
                                                              exact r_L_law_1773 hd ih hf
                                                            · replace hf := (if_neg c219).symm.trans hf
                                                              refine rs_icF i_L_law_1128 (cf_eq c219) ?_
                                                              refine rs_iconst i_L_law_1131 (v := 0) (by decide) ?_
                                                              have hf := Option.some.inj hf
                                                              subst hf
                                                              exact rs_iret i_L_law_1132 m_L_law (by decide)
                                                          · replace hf := (if_neg c30).symm.trans hf
                                                            by_cases c31 : ((X (ix v3)) &&& 63) = 27
                                                            · replace hf := (if_pos c31).symm.trans hf
                                                              refine rs_tsw i_L_law_33 (off := 1100) (by rw [c31]; decide) (tg := 1133) (by decide) ?_
                                                              refine rs_aload_n i_L_law_1133 rfl ?_
                                                              refine rs_aload_n i_L_law_1134 rfl ?_
                                                              refine rs_iload_n i_L_law_1135 rfl ?_
                                                              refine rs_iconst i_L_law_1136 (v := 1) (by decide) ?_
                                                              refine rs_iadd i_L_law_1137 ?_
                                                              obtain ⟨c204, hf⟩ := ite_some hf
                                                              refine rs_ialdS i_L_law_1138 c204 ?_
                                                              refine rs_aload_n i_L_law_1139 rfl ?_
                                                              refine rs_iload_n i_L_law_1140 rfl ?_
                                                              refine rs_iconst i_L_law_1141 (v := 2) (by decide) ?_
                                                              refine rs_iadd i_L_law_1142 ?_
                                                              obtain ⟨c205, hf⟩ := ite_some hf
                                                              refine rs_ialdS i_L_law_1143 c205 ?_
                                                              obtain ⟨c207, hf⟩ := ite_some hf
                                                              obtain ⟨o206, e206, hf⟩ := bind_some hf
                                                              refine rs_inV i_L_law_1144 m_X7_place rfl (As := [.int (X (ix (v3 + 1))), .int (X (ix (v3 + 2)))]) (rest := []) rfl rfl (Nat.le_of_ble_eq_true rfl) c207 (c_X7_place (by omega) e206) (st' := [.int o206.1]) rfl ?_
                                                              refine rs_aload_n i_L_law_1147 rfl ?_
                                                              refine rs_aload_n i_L_law_1148 rfl ?_
                                                              refine rs_iload_n i_L_law_1149 rfl ?_
                                                              refine rs_iconst i_L_law_1150 (v := 1) (by decide) ?_
                                                              refine rs_iadd i_L_law_1151 ?_
                                                              obtain ⟨c208, hf⟩ := ite_some hf
                                                              refine rs_ialdS i_L_law_1152 c208 ?_
                                                              refine rs_aload_n i_L_law_1153 rfl ?_
                                                              refine rs_iload_n i_L_law_1154 rfl ?_
                                                              refine rs_iconst i_L_law_1155 (v := 2) (by decide) ?_
                                                              refine rs_iadd i_L_law_1156 ?_
                                                              obtain ⟨c209, hf⟩ := ite_some hf
                                                              refine rs_ialdS i_L_law_1157 c209 ?_
                                                              obtain ⟨c211, hf⟩ := ite_some hf
                                                              obtain ⟨o210, e210, hf⟩ := bind_some hf
                                                              refine rs_inV i_L_law_1158 m_X8_place rfl (As := [.int (X (ix (v3 + 1))), .int (X (ix (v3 + 2)))]) (rest := [.int o206.1]) rfl rfl (Nat.le_of_ble_eq_true rfl) c211 (c_X8_place (by omega) e210) (st' := [.int o210.1, .int o206.1]) rfl ?_
                                                              by_cases c212 : o206.1 = o210.1
                                                              · replace hf := (if_pos c212).symm.trans hf
                                                                refine rs_icT i_L_law_1161 (ct_eq c212) (tg := 1773) (by decide) ?_
                                                                exact r_L_law_1773 hd ih hf
                                                              · replace hf := (if_neg c212).symm.trans hf
                                                                refine rs_icF i_L_law_1161 (cf_eq c212) ?_
                                                                refine rs_iconst i_L_law_1164 (v := 0) (by decide) ?_
                                                                have hf := Option.some.inj hf
                                                                subst hf
                                                                exact rs_iret i_L_law_1165 m_L_law (by decide)
                                                            · replace hf := (if_neg c31).symm.trans hf
                                                              by_cases c32 : ((X (ix v3)) &&& 63) = 28
                                                              · replace hf := (if_pos c32).symm.trans hf
                                                                refine rs_tsw i_L_law_33 (off := 1133) (by rw [c32]; decide) (tg := 1166) (by decide) ?_
                                                                refine rs_aload_n i_L_law_1166 rfl ?_
                                                                refine rs_aload_n i_L_law_1167 rfl ?_
                                                                refine rs_iload_n i_L_law_1168 rfl ?_
                                                                refine rs_iconst i_L_law_1169 (v := 1) (by decide) ?_
                                                                refine rs_iadd i_L_law_1170 ?_
                                                                obtain ⟨c193, hf⟩ := ite_some hf
                                                                refine rs_ialdS i_L_law_1171 c193 ?_
                                                                refine rs_aload_n i_L_law_1172 rfl ?_
                                                                refine rs_iload_n i_L_law_1173 rfl ?_
                                                                refine rs_iconst i_L_law_1174 (v := 2) (by decide) ?_
                                                                refine rs_iadd i_L_law_1175 ?_
                                                                obtain ⟨c194, hf⟩ := ite_some hf
                                                                refine rs_ialdS i_L_law_1176 c194 ?_
                                                                refine rs_aload_n i_L_law_1177 rfl ?_
                                                                refine rs_iload_n i_L_law_1178 rfl ?_
                                                                refine rs_iconst i_L_law_1179 (v := 3) (by decide) ?_
                                                                refine rs_iadd i_L_law_1180 ?_
                                                                obtain ⟨c195, hf⟩ := ite_some hf
                                                                refine rs_ialdS i_L_law_1181 c195 ?_
                                                                obtain ⟨c197, hf⟩ := ite_some hf
                                                                obtain ⟨o196, e196, hf⟩ := bind_some hf
                                                                refine rs_inV i_L_law_1182 m_X7_apart rfl (As := [.int (X (ix (v3 + 1))), .int (X (ix (v3 + 2))), .int (X (ix (v3 + 3)))]) (rest := []) rfl rfl (Nat.le_of_ble_eq_true rfl) c197 (c_X7_apart (by omega) e196) (st' := [.int o196.1]) rfl ?_
                                                                refine rs_aload_n i_L_law_1185 rfl ?_
                                                                refine rs_aload_n i_L_law_1186 rfl ?_
                                                                refine rs_iload_n i_L_law_1187 rfl ?_
                                                                refine rs_iconst i_L_law_1188 (v := 1) (by decide) ?_
                                                                refine rs_iadd i_L_law_1189 ?_
                                                                obtain ⟨c198, hf⟩ := ite_some hf
                                                                refine rs_ialdS i_L_law_1190 c198 ?_
                                                                refine rs_aload_n i_L_law_1191 rfl ?_
                                                                refine rs_iload_n i_L_law_1192 rfl ?_
                                                                refine rs_iconst i_L_law_1193 (v := 2) (by decide) ?_
                                                                refine rs_iadd i_L_law_1194 ?_
                                                                obtain ⟨c199, hf⟩ := ite_some hf
                                                                refine rs_ialdS i_L_law_1195 c199 ?_
                                                                refine rs_aload_n i_L_law_1196 rfl ?_
                                                                refine rs_iload_n i_L_law_1197 rfl ?_
                                                                refine rs_iconst i_L_law_1198 (v := 3) (by decide) ?_
                                                                refine rs_iadd i_L_law_1199 ?_
                                                                obtain ⟨c200, hf⟩ := ite_some hf
                                                                refine rs_ialdS i_L_law_1200 c200 ?_
                                                                obtain ⟨c202, hf⟩ := ite_some hf
                                                                obtain ⟨o201, e201, hf⟩ := bind_some hf
                                                                refine rs_inV i_L_law_1201 m_X8_apart rfl (As := [.int (X (ix (v3 + 1))), .int (X (ix (v3 + 2))), .int (X (ix (v3 + 3)))]) (rest := [.int o196.1]) rfl rfl (Nat.le_of_ble_eq_true rfl) c202 (c_X8_apart (by omega) e201) (st' := [.int o201.1, .int o196.1]) rfl ?_
                                                                by_cases c203 : o196.1 = o201.1
                                                                · replace hf := (if_pos c203).symm.trans hf
                                                                  refine rs_icT i_L_law_1204 (ct_eq c203) (tg := 1773) (by decide) ?_
                                                                  exact r_L_law_1773 hd ih hf
                                                                · replace hf := (if_neg c203).symm.trans hf
                                                                  refine rs_icF i_L_law_1204 (cf_eq c203) ?_
                                                                  refine rs_iconst i_L_law_1207 (v := 0) (by decide) ?_
                                                                  have hf := Option.some.inj hf
                                                                  subst hf
                                                                  exact rs_iret i_L_law_1208 m_L_law (by decide)
                                                              · replace hf := (if_neg c32).symm.trans hf
                                                                by_cases c33 : ((X (ix v3)) &&& 63) = 29
                                                                · replace hf := (if_pos c33).symm.trans hf
                                                                  refine rs_tsw i_L_law_33 (off := 1176) (by rw [c33]; decide) (tg := 1209) (by decide) ?_
                                                                  refine rs_aload_n i_L_law_1209 rfl ?_
                                                                  refine rs_aload_n i_L_law_1210 rfl ?_
                                                                  refine rs_iload_n i_L_law_1211 rfl ?_
                                                                  refine rs_iconst i_L_law_1212 (v := 1) (by decide) ?_
                                                                  refine rs_iadd i_L_law_1213 ?_
                                                                  obtain ⟨c182, hf⟩ := ite_some hf
                                                                  refine rs_ialdS i_L_law_1214 c182 ?_
                                                                  refine rs_aload_n i_L_law_1215 rfl ?_
                                                                  refine rs_iload_n i_L_law_1216 rfl ?_
                                                                  refine rs_iconst i_L_law_1217 (v := 2) (by decide) ?_
                                                                  refine rs_iadd i_L_law_1218 ?_
                                                                  obtain ⟨c183, hf⟩ := ite_some hf
                                                                  refine rs_ialdS i_L_law_1219 c183 ?_
                                                                  refine rs_aload_n i_L_law_1220 rfl ?_
                                                                  refine rs_iload_n i_L_law_1221 rfl ?_
                                                                  refine rs_iconst i_L_law_1222 (v := 3) (by decide) ?_
                                                                  refine rs_iadd i_L_law_1223 ?_
                                                                  obtain ⟨c184, hf⟩ := ite_some hf
                                                                  refine rs_ialdS i_L_law_1224 c184 ?_
                                                                  obtain ⟨c186, hf⟩ := ite_some hf
                                                                  obtain ⟨o185, e185, hf⟩ := bind_some hf
                                                                  refine rs_inV i_L_law_1225 m_X7_parted rfl (As := [.int (X (ix (v3 + 1))), .int (X (ix (v3 + 2))), .int (X (ix (v3 + 3)))]) (rest := []) rfl rfl (Nat.le_of_ble_eq_true rfl) c186 (c_X7_parted (by omega) e185) (st' := [.int o185.1]) rfl ?_
                                                                  refine rs_aload_n i_L_law_1228 rfl ?_
                                                                  refine rs_aload_n i_L_law_1229 rfl ?_
                                                                  refine rs_iload_n i_L_law_1230 rfl ?_
                                                                  refine rs_iconst i_L_law_1231 (v := 1) (by decide) ?_
                                                                  refine rs_iadd i_L_law_1232 ?_
                                                                  obtain ⟨c187, hf⟩ := ite_some hf
                                                                  refine rs_ialdS i_L_law_1233 c187 ?_
                                                                  refine rs_aload_n i_L_law_1234 rfl ?_
                                                                  refine rs_iload_n i_L_law_1235 rfl ?_
                                                                  refine rs_iconst i_L_law_1236 (v := 2) (by decide) ?_
                                                                  refine rs_iadd i_L_law_1237 ?_
                                                                  obtain ⟨c188, hf⟩ := ite_some hf
                                                                  refine rs_ialdS i_L_law_1238 c188 ?_
                                                                  refine rs_aload_n i_L_law_1239 rfl ?_
                                                                  refine rs_iload_n i_L_law_1240 rfl ?_
                                                                  refine rs_iconst i_L_law_1241 (v := 3) (by decide) ?_
                                                                  refine rs_iadd i_L_law_1242 ?_
                                                                  obtain ⟨c189, hf⟩ := ite_some hf
                                                                  refine rs_ialdS i_L_law_1243 c189 ?_
                                                                  obtain ⟨c191, hf⟩ := ite_some hf
                                                                  obtain ⟨o190, e190, hf⟩ := bind_some hf
                                                                  refine rs_inV i_L_law_1244 m_X8_parted rfl (As := [.int (X (ix (v3 + 1))), .int (X (ix (v3 + 2))), .int (X (ix (v3 + 3)))]) (rest := [.int o185.1]) rfl rfl (Nat.le_of_ble_eq_true rfl) c191 (c_X8_parted (by omega) e190) (st' := [.int o190.1, .int o185.1]) rfl ?_
                                                                  by_cases c192 : o185.1 = o190.1
                                                                  · replace hf := (if_pos c192).symm.trans hf
                                                                    refine rs_icT i_L_law_1247 (ct_eq c192) (tg := 1773) (by decide) ?_
                                                                    exact r_L_law_1773 hd ih hf
                                                                  · replace hf := (if_neg c192).symm.trans hf
                                                                    refine rs_icF i_L_law_1247 (cf_eq c192) ?_
                                                                    refine rs_iconst i_L_law_1250 (v := 0) (by decide) ?_
                                                                    have hf := Option.some.inj hf
                                                                    subst hf
                                                                    exact rs_iret i_L_law_1251 m_L_law (by decide)
                                                                · replace hf := (if_neg c33).symm.trans hf
                                                                  by_cases c34 : ((X (ix v3)) &&& 63) = 30
                                                                  · replace hf := (if_pos c34).symm.trans hf
                                                                    refine rs_tsw i_L_law_33 (off := 1219) (by rw [c34]; decide) (tg := 1252) (by decide) ?_
                                                                    refine rs_aload_n i_L_law_1252 rfl ?_
                                                                    refine rs_aload_n i_L_law_1253 rfl ?_
                                                                    refine rs_iload_n i_L_law_1254 rfl ?_
                                                                    refine rs_iconst i_L_law_1255 (v := 1) (by decide) ?_
                                                                    refine rs_iadd i_L_law_1256 ?_
                                                                    obtain ⟨c175, hf⟩ := ite_some hf
                                                                    refine rs_ialdS i_L_law_1257 c175 ?_
                                                                    obtain ⟨c177, hf⟩ := ite_some hf
                                                                    obtain ⟨o176, e176, hf⟩ := bind_some hf
                                                                    refine rs_inV i_L_law_1258 m_X7_round rfl (As := [.int (X (ix (v3 + 1)))]) (rest := []) rfl rfl (Nat.le_of_ble_eq_true rfl) c177 (c_X7_round (by omega) e176) (st' := [.int o176.1]) rfl ?_
                                                                    refine rs_aload_n i_L_law_1261 rfl ?_
                                                                    refine rs_aload_n i_L_law_1262 rfl ?_
                                                                    refine rs_iload_n i_L_law_1263 rfl ?_
                                                                    refine rs_iconst i_L_law_1264 (v := 1) (by decide) ?_
                                                                    refine rs_iadd i_L_law_1265 ?_
                                                                    obtain ⟨c178, hf⟩ := ite_some hf
                                                                    refine rs_ialdS i_L_law_1266 c178 ?_
                                                                    obtain ⟨c180, hf⟩ := ite_some hf
                                                                    obtain ⟨o179, e179, hf⟩ := bind_some hf
                                                                    refine rs_inV i_L_law_1267 m_X8_round rfl (As := [.int (X (ix (v3 + 1)))]) (rest := [.int o176.1]) rfl rfl (Nat.le_of_ble_eq_true rfl) c180 (c_X8_round (by omega) e179) (st' := [.int o179.1, .int o176.1]) rfl ?_
                                                                    by_cases c181 : o176.1 = o179.1
                                                                    · replace hf := (if_pos c181).symm.trans hf
                                                                      refine rs_icT i_L_law_1270 (ct_eq c181) (tg := 1773) (by decide) ?_
                                                                      exact r_L_law_1773 hd ih hf
                                                                    · replace hf := (if_neg c181).symm.trans hf
                                                                      refine rs_icF i_L_law_1270 (cf_eq c181) ?_
                                                                      refine rs_iconst i_L_law_1273 (v := 0) (by decide) ?_
                                                                      have hf := Option.some.inj hf
                                                                      subst hf
                                                                      exact rs_iret i_L_law_1274 m_L_law (by decide)
                                                                  · replace hf := (if_neg c34).symm.trans hf
                                                                    by_cases c35 : ((X (ix v3)) &&& 63) = 31
                                                                    · replace hf := (if_pos c35).symm.trans hf
                                                                      refine rs_tsw i_L_law_33 (off := 1242) (by rw [c35]; decide) (tg := 1275) (by decide) ?_
                                                                      refine rs_aload_n i_L_law_1275 rfl ?_
                                                                      refine rs_aload_n i_L_law_1276 rfl ?_
                                                                      refine rs_iload_n i_L_law_1277 rfl ?_
                                                                      refine rs_iconst i_L_law_1278 (v := 1) (by decide) ?_
                                                                      refine rs_iadd i_L_law_1279 ?_
                                                                      obtain ⟨c164, hf⟩ := ite_some hf
                                                                      refine rs_ialdS i_L_law_1280 c164 ?_
                                                                      refine rs_aload_n i_L_law_1281 rfl ?_
                                                                      refine rs_iload_n i_L_law_1282 rfl ?_
                                                                      refine rs_iconst i_L_law_1283 (v := 2) (by decide) ?_
                                                                      refine rs_iadd i_L_law_1284 ?_
                                                                      obtain ⟨c165, hf⟩ := ite_some hf
                                                                      refine rs_ialdS i_L_law_1285 c165 ?_
                                                                      refine rs_aload_n i_L_law_1286 rfl ?_
                                                                      refine rs_iload_n i_L_law_1287 rfl ?_
                                                                      refine rs_iconst i_L_law_1288 (v := 3) (by decide) ?_
                                                                      refine rs_iadd i_L_law_1289 ?_
                                                                      obtain ⟨c166, hf⟩ := ite_some hf
                                                                      refine rs_ialdS i_L_law_1290 c166 ?_
                                                                      obtain ⟨c168, hf⟩ := ite_some hf
                                                                      obtain ⟨o167, e167, hf⟩ := bind_some hf
                                                                      refine rs_inV i_L_law_1291 m_X7_colours rfl (As := [.int (X (ix (v3 + 1))), .int (X (ix (v3 + 2))), .int (X (ix (v3 + 3)))]) (rest := []) rfl rfl (Nat.le_of_ble_eq_true rfl) c168 (c_X7_colours (by omega) e167) (st' := [.int o167.1]) rfl ?_
                                                                      refine rs_aload_n i_L_law_1294 rfl ?_
                                                                      refine rs_aload_n i_L_law_1295 rfl ?_
                                                                      refine rs_iload_n i_L_law_1296 rfl ?_
                                                                      refine rs_iconst i_L_law_1297 (v := 1) (by decide) ?_
                                                                      refine rs_iadd i_L_law_1298 ?_
                                                                      obtain ⟨c169, hf⟩ := ite_some hf
                                                                      refine rs_ialdS i_L_law_1299 c169 ?_
                                                                      refine rs_aload_n i_L_law_1300 rfl ?_
                                                                      refine rs_iload_n i_L_law_1301 rfl ?_
                                                                      refine rs_iconst i_L_law_1302 (v := 2) (by decide) ?_
                                                                      refine rs_iadd i_L_law_1303 ?_
                                                                      obtain ⟨c170, hf⟩ := ite_some hf
                                                                      refine rs_ialdS i_L_law_1304 c170 ?_
                                                                      refine rs_aload_n i_L_law_1305 rfl ?_
                                                                      refine rs_iload_n i_L_law_1306 rfl ?_
                                                                      refine rs_iconst i_L_law_1307 (v := 3) (by decide) ?_
                                                                      refine rs_iadd i_L_law_1308 ?_
                                                                      obtain ⟨c171, hf⟩ := ite_some hf
                                                                      refine rs_ialdS i_L_law_1309 c171 ?_
                                                                      obtain ⟨c173, hf⟩ := ite_some hf
                                                                      obtain ⟨o172, e172, hf⟩ := bind_some hf
                                                                      refine rs_inV i_L_law_1310 m_X8_colours rfl (As := [.int (X (ix (v3 + 1))), .int (X (ix (v3 + 2))), .int (X (ix (v3 + 3)))]) (rest := [.int o167.1]) rfl rfl (Nat.le_of_ble_eq_true rfl) c173 (c_X8_colours (by omega) e172) (st' := [.int o172.1, .int o167.1]) rfl ?_
                                                                      by_cases c174 : o167.1 = o172.1
                                                                      · replace hf := (if_pos c174).symm.trans hf
                                                                        refine rs_icT i_L_law_1313 (ct_eq c174) (tg := 1773) (by decide) ?_
                                                                        exact r_L_law_1773 hd ih hf
                                                                      · replace hf := (if_neg c174).symm.trans hf
                                                                        refine rs_icF i_L_law_1313 (cf_eq c174) ?_
                                                                        refine rs_iconst i_L_law_1316 (v := 0) (by decide) ?_
                                                                        have hf := Option.some.inj hf
                                                                        subst hf
                                                                        exact rs_iret i_L_law_1317 m_L_law (by decide)
                                                                    · replace hf := (if_neg c35).symm.trans hf
                                                                      by_cases c36 : ((X (ix v3)) &&& 63) = 32
                                                                      · replace hf := (if_pos c36).symm.trans hf
                                                                        refine rs_tsw i_L_law_33 (off := 1285) (by rw [c36]; decide) (tg := 1318) (by decide) ?_
                                                                        refine rs_aload_n i_L_law_1318 rfl ?_
                                                                        refine rs_aload_n i_L_law_1319 rfl ?_
                                                                        refine rs_iload_n i_L_law_1320 rfl ?_
                                                                        refine rs_iconst i_L_law_1321 (v := 1) (by decide) ?_
                                                                        refine rs_iadd i_L_law_1322 ?_
                                                                        obtain ⟨c153, hf⟩ := ite_some hf
                                                                        refine rs_ialdS i_L_law_1323 c153 ?_
                                                                        refine rs_aload_n i_L_law_1324 rfl ?_
                                                                        refine rs_iload_n i_L_law_1325 rfl ?_
                                                                        refine rs_iconst i_L_law_1326 (v := 2) (by decide) ?_
                                                                        refine rs_iadd i_L_law_1327 ?_
                                                                        obtain ⟨c154, hf⟩ := ite_some hf
                                                                        refine rs_ialdS i_L_law_1328 c154 ?_
                                                                        refine rs_aload_n i_L_law_1329 rfl ?_
                                                                        refine rs_iload_n i_L_law_1330 rfl ?_
                                                                        refine rs_iconst i_L_law_1331 (v := 3) (by decide) ?_
                                                                        refine rs_iadd i_L_law_1332 ?_
                                                                        obtain ⟨c155, hf⟩ := ite_some hf
                                                                        refine rs_ialdS i_L_law_1333 c155 ?_
                                                                        obtain ⟨c157, hf⟩ := ite_some hf
                                                                        obtain ⟨o156, e156, hf⟩ := bind_some hf
                                                                        refine rs_inV i_L_law_1334 m_X7_thin rfl (As := [.int (X (ix (v3 + 1))), .int (X (ix (v3 + 2))), .int (X (ix (v3 + 3)))]) (rest := []) rfl rfl (Nat.le_of_ble_eq_true rfl) c157 (c_X7_thin (by omega) e156) (st' := [.long o156.1]) rfl ?_
                                                                        refine rs_aload_n i_L_law_1337 rfl ?_
                                                                        refine rs_aload_n i_L_law_1338 rfl ?_
                                                                        refine rs_iload_n i_L_law_1339 rfl ?_
                                                                        refine rs_iconst i_L_law_1340 (v := 1) (by decide) ?_
                                                                        refine rs_iadd i_L_law_1341 ?_
                                                                        obtain ⟨c158, hf⟩ := ite_some hf
                                                                        refine rs_ialdS i_L_law_1342 c158 ?_
                                                                        refine rs_aload_n i_L_law_1343 rfl ?_
                                                                        refine rs_iload_n i_L_law_1344 rfl ?_
                                                                        refine rs_iconst i_L_law_1345 (v := 2) (by decide) ?_
                                                                        refine rs_iadd i_L_law_1346 ?_
                                                                        obtain ⟨c159, hf⟩ := ite_some hf
                                                                        refine rs_ialdS i_L_law_1347 c159 ?_
                                                                        refine rs_aload_n i_L_law_1348 rfl ?_
                                                                        refine rs_iload_n i_L_law_1349 rfl ?_
                                                                        refine rs_iconst i_L_law_1350 (v := 3) (by decide) ?_
                                                                        refine rs_iadd i_L_law_1351 ?_
                                                                        obtain ⟨c160, hf⟩ := ite_some hf
                                                                        refine rs_ialdS i_L_law_1352 c160 ?_
                                                                        obtain ⟨c162, hf⟩ := ite_some hf
                                                                        obtain ⟨o161, e161, hf⟩ := bind_some hf
                                                                        refine rs_inV i_L_law_1353 m_X8_thin rfl (As := [.int (X (ix (v3 + 1))), .int (X (ix (v3 + 2))), .int (X (ix (v3 + 3)))]) (rest := [.long o156.1]) rfl rfl (Nat.le_of_ble_eq_true rfl) c162 (c_X8_thin (by omega) e161) (st' := [.long o161.1, .long o156.1]) rfl ?_
                                                                        refine rs_lcmp i_L_law_1356 ?_
                                                                        by_cases c163 : o156.1 = o161.1
                                                                        · replace hf := (if_pos c163).symm.trans hf
                                                                          refine rs_ifT i_L_law_1357 (by rw [lc_eq]; exact decide_eq_true c163) (tg := 1773) (by decide) ?_
                                                                          exact r_L_law_1773 hd ih hf
                                                                        · replace hf := (if_neg c163).symm.trans hf
                                                                          refine rs_ifF i_L_law_1357 (by rw [lc_eq]; exact decide_eq_false c163) ?_
                                                                          refine rs_iconst i_L_law_1360 (v := 0) (by decide) ?_
                                                                          have hf := Option.some.inj hf
                                                                          subst hf
                                                                          exact rs_iret i_L_law_1361 m_L_law (by decide)
                                                                      · replace hf := (if_neg c36).symm.trans hf
                                                                        by_cases c37 : ((X (ix v3)) &&& 63) = 33
                                                                        · replace hf := (if_pos c37).symm.trans hf
                                                                          refine rs_tsw i_L_law_33 (off := 1329) (by rw [c37]; decide) (tg := 1362) (by decide) ?_
                                                                          refine rs_aload_n i_L_law_1362 rfl ?_
                                                                          refine rs_aload_n i_L_law_1363 rfl ?_
                                                                          refine rs_iload_n i_L_law_1364 rfl ?_
                                                                          refine rs_iconst i_L_law_1365 (v := 1) (by decide) ?_
                                                                          refine rs_iadd i_L_law_1366 ?_
                                                                          obtain ⟨c140, hf⟩ := ite_some hf
                                                                          refine rs_ialdS i_L_law_1367 c140 ?_
                                                                          refine rs_aload_n i_L_law_1368 rfl ?_
                                                                          refine rs_iload_n i_L_law_1369 rfl ?_
                                                                          refine rs_iconst i_L_law_1370 (v := 2) (by decide) ?_
                                                                          refine rs_iadd i_L_law_1371 ?_
                                                                          obtain ⟨c141, hf⟩ := ite_some hf
                                                                          refine rs_ialdS i_L_law_1372 c141 ?_
                                                                          refine rs_aload_n i_L_law_1373 rfl ?_
                                                                          refine rs_iload_n i_L_law_1374 rfl ?_
                                                                          refine rs_iconst i_L_law_1375 (v := 3) (by decide) ?_
                                                                          refine rs_iadd i_L_law_1376 ?_
                                                                          obtain ⟨c142, hf⟩ := ite_some hf
                                                                          refine rs_ialdS i_L_law_1377 c142 ?_
                                                                          refine rs_aload_n i_L_law_1378 rfl ?_
                                                                          refine rs_iload_n i_L_law_1379 rfl ?_
                                                                          refine rs_iconst i_L_law_1380 (v := 4) (by decide) ?_
                                                                          refine rs_iadd i_L_law_1381 ?_
                                                                          obtain ⟨c143, hf⟩ := ite_some hf
                                                                          refine rs_ialdS i_L_law_1382 c143 ?_
                                                                          obtain ⟨c145, hf⟩ := ite_some hf
                                                                          obtain ⟨o144, e144, hf⟩ := bind_some hf
                                                                          refine rs_inV i_L_law_1383 m_X7_odds rfl (As := [.int (X (ix (v3 + 1))), .int (X (ix (v3 + 2))), .int (X (ix (v3 + 3))), .int (X (ix (v3 + 4)))]) (rest := []) rfl rfl (Nat.le_of_ble_eq_true rfl) c145 (c_X7_odds (by omega) e144) (st' := [.long o144.1]) rfl ?_
                                                                          refine rs_aload_n i_L_law_1386 rfl ?_
                                                                          refine rs_aload_n i_L_law_1387 rfl ?_
                                                                          refine rs_iload_n i_L_law_1388 rfl ?_
                                                                          refine rs_iconst i_L_law_1389 (v := 1) (by decide) ?_
                                                                          refine rs_iadd i_L_law_1390 ?_
                                                                          obtain ⟨c146, hf⟩ := ite_some hf
                                                                          refine rs_ialdS i_L_law_1391 c146 ?_
                                                                          refine rs_aload_n i_L_law_1392 rfl ?_
                                                                          refine rs_iload_n i_L_law_1393 rfl ?_
                                                                          refine rs_iconst i_L_law_1394 (v := 2) (by decide) ?_
                                                                          refine rs_iadd i_L_law_1395 ?_
                                                                          obtain ⟨c147, hf⟩ := ite_some hf
                                                                          refine rs_ialdS i_L_law_1396 c147 ?_
                                                                          refine rs_aload_n i_L_law_1397 rfl ?_
                                                                          refine rs_iload_n i_L_law_1398 rfl ?_
                                                                          refine rs_iconst i_L_law_1399 (v := 3) (by decide) ?_
                                                                          refine rs_iadd i_L_law_1400 ?_
                                                                          obtain ⟨c148, hf⟩ := ite_some hf
                                                                          refine rs_ialdS i_L_law_1401 c148 ?_
                                                                          refine rs_aload_n i_L_law_1402 rfl ?_
                                                                          refine rs_iload_n i_L_law_1403 rfl ?_
                                                                          refine rs_iconst i_L_law_1404 (v := 4) (by decide) ?_
                                                                          refine rs_iadd i_L_law_1405 ?_
                                                                          obtain ⟨c149, hf⟩ := ite_some hf
                                                                          refine rs_ialdS i_L_law_1406 c149 ?_
                                                                          obtain ⟨c151, hf⟩ := ite_some hf
                                                                          obtain ⟨o150, e150, hf⟩ := bind_some hf
                                                                          refine rs_inV i_L_law_1407 m_X8_odds rfl (As := [.int (X (ix (v3 + 1))), .int (X (ix (v3 + 2))), .int (X (ix (v3 + 3))), .int (X (ix (v3 + 4)))]) (rest := [.long o144.1]) rfl rfl (Nat.le_of_ble_eq_true rfl) c151 (c_X8_odds (by omega) e150) (st' := [.long o150.1, .long o144.1]) rfl ?_
                                                                          refine rs_lcmp i_L_law_1410 ?_
                                                                          by_cases c152 : o144.1 = o150.1
                                                                          · replace hf := (if_pos c152).symm.trans hf
                                                                            refine rs_ifT i_L_law_1411 (by rw [lc_eq]; exact decide_eq_true c152) (tg := 1773) (by decide) ?_
                                                                            exact r_L_law_1773 hd ih hf
                                                                          · replace hf := (if_neg c152).symm.trans hf
                                                                            refine rs_ifF i_L_law_1411 (by rw [lc_eq]; exact decide_eq_false c152) ?_
                                                                            refine rs_iconst i_L_law_1414 (v := 0) (by decide) ?_
                                                                            have hf := Option.some.inj hf
                                                                            subst hf
                                                                            exact rs_iret i_L_law_1415 m_L_law (by decide)
                                                                        · replace hf := (if_neg c37).symm.trans hf
                                                                          by_cases c38 : ((X (ix v3)) &&& 63) = 34
                                                                          · replace hf := (if_pos c38).symm.trans hf
                                                                            refine rs_tsw i_L_law_33 (off := 1383) (by rw [c38]; decide) (tg := 1416) (by decide) ?_
                                                                            refine rs_aload_n i_L_law_1416 rfl ?_
                                                                            refine rs_aload_n i_L_law_1417 rfl ?_
                                                                            refine rs_iload_n i_L_law_1418 rfl ?_
                                                                            refine rs_iconst i_L_law_1419 (v := 1) (by decide) ?_
                                                                            refine rs_iadd i_L_law_1420 ?_
                                                                            obtain ⟨c129, hf⟩ := ite_some hf
                                                                            refine rs_ialdS i_L_law_1421 c129 ?_
                                                                            refine rs_aload_n i_L_law_1422 rfl ?_
                                                                            refine rs_iload_n i_L_law_1423 rfl ?_
                                                                            refine rs_iconst i_L_law_1424 (v := 2) (by decide) ?_
                                                                            refine rs_iadd i_L_law_1425 ?_
                                                                            obtain ⟨c130, hf⟩ := ite_some hf
                                                                            refine rs_ialdS i_L_law_1426 c130 ?_
                                                                            refine rs_aload_n i_L_law_1427 rfl ?_
                                                                            refine rs_iload_n i_L_law_1428 rfl ?_
                                                                            refine rs_iconst i_L_law_1429 (v := 3) (by decide) ?_
                                                                            refine rs_iadd i_L_law_1430 ?_
                                                                            obtain ⟨c131, hf⟩ := ite_some hf
                                                                            refine rs_ialdS i_L_law_1431 c131 ?_
                                                                            obtain ⟨c133, hf⟩ := ite_some hf
                                                                            obtain ⟨o132, e132, hf⟩ := bind_some hf
                                                                            refine rs_inV i_L_law_1432 m_X7_record rfl (As := [.int (X (ix (v3 + 1))), .int (X (ix (v3 + 2))), .int (X (ix (v3 + 3)))]) (rest := []) rfl rfl (Nat.le_of_ble_eq_true rfl) c133 (c_X7_record (by omega) e132) (st' := [.int o132.1]) rfl ?_
                                                                            refine rs_aload_n i_L_law_1435 rfl ?_
                                                                            refine rs_aload_n i_L_law_1436 rfl ?_
                                                                            refine rs_iload_n i_L_law_1437 rfl ?_
                                                                            refine rs_iconst i_L_law_1438 (v := 1) (by decide) ?_
                                                                            refine rs_iadd i_L_law_1439 ?_
                                                                            obtain ⟨c134, hf⟩ := ite_some hf
                                                                            refine rs_ialdS i_L_law_1440 c134 ?_
                                                                            refine rs_aload_n i_L_law_1441 rfl ?_
                                                                            refine rs_iload_n i_L_law_1442 rfl ?_
                                                                            refine rs_iconst i_L_law_1443 (v := 2) (by decide) ?_
                                                                            refine rs_iadd i_L_law_1444 ?_
                                                                            obtain ⟨c135, hf⟩ := ite_some hf
                                                                            refine rs_ialdS i_L_law_1445 c135 ?_
                                                                            refine rs_aload_n i_L_law_1446 rfl ?_
                                                                            refine rs_iload_n i_L_law_1447 rfl ?_
                                                                            refine rs_iconst i_L_law_1448 (v := 3) (by decide) ?_
                                                                            refine rs_iadd i_L_law_1449 ?_
                                                                            obtain ⟨c136, hf⟩ := ite_some hf
                                                                            refine rs_ialdS i_L_law_1450 c136 ?_
                                                                            obtain ⟨c138, hf⟩ := ite_some hf
                                                                            obtain ⟨o137, e137, hf⟩ := bind_some hf
                                                                            refine rs_inV i_L_law_1451 m_X8_record rfl (As := [.int (X (ix (v3 + 1))), .int (X (ix (v3 + 2))), .int (X (ix (v3 + 3)))]) (rest := [.int o132.1]) rfl rfl (Nat.le_of_ble_eq_true rfl) c138 (c_X8_record (by omega) e137) (st' := [.int o137.1, .int o132.1]) rfl ?_
                                                                            by_cases c139 : o132.1 = o137.1
                                                                            · replace hf := (if_pos c139).symm.trans hf
                                                                              refine rs_icT i_L_law_1454 (ct_eq c139) (tg := 1773) (by decide) ?_
                                                                              exact r_L_law_1773 hd ih hf
                                                                            · replace hf := (if_neg c139).symm.trans hf
                                                                              refine rs_icF i_L_law_1454 (cf_eq c139) ?_
                                                                              refine rs_iconst i_L_law_1457 (v := 0) (by decide) ?_
                                                                              have hf := Option.some.inj hf
                                                                              subst hf
                                                                              exact rs_iret i_L_law_1458 m_L_law (by decide)
                                                                          · replace hf := (if_neg c38).symm.trans hf
                                                                            by_cases c39 : ((X (ix v3)) &&& 63) = 35
                                                                            · replace hf := (if_pos c39).symm.trans hf
                                                                              refine rs_tsw i_L_law_33 (off := 1426) (by rw [c39]; decide) (tg := 1459) (by decide) ?_
                                                                              refine rs_aload_n i_L_law_1459 rfl ?_
                                                                              refine rs_aload_n i_L_law_1460 rfl ?_
                                                                              refine rs_iload_n i_L_law_1461 rfl ?_
                                                                              refine rs_iconst i_L_law_1462 (v := 1) (by decide) ?_
                                                                              refine rs_iadd i_L_law_1463 ?_
                                                                              obtain ⟨c116, hf⟩ := ite_some hf
                                                                              refine rs_ialdS i_L_law_1464 c116 ?_
                                                                              refine rs_aload_n i_L_law_1465 rfl ?_
                                                                              refine rs_iload_n i_L_law_1466 rfl ?_
                                                                              refine rs_iconst i_L_law_1467 (v := 2) (by decide) ?_
                                                                              refine rs_iadd i_L_law_1468 ?_
                                                                              obtain ⟨c117, hf⟩ := ite_some hf
                                                                              refine rs_ialdS i_L_law_1469 c117 ?_
                                                                              refine rs_aload_n i_L_law_1470 rfl ?_
                                                                              refine rs_iload_n i_L_law_1471 rfl ?_
                                                                              refine rs_iconst i_L_law_1472 (v := 3) (by decide) ?_
                                                                              refine rs_iadd i_L_law_1473 ?_
                                                                              obtain ⟨c118, hf⟩ := ite_some hf
                                                                              refine rs_ialdS i_L_law_1474 c118 ?_
                                                                              refine rs_aload_n i_L_law_1475 rfl ?_
                                                                              refine rs_iload_n i_L_law_1476 rfl ?_
                                                                              refine rs_iconst i_L_law_1477 (v := 4) (by decide) ?_
                                                                              refine rs_iadd i_L_law_1478 ?_
                                                                              obtain ⟨c119, hf⟩ := ite_some hf
                                                                              refine rs_ialdS i_L_law_1479 c119 ?_
                                                                              obtain ⟨c121, hf⟩ := ite_some hf
                                                                              obtain ⟨o120, e120, hf⟩ := bind_some hf
                                                                              refine rs_inV i_L_law_1480 m_X7_drawn rfl (As := [.int (X (ix (v3 + 1))), .int (X (ix (v3 + 2))), .int (X (ix (v3 + 3))), .int (X (ix (v3 + 4)))]) (rest := []) rfl rfl (Nat.le_of_ble_eq_true rfl) c121 (c_X7_drawn (by omega) e120) (st' := [.int o120.1]) rfl ?_
                                                                              refine rs_aload_n i_L_law_1483 rfl ?_
                                                                              refine rs_aload_n i_L_law_1484 rfl ?_
                                                                              refine rs_iload_n i_L_law_1485 rfl ?_
                                                                              refine rs_iconst i_L_law_1486 (v := 1) (by decide) ?_
                                                                              refine rs_iadd i_L_law_1487 ?_
                                                                              obtain ⟨c122, hf⟩ := ite_some hf
                                                                              refine rs_ialdS i_L_law_1488 c122 ?_
                                                                              refine rs_aload_n i_L_law_1489 rfl ?_
                                                                              refine rs_iload_n i_L_law_1490 rfl ?_
                                                                              refine rs_iconst i_L_law_1491 (v := 2) (by decide) ?_
                                                                              refine rs_iadd i_L_law_1492 ?_
                                                                              obtain ⟨c123, hf⟩ := ite_some hf
                                                                              refine rs_ialdS i_L_law_1493 c123 ?_
                                                                              refine rs_aload_n i_L_law_1494 rfl ?_
                                                                              refine rs_iload_n i_L_law_1495 rfl ?_
                                                                              refine rs_iconst i_L_law_1496 (v := 3) (by decide) ?_
                                                                              refine rs_iadd i_L_law_1497 ?_
                                                                              obtain ⟨c124, hf⟩ := ite_some hf
                                                                              refine rs_ialdS i_L_law_1498 c124 ?_
                                                                              refine rs_aload_n i_L_law_1499 rfl ?_
                                                                              refine rs_iload_n i_L_law_1500 rfl ?_
                                                                              refine rs_iconst i_L_law_1501 (v := 4) (by decide) ?_
                                                                              refine rs_iadd i_L_law_1502 ?_
                                                                              obtain ⟨c125, hf⟩ := ite_some hf
                                                                              refine rs_ialdS i_L_law_1503 c125 ?_
                                                                              obtain ⟨c127, hf⟩ := ite_some hf
                                                                              obtain ⟨o126, e126, hf⟩ := bind_some hf
                                                                              refine rs_inV i_L_law_1504 m_X8_drawn rfl (As := [.int (X (ix (v3 + 1))), .int (X (ix (v3 + 2))), .int (X (ix (v3 + 3))), .int (X (ix (v3 + 4)))]) (rest := [.int o120.1]) rfl rfl (Nat.le_of_ble_eq_true rfl) c127 (c_X8_drawn (by omega) e126) (st' := [.int o126.1, .int o120.1]) rfl ?_
                                                                              by_cases c128 : o120.1 = o126.1
                                                                              · replace hf := (if_pos c128).symm.trans hf
                                                                                refine rs_icT i_L_law_1507 (ct_eq c128) (tg := 1773) (by decide) ?_
                                                                                exact r_L_law_1773 hd ih hf
                                                                              · replace hf := (if_neg c128).symm.trans hf
                                                                                refine rs_icF i_L_law_1507 (cf_eq c128) ?_
                                                                                refine rs_iconst i_L_law_1510 (v := 0) (by decide) ?_
                                                                                have hf := Option.some.inj hf
                                                                                subst hf
                                                                                exact rs_iret i_L_law_1511 m_L_law (by decide)
                                                                            · replace hf := (if_neg c39).symm.trans hf
                                                                              by_cases c40 : ((X (ix v3)) &&& 63) = 36
                                                                              · replace hf := (if_pos c40).symm.trans hf
                                                                                refine rs_tsw i_L_law_33 (off := 1479) (by rw [c40]; decide) (tg := 1512) (by decide) ?_
                                                                                refine rs_aload_n i_L_law_1512 rfl ?_
                                                                                obtain ⟨c112, hf⟩ := ite_some hf
                                                                                obtain ⟨o111, e111, hf⟩ := bind_some hf
                                                                                refine rs_inV i_L_law_1513 m_X7_image rfl (As := []) (rest := []) rfl rfl (Nat.le_of_ble_eq_true rfl) c112 (c_X7_image (by omega) e111) (st' := [.int o111.1]) rfl ?_
                                                                                refine rs_aload_n i_L_law_1516 rfl ?_
                                                                                obtain ⟨c114, hf⟩ := ite_some hf
                                                                                obtain ⟨o113, e113, hf⟩ := bind_some hf
                                                                                refine rs_inV i_L_law_1517 m_X8_image rfl (As := []) (rest := [.int o111.1]) rfl rfl (Nat.le_of_ble_eq_true rfl) c114 (c_X8_image (by omega) e113) (st' := [.int o113.1, .int o111.1]) rfl ?_
                                                                                by_cases c115 : o111.1 = o113.1
                                                                                · replace hf := (if_pos c115).symm.trans hf
                                                                                  refine rs_icT i_L_law_1520 (ct_eq c115) (tg := 1773) (by decide) ?_
                                                                                  exact r_L_law_1773 hd ih hf
                                                                                · replace hf := (if_neg c115).symm.trans hf
                                                                                  refine rs_icF i_L_law_1520 (cf_eq c115) ?_
                                                                                  refine rs_iconst i_L_law_1523 (v := 0) (by decide) ?_
                                                                                  have hf := Option.some.inj hf
                                                                                  subst hf
                                                                                  exact rs_iret i_L_law_1524 m_L_law (by decide)
                                                                              · replace hf := (if_neg c40).symm.trans hf
                                                                                by_cases c41 : ((X (ix v3)) &&& 63) = 37
                                                                                · replace hf := (if_pos c41).symm.trans hf
                                                                                  refine rs_tsw i_L_law_33 (off := 1492) (by rw [c41]; decide) (tg := 1525) (by decide) ?_
                                                                                  refine rs_aload_n i_L_law_1525 rfl ?_
                                                                                  obtain ⟨c107, hf⟩ := ite_some hf
                                                                                  obtain ⟨o106, e106, hf⟩ := bind_some hf
                                                                                  refine rs_inV i_L_law_1526 m_X7_back rfl (As := []) (rest := []) rfl rfl (Nat.le_of_ble_eq_true rfl) c107 (c_X7_back (by omega) e106) (st' := [.int o106.1]) rfl ?_
                                                                                  refine rs_aload_n i_L_law_1529 rfl ?_
                                                                                  obtain ⟨c109, hf⟩ := ite_some hf
                                                                                  obtain ⟨o108, e108, hf⟩ := bind_some hf
                                                                                  refine rs_inV i_L_law_1530 m_X8_back rfl (As := []) (rest := [.int o106.1]) rfl rfl (Nat.le_of_ble_eq_true rfl) c109 (c_X8_back (by omega) e108) (st' := [.int o108.1, .int o106.1]) rfl ?_
                                                                                  by_cases c110 : o106.1 = o108.1
                                                                                  · replace hf := (if_pos c110).symm.trans hf
                                                                                    refine rs_icT i_L_law_1533 (ct_eq c110) (tg := 1773) (by decide) ?_
                                                                                    exact r_L_law_1773 hd ih hf
                                                                                  · replace hf := (if_neg c110).symm.trans hf
                                                                                    refine rs_icF i_L_law_1533 (cf_eq c110) ?_
                                                                                    refine rs_iconst i_L_law_1536 (v := 0) (by decide) ?_
                                                                                    have hf := Option.some.inj hf
                                                                                    subst hf
                                                                                    exact rs_iret i_L_law_1537 m_L_law (by decide)
                                                                                · replace hf := (if_neg c41).symm.trans hf
                                                                                  by_cases c42 : ((X (ix v3)) &&& 63) = 38
                                                                                  · replace hf := (if_pos c42).symm.trans hf
                                                                                    refine rs_tsw i_L_law_33 (off := 1505) (by rw [c42]; decide) (tg := 1538) (by decide) ?_
                                                                                    refine rs_aload_n i_L_law_1538 rfl ?_
                                                                                    refine rs_aload_n i_L_law_1539 rfl ?_
                                                                                    refine rs_iload_n i_L_law_1540 rfl ?_
                                                                                    refine rs_iconst i_L_law_1541 (v := 1) (by decide) ?_
                                                                                    refine rs_iadd i_L_law_1542 ?_
                                                                                    obtain ⟨c95, hf⟩ := ite_some hf
                                                                                    refine rs_ialdS i_L_law_1543 c95 ?_
                                                                                    refine rs_aload_n i_L_law_1544 rfl ?_
                                                                                    refine rs_iload_n i_L_law_1545 rfl ?_
                                                                                    refine rs_iconst i_L_law_1546 (v := 2) (by decide) ?_
                                                                                    refine rs_iadd i_L_law_1547 ?_
                                                                                    obtain ⟨c96, hf⟩ := ite_some hf
                                                                                    refine rs_ialdS i_L_law_1548 c96 ?_
                                                                                    refine rs_aload_n i_L_law_1549 rfl ?_
                                                                                    refine rs_iload_n i_L_law_1550 rfl ?_
                                                                                    refine rs_iconst i_L_law_1551 (v := 3) (by decide) ?_
                                                                                    refine rs_iadd i_L_law_1552 ?_
                                                                                    obtain ⟨c97, hf⟩ := ite_some hf
                                                                                    refine rs_ialdS i_L_law_1553 c97 ?_
                                                                                    obtain ⟨c99, hf⟩ := ite_some hf
                                                                                    obtain ⟨o98, e98, hf⟩ := bind_some hf
                                                                                    refine rs_inV i_L_law_1554 m_X7_sheet rfl (As := [.int (X (ix (v3 + 1))), .int (X (ix (v3 + 2))), .int (X (ix (v3 + 3)))]) (rest := []) rfl rfl (Nat.le_of_ble_eq_true rfl) c99 (c_X7_sheet (by omega) e98) (st' := [.int o98.1]) rfl ?_
                                                                                    refine rs_aload_n i_L_law_1557 rfl ?_
                                                                                    refine rs_aload_n i_L_law_1558 rfl ?_
                                                                                    refine rs_iload_n i_L_law_1559 rfl ?_
                                                                                    refine rs_iconst i_L_law_1560 (v := 1) (by decide) ?_
                                                                                    refine rs_iadd i_L_law_1561 ?_
                                                                                    obtain ⟨c100, hf⟩ := ite_some hf
                                                                                    refine rs_ialdS i_L_law_1562 c100 ?_
                                                                                    refine rs_aload_n i_L_law_1563 rfl ?_
                                                                                    refine rs_iload_n i_L_law_1564 rfl ?_
                                                                                    refine rs_iconst i_L_law_1565 (v := 2) (by decide) ?_
                                                                                    refine rs_iadd i_L_law_1566 ?_
                                                                                    obtain ⟨c101, hf⟩ := ite_some hf
                                                                                    refine rs_ialdS i_L_law_1567 c101 ?_
                                                                                    refine rs_aload_n i_L_law_1568 rfl ?_
                                                                                    refine rs_iload_n i_L_law_1569 rfl ?_
                                                                                    refine rs_iconst i_L_law_1570 (v := 3) (by decide) ?_
                                                                                    refine rs_iadd i_L_law_1571 ?_
                                                                                    obtain ⟨c102, hf⟩ := ite_some hf
                                                                                    refine rs_ialdS i_L_law_1572 c102 ?_
                                                                                    obtain ⟨c104, hf⟩ := ite_some hf
                                                                                    obtain ⟨o103, e103, hf⟩ := bind_some hf
                                                                                    refine rs_inV i_L_law_1573 m_X8_sheet rfl (As := [.int (X (ix (v3 + 1))), .int (X (ix (v3 + 2))), .int (X (ix (v3 + 3)))]) (rest := [.int o98.1]) rfl rfl (Nat.le_of_ble_eq_true rfl) c104 (c_X8_sheet (by omega) e103) (st' := [.int o103.1, .int o98.1]) rfl ?_
                                                                                    by_cases c105 : o98.1 = o103.1
                                                                                    · replace hf := (if_pos c105).symm.trans hf
                                                                                      refine rs_icT i_L_law_1576 (ct_eq c105) (tg := 1773) (by decide) ?_
                                                                                      exact r_L_law_1773 hd ih hf
                                                                                    · replace hf := (if_neg c105).symm.trans hf
                                                                                      refine rs_icF i_L_law_1576 (cf_eq c105) ?_
                                                                                      refine rs_iconst i_L_law_1579 (v := 0) (by decide) ?_
                                                                                      have hf := Option.some.inj hf
                                                                                      subst hf
                                                                                      exact rs_iret i_L_law_1580 m_L_law (by decide)
                                                                                  · replace hf := (if_neg c42).symm.trans hf
                                                                                    by_cases c43 : ((X (ix v3)) &&& 63) = 39
                                                                                    · replace hf := (if_pos c43).symm.trans hf
                                                                                      refine rs_tsw i_L_law_33 (off := 1548) (by rw [c43]; decide) (tg := 1581) (by decide) ?_
                                                                                      refine rs_aload_n i_L_law_1581 rfl ?_
                                                                                      refine rs_aload_n i_L_law_1582 rfl ?_
                                                                                      refine rs_iload_n i_L_law_1583 rfl ?_
                                                                                      refine rs_iconst i_L_law_1584 (v := 1) (by decide) ?_
                                                                                      refine rs_iadd i_L_law_1585 ?_
                                                                                      obtain ⟨c84, hf⟩ := ite_some hf
                                                                                      refine rs_ialdS i_L_law_1586 c84 ?_
                                                                                      refine rs_aload_n i_L_law_1587 rfl ?_
                                                                                      refine rs_iload_n i_L_law_1588 rfl ?_
                                                                                      refine rs_iconst i_L_law_1589 (v := 2) (by decide) ?_
                                                                                      refine rs_iadd i_L_law_1590 ?_
                                                                                      obtain ⟨c85, hf⟩ := ite_some hf
                                                                                      refine rs_ialdS i_L_law_1591 c85 ?_
                                                                                      refine rs_aload_n i_L_law_1592 rfl ?_
                                                                                      refine rs_iload_n i_L_law_1593 rfl ?_
                                                                                      refine rs_iconst i_L_law_1594 (v := 3) (by decide) ?_
                                                                                      refine rs_iadd i_L_law_1595 ?_
                                                                                      obtain ⟨c86, hf⟩ := ite_some hf
                                                                                      refine rs_ialdS i_L_law_1596 c86 ?_
                                                                                      obtain ⟨c88, hf⟩ := ite_some hf
                                                                                      obtain ⟨o87, e87, hf⟩ := bind_some hf
                                                                                      refine rs_inV i_L_law_1597 m_X7_cell rfl (As := [.int (X (ix (v3 + 1))), .int (X (ix (v3 + 2))), .int (X (ix (v3 + 3)))]) (rest := []) rfl rfl (Nat.le_of_ble_eq_true rfl) c88 (c_X7_cell (by omega) e87) (st' := [.int o87.1]) rfl ?_
                                                                                      refine rs_aload_n i_L_law_1600 rfl ?_
                                                                                      refine rs_aload_n i_L_law_1601 rfl ?_
                                                                                      refine rs_iload_n i_L_law_1602 rfl ?_
                                                                                      refine rs_iconst i_L_law_1603 (v := 1) (by decide) ?_
                                                                                      refine rs_iadd i_L_law_1604 ?_
                                                                                      obtain ⟨c89, hf⟩ := ite_some hf
                                                                                      refine rs_ialdS i_L_law_1605 c89 ?_
                                                                                      refine rs_aload_n i_L_law_1606 rfl ?_
                                                                                      refine rs_iload_n i_L_law_1607 rfl ?_
                                                                                      refine rs_iconst i_L_law_1608 (v := 2) (by decide) ?_
                                                                                      refine rs_iadd i_L_law_1609 ?_
                                                                                      obtain ⟨c90, hf⟩ := ite_some hf
                                                                                      refine rs_ialdS i_L_law_1610 c90 ?_
                                                                                      refine rs_aload_n i_L_law_1611 rfl ?_
                                                                                      refine rs_iload_n i_L_law_1612 rfl ?_
                                                                                      refine rs_iconst i_L_law_1613 (v := 3) (by decide) ?_
                                                                                      refine rs_iadd i_L_law_1614 ?_
                                                                                      obtain ⟨c91, hf⟩ := ite_some hf
                                                                                      refine rs_ialdS i_L_law_1615 c91 ?_
                                                                                      obtain ⟨c93, hf⟩ := ite_some hf
                                                                                      obtain ⟨o92, e92, hf⟩ := bind_some hf
                                                                                      refine rs_inV i_L_law_1616 m_X8_cell rfl (As := [.int (X (ix (v3 + 1))), .int (X (ix (v3 + 2))), .int (X (ix (v3 + 3)))]) (rest := [.int o87.1]) rfl rfl (Nat.le_of_ble_eq_true rfl) c93 (c_X8_cell (by omega) e92) (st' := [.int o92.1, .int o87.1]) rfl ?_
                                                                                      by_cases c94 : o87.1 = o92.1
                                                                                      · replace hf := (if_pos c94).symm.trans hf
                                                                                        refine rs_icT i_L_law_1619 (ct_eq c94) (tg := 1773) (by decide) ?_
                                                                                        exact r_L_law_1773 hd ih hf
                                                                                      · replace hf := (if_neg c94).symm.trans hf
                                                                                        refine rs_icF i_L_law_1619 (cf_eq c94) ?_
                                                                                        refine rs_iconst i_L_law_1622 (v := 0) (by decide) ?_
                                                                                        have hf := Option.some.inj hf
                                                                                        subst hf
                                                                                        exact rs_iret i_L_law_1623 m_L_law (by decide)
                                                                                    · replace hf := (if_neg c43).symm.trans hf
                                                                                      by_cases c44 : ((X (ix v3)) &&& 63) = 40
                                                                                      · replace hf := (if_pos c44).symm.trans hf
                                                                                        refine rs_tsw i_L_law_33 (off := 1591) (by rw [c44]; decide) (tg := 1624) (by decide) ?_
                                                                                        refine rs_aload_n i_L_law_1624 rfl ?_
                                                                                        refine rs_aload_n i_L_law_1625 rfl ?_
                                                                                        refine rs_iload_n i_L_law_1626 rfl ?_
                                                                                        refine rs_iconst i_L_law_1627 (v := 1) (by decide) ?_
                                                                                        refine rs_iadd i_L_law_1628 ?_
                                                                                        obtain ⟨c69, hf⟩ := ite_some hf
                                                                                        refine rs_ialdS i_L_law_1629 c69 ?_
                                                                                        refine rs_aload_n i_L_law_1630 rfl ?_
                                                                                        refine rs_iload_n i_L_law_1631 rfl ?_
                                                                                        refine rs_iconst i_L_law_1632 (v := 2) (by decide) ?_
                                                                                        refine rs_iadd i_L_law_1633 ?_
                                                                                        obtain ⟨c70, hf⟩ := ite_some hf
                                                                                        refine rs_ialdS i_L_law_1634 c70 ?_
                                                                                        refine rs_aload_n i_L_law_1635 rfl ?_
                                                                                        refine rs_iload_n i_L_law_1636 rfl ?_
                                                                                        refine rs_iconst i_L_law_1637 (v := 3) (by decide) ?_
                                                                                        refine rs_iadd i_L_law_1638 ?_
                                                                                        obtain ⟨c71, hf⟩ := ite_some hf
                                                                                        refine rs_ialdS i_L_law_1639 c71 ?_
                                                                                        refine rs_aload_n i_L_law_1640 rfl ?_
                                                                                        refine rs_iload_n i_L_law_1641 rfl ?_
                                                                                        refine rs_iconst i_L_law_1642 (v := 4) (by decide) ?_
                                                                                        refine rs_iadd i_L_law_1643 ?_
                                                                                        obtain ⟨c72, hf⟩ := ite_some hf
                                                                                        refine rs_ialdS i_L_law_1644 c72 ?_
                                                                                        refine rs_aload_n i_L_law_1645 rfl ?_
                                                                                        refine rs_iload_n i_L_law_1646 rfl ?_
                                                                                        refine rs_iconst i_L_law_1647 (v := 5) (by decide) ?_
                                                                                        refine rs_iadd i_L_law_1648 ?_
                                                                                        obtain ⟨c73, hf⟩ := ite_some hf
                                                                                        refine rs_ialdS i_L_law_1649 c73 ?_
                                                                                        obtain ⟨c75, hf⟩ := ite_some hf
                                                                                        obtain ⟨o74, e74, hf⟩ := bind_some hf
                                                                                        refine rs_inV i_L_law_1650 m_X7_copy rfl (As := [.int (X (ix (v3 + 1))), .int (X (ix (v3 + 2))), .int (X (ix (v3 + 3))), .int (X (ix (v3 + 4))), .int (X (ix (v3 + 5)))]) (rest := []) rfl rfl (Nat.le_of_ble_eq_true rfl) c75 (c_X7_copy (by omega) e74) (st' := [.int o74.1]) rfl ?_
                                                                                        refine rs_aload_n i_L_law_1653 rfl ?_
                                                                                        refine rs_aload_n i_L_law_1654 rfl ?_
                                                                                        refine rs_iload_n i_L_law_1655 rfl ?_
                                                                                        refine rs_iconst i_L_law_1656 (v := 1) (by decide) ?_
                                                                                        refine rs_iadd i_L_law_1657 ?_
                                                                                        obtain ⟨c76, hf⟩ := ite_some hf
                                                                                        refine rs_ialdS i_L_law_1658 c76 ?_
                                                                                        refine rs_aload_n i_L_law_1659 rfl ?_
                                                                                        refine rs_iload_n i_L_law_1660 rfl ?_
                                                                                        refine rs_iconst i_L_law_1661 (v := 2) (by decide) ?_
                                                                                        refine rs_iadd i_L_law_1662 ?_
                                                                                        obtain ⟨c77, hf⟩ := ite_some hf
                                                                                        refine rs_ialdS i_L_law_1663 c77 ?_
                                                                                        refine rs_aload_n i_L_law_1664 rfl ?_
                                                                                        refine rs_iload_n i_L_law_1665 rfl ?_
                                                                                        refine rs_iconst i_L_law_1666 (v := 3) (by decide) ?_
                                                                                        refine rs_iadd i_L_law_1667 ?_
                                                                                        obtain ⟨c78, hf⟩ := ite_some hf
                                                                                        refine rs_ialdS i_L_law_1668 c78 ?_
                                                                                        refine rs_aload_n i_L_law_1669 rfl ?_
                                                                                        refine rs_iload_n i_L_law_1670 rfl ?_
                                                                                        refine rs_iconst i_L_law_1671 (v := 4) (by decide) ?_
                                                                                        refine rs_iadd i_L_law_1672 ?_
                                                                                        obtain ⟨c79, hf⟩ := ite_some hf
                                                                                        refine rs_ialdS i_L_law_1673 c79 ?_
                                                                                        refine rs_aload_n i_L_law_1674 rfl ?_
                                                                                        refine rs_iload_n i_L_law_1675 rfl ?_
                                                                                        refine rs_iconst i_L_law_1676 (v := 5) (by decide) ?_
                                                                                        refine rs_iadd i_L_law_1677 ?_
                                                                                        obtain ⟨c80, hf⟩ := ite_some hf
                                                                                        refine rs_ialdS i_L_law_1678 c80 ?_
                                                                                        obtain ⟨c82, hf⟩ := ite_some hf
                                                                                        obtain ⟨o81, e81, hf⟩ := bind_some hf
                                                                                        refine rs_inV i_L_law_1679 m_X8_copy rfl (As := [.int (X (ix (v3 + 1))), .int (X (ix (v3 + 2))), .int (X (ix (v3 + 3))), .int (X (ix (v3 + 4))), .int (X (ix (v3 + 5)))]) (rest := [.int o74.1]) rfl rfl (Nat.le_of_ble_eq_true rfl) c82 (c_X8_copy (by omega) e81) (st' := [.int o81.1, .int o74.1]) rfl ?_
                                                                                        by_cases c83 : o74.1 = o81.1
                                                                                        · replace hf := (if_pos c83).symm.trans hf
                                                                                          refine rs_icT i_L_law_1682 (ct_eq c83) (tg := 1773) (by decide) ?_
                                                                                          exact r_L_law_1773 hd ih hf
                                                                                        · replace hf := (if_neg c83).symm.trans hf
                                                                                          refine rs_icF i_L_law_1682 (cf_eq c83) ?_
                                                                                          refine rs_iconst i_L_law_1685 (v := 0) (by decide) ?_
                                                                                          have hf := Option.some.inj hf
                                                                                          subst hf
                                                                                          exact rs_iret i_L_law_1686 m_L_law (by decide)
                                                                                      · replace hf := (if_neg c44).symm.trans hf
                                                                                        by_cases c45 : ((X (ix v3)) &&& 63) = 41
                                                                                        · replace hf := (if_pos c45).symm.trans hf
                                                                                          refine rs_tsw i_L_law_33 (off := 1654) (by rw [c45]; decide) (tg := 1687) (by decide) ?_
                                                                                          refine rs_aload_n i_L_law_1687 rfl ?_
                                                                                          refine rs_aload_n i_L_law_1688 rfl ?_
                                                                                          refine rs_iload_n i_L_law_1689 rfl ?_
                                                                                          refine rs_iconst i_L_law_1690 (v := 1) (by decide) ?_
                                                                                          refine rs_iadd i_L_law_1691 ?_
                                                                                          obtain ⟨c56, hf⟩ := ite_some hf
                                                                                          refine rs_ialdS i_L_law_1692 c56 ?_
                                                                                          refine rs_aload_n i_L_law_1693 rfl ?_
                                                                                          refine rs_iload_n i_L_law_1694 rfl ?_
                                                                                          refine rs_iconst i_L_law_1695 (v := 2) (by decide) ?_
                                                                                          refine rs_iadd i_L_law_1696 ?_
                                                                                          obtain ⟨c57, hf⟩ := ite_some hf
                                                                                          refine rs_ialdS i_L_law_1697 c57 ?_
                                                                                          refine rs_aload_n i_L_law_1698 rfl ?_
                                                                                          refine rs_iload_n i_L_law_1699 rfl ?_
                                                                                          refine rs_iconst i_L_law_1700 (v := 3) (by decide) ?_
                                                                                          refine rs_iadd i_L_law_1701 ?_
                                                                                          obtain ⟨c58, hf⟩ := ite_some hf
                                                                                          refine rs_ialdS i_L_law_1702 c58 ?_
                                                                                          refine rs_aload_n i_L_law_1703 rfl ?_
                                                                                          refine rs_iload_n i_L_law_1704 rfl ?_
                                                                                          refine rs_iconst i_L_law_1705 (v := 4) (by decide) ?_
                                                                                          refine rs_iadd i_L_law_1706 ?_
                                                                                          obtain ⟨c59, hf⟩ := ite_some hf
                                                                                          refine rs_ialdS i_L_law_1707 c59 ?_
                                                                                          obtain ⟨c61, hf⟩ := ite_some hf
                                                                                          obtain ⟨o60, e60, hf⟩ := bind_some hf
                                                                                          refine rs_inV i_L_law_1708 m_X7_stepsBy rfl (As := [.int (X (ix (v3 + 1))), .int (X (ix (v3 + 2))), .int (X (ix (v3 + 3))), .int (X (ix (v3 + 4)))]) (rest := []) rfl rfl (Nat.le_of_ble_eq_true rfl) c61 (c_X7_stepsBy (by omega) e60) (st' := [.int o60.1]) rfl ?_
                                                                                          refine rs_aload_n i_L_law_1711 rfl ?_
                                                                                          refine rs_aload_n i_L_law_1712 rfl ?_
                                                                                          refine rs_iload_n i_L_law_1713 rfl ?_
                                                                                          refine rs_iconst i_L_law_1714 (v := 1) (by decide) ?_
                                                                                          refine rs_iadd i_L_law_1715 ?_
                                                                                          obtain ⟨c62, hf⟩ := ite_some hf
                                                                                          refine rs_ialdS i_L_law_1716 c62 ?_
                                                                                          refine rs_aload_n i_L_law_1717 rfl ?_
                                                                                          refine rs_iload_n i_L_law_1718 rfl ?_
                                                                                          refine rs_iconst i_L_law_1719 (v := 2) (by decide) ?_
                                                                                          refine rs_iadd i_L_law_1720 ?_
                                                                                          obtain ⟨c63, hf⟩ := ite_some hf
                                                                                          refine rs_ialdS i_L_law_1721 c63 ?_
                                                                                          refine rs_aload_n i_L_law_1722 rfl ?_
                                                                                          refine rs_iload_n i_L_law_1723 rfl ?_
                                                                                          refine rs_iconst i_L_law_1724 (v := 3) (by decide) ?_
                                                                                          refine rs_iadd i_L_law_1725 ?_
                                                                                          obtain ⟨c64, hf⟩ := ite_some hf
                                                                                          refine rs_ialdS i_L_law_1726 c64 ?_
                                                                                          refine rs_aload_n i_L_law_1727 rfl ?_
                                                                                          refine rs_iload_n i_L_law_1728 rfl ?_
                                                                                          refine rs_iconst i_L_law_1729 (v := 4) (by decide) ?_
                                                                                          refine rs_iadd i_L_law_1730 ?_
                                                                                          obtain ⟨c65, hf⟩ := ite_some hf
                                                                                          refine rs_ialdS i_L_law_1731 c65 ?_
                                                                                          obtain ⟨c67, hf⟩ := ite_some hf
                                                                                          obtain ⟨o66, e66, hf⟩ := bind_some hf
                                                                                          refine rs_inV i_L_law_1732 m_X8_stepsBy rfl (As := [.int (X (ix (v3 + 1))), .int (X (ix (v3 + 2))), .int (X (ix (v3 + 3))), .int (X (ix (v3 + 4)))]) (rest := [.int o60.1]) rfl rfl (Nat.le_of_ble_eq_true rfl) c67 (c_X8_stepsBy (by omega) e66) (st' := [.int o66.1, .int o60.1]) rfl ?_
                                                                                          by_cases c68 : o60.1 = o66.1
                                                                                          · replace hf := (if_pos c68).symm.trans hf
                                                                                            refine rs_icT i_L_law_1735 (ct_eq c68) (tg := 1773) (by decide) ?_
                                                                                            exact r_L_law_1773 hd ih hf
                                                                                          · replace hf := (if_neg c68).symm.trans hf
                                                                                            refine rs_icF i_L_law_1735 (cf_eq c68) ?_
                                                                                            refine rs_iconst i_L_law_1738 (v := 0) (by decide) ?_
                                                                                            have hf := Option.some.inj hf
                                                                                            subst hf
                                                                                            exact rs_iret i_L_law_1739 m_L_law (by decide)
                                                                                        · replace hf := (if_neg c45).symm.trans hf
                                                                                          by_cases c46 : ((X (ix v3)) &&& 63) = 42
                                                                                          · replace hf := (if_pos c46).symm.trans hf
                                                                                            refine rs_tsw i_L_law_33 (off := 1707) (by rw [c46]; decide) (tg := 1740) (by decide) ?_
                                                                                            refine rs_aload_n i_L_law_1740 rfl ?_
                                                                                            refine rs_aload_n i_L_law_1741 rfl ?_
                                                                                            refine rs_iload_n i_L_law_1742 rfl ?_
                                                                                            refine rs_iconst i_L_law_1743 (v := 1) (by decide) ?_
                                                                                            refine rs_iadd i_L_law_1744 ?_
                                                                                            obtain ⟨c47, hf⟩ := ite_some hf
                                                                                            refine rs_ialdS i_L_law_1745 c47 ?_
                                                                                            refine rs_aload_n i_L_law_1746 rfl ?_
                                                                                            refine rs_iload_n i_L_law_1747 rfl ?_
                                                                                            refine rs_iconst i_L_law_1748 (v := 2) (by decide) ?_
                                                                                            refine rs_iadd i_L_law_1749 ?_
                                                                                            obtain ⟨c48, hf⟩ := ite_some hf
                                                                                            refine rs_ialdS i_L_law_1750 c48 ?_
                                                                                            obtain ⟨c50, hf⟩ := ite_some hf
                                                                                            obtain ⟨o49, e49, hf⟩ := bind_some hf
                                                                                            refine rs_inV i_L_law_1751 m_X7_taken rfl (As := [.int (X (ix (v3 + 1))), .int (X (ix (v3 + 2)))]) (rest := []) rfl rfl (Nat.le_of_ble_eq_true rfl) c50 (c_X7_taken (by omega) e49) (st' := [.int o49.1]) rfl ?_
                                                                                            refine rs_aload_n i_L_law_1754 rfl ?_
                                                                                            refine rs_aload_n i_L_law_1755 rfl ?_
                                                                                            refine rs_iload_n i_L_law_1756 rfl ?_
                                                                                            refine rs_iconst i_L_law_1757 (v := 1) (by decide) ?_
                                                                                            refine rs_iadd i_L_law_1758 ?_
                                                                                            obtain ⟨c51, hf⟩ := ite_some hf
                                                                                            refine rs_ialdS i_L_law_1759 c51 ?_
                                                                                            refine rs_aload_n i_L_law_1760 rfl ?_
                                                                                            refine rs_iload_n i_L_law_1761 rfl ?_
                                                                                            refine rs_iconst i_L_law_1762 (v := 2) (by decide) ?_
                                                                                            refine rs_iadd i_L_law_1763 ?_
                                                                                            obtain ⟨c52, hf⟩ := ite_some hf
                                                                                            refine rs_ialdS i_L_law_1764 c52 ?_
                                                                                            obtain ⟨c54, hf⟩ := ite_some hf
                                                                                            obtain ⟨o53, e53, hf⟩ := bind_some hf
                                                                                            refine rs_inV i_L_law_1765 m_X8_taken rfl (As := [.int (X (ix (v3 + 1))), .int (X (ix (v3 + 2)))]) (rest := [.int o49.1]) rfl rfl (Nat.le_of_ble_eq_true rfl) c54 (c_X8_taken (by omega) e53) (st' := [.int o53.1, .int o49.1]) rfl ?_
                                                                                            by_cases c55 : o49.1 = o53.1
                                                                                            · replace hf := (if_pos c55).symm.trans hf
                                                                                              refine rs_icT i_L_law_1768 (ct_eq c55) (tg := 1773) (by decide) ?_
                                                                                              exact r_L_law_1773 hd ih hf
                                                                                            · replace hf := (if_neg c55).symm.trans hf
                                                                                              refine rs_icF i_L_law_1768 (cf_eq c55) ?_
                                                                                              refine rs_iconst i_L_law_1771 (v := 0) (by decide) ?_
                                                                                              have hf := Option.some.inj hf
                                                                                              subst hf
                                                                                              exact rs_iret i_L_law_1772 m_L_law (by decide)
                                                                                          · replace hf := (if_neg c46).symm.trans hf
                                                                                            refine rs_tsw i_L_law_33 (off := 1740) (swt_df (by have z0 := ne_ti c4; rw [show (0 : Int32).toInt = 0 from by decide] at z0; have z1 := ne_ti c5; rw [show (1 : Int32).toInt = 1 from by decide] at z1; have z2 := ne_ti c6; rw [show (2 : Int32).toInt = 2 from by decide] at z2; have z3 := ne_ti c7; rw [show (3 : Int32).toInt = 3 from by decide] at z3; have z4 := ne_ti c8; rw [show (4 : Int32).toInt = 4 from by decide] at z4; have z5 := ne_ti c9; rw [show (5 : Int32).toInt = 5 from by decide] at z5; have z6 := ne_ti c10; rw [show (6 : Int32).toInt = 6 from by decide] at z6; have z7 := ne_ti c11; rw [show (7 : Int32).toInt = 7 from by decide] at z7; have z8 := ne_ti c12; rw [show (8 : Int32).toInt = 8 from by decide] at z8; have z9 := ne_ti c13; rw [show (9 : Int32).toInt = 9 from by decide] at z9; have z10 := ne_ti c14; rw [show (10 : Int32).toInt = 10 from by decide] at z10; have z11 := ne_ti c15; rw [show (11 : Int32).toInt = 11 from by decide] at z11; have z12 := ne_ti c16; rw [show (12 : Int32).toInt = 12 from by decide] at z12; have z13 := ne_ti c17; rw [show (13 : Int32).toInt = 13 from by decide] at z13; have z14 := ne_ti c18; rw [show (14 : Int32).toInt = 14 from by decide] at z14; have z15 := ne_ti c19; rw [show (15 : Int32).toInt = 15 from by decide] at z15; have z16 := ne_ti c20; rw [show (16 : Int32).toInt = 16 from by decide] at z16; have z17 := ne_ti c21; rw [show (17 : Int32).toInt = 17 from by decide] at z17; have z18 := ne_ti c22; rw [show (18 : Int32).toInt = 18 from by decide] at z18; have z19 := ne_ti c23; rw [show (19 : Int32).toInt = 19 from by decide] at z19; have z20 := ne_ti c24; rw [show (20 : Int32).toInt = 20 from by decide] at z20; have z21 := ne_ti c25; rw [show (21 : Int32).toInt = 21 from by decide] at z21; have z22 := ne_ti c26; rw [show (22 : Int32).toInt = 22 from by decide] at z22; have z23 := ne_ti c27; rw [show (23 : Int32).toInt = 23 from by decide] at z23; have z24 := ne_ti c28; rw [show (24 : Int32).toInt = 24 from by decide] at z24; have z25 := ne_ti c29; rw [show (25 : Int32).toInt = 25 from by decide] at z25; have z26 := ne_ti c30; rw [show (26 : Int32).toInt = 26 from by decide] at z26; have z27 := ne_ti c31; rw [show (27 : Int32).toInt = 27 from by decide] at z27; have z28 := ne_ti c32; rw [show (28 : Int32).toInt = 28 from by decide] at z28; have z29 := ne_ti c33; rw [show (29 : Int32).toInt = 29 from by decide] at z29; have z30 := ne_ti c34; rw [show (30 : Int32).toInt = 30 from by decide] at z30; have z31 := ne_ti c35; rw [show (31 : Int32).toInt = 31 from by decide] at z31; have z32 := ne_ti c36; rw [show (32 : Int32).toInt = 32 from by decide] at z32; have z33 := ne_ti c37; rw [show (33 : Int32).toInt = 33 from by decide] at z33; have z34 := ne_ti c38; rw [show (34 : Int32).toInt = 34 from by decide] at z34; have z35 := ne_ti c39; rw [show (35 : Int32).toInt = 35 from by decide] at z35; have z36 := ne_ti c40; rw [show (36 : Int32).toInt = 36 from by decide] at z36; have z37 := ne_ti c41; rw [show (37 : Int32).toInt = 37 from by decide] at z37; have z38 := ne_ti c42; rw [show (38 : Int32).toInt = 38 from by decide] at z38; have z39 := ne_ti c43; rw [show (39 : Int32).toInt = 39 from by decide] at z39; have z40 := ne_ti c44; rw [show (40 : Int32).toInt = 40 from by decide] at z40; have z41 := ne_ti c45; rw [show (41 : Int32).toInt = 41 from by decide] at z41; have z42 := ne_ti c46; rw [show (42 : Int32).toInt = 42 from by decide] at z42; omega)) (tg := 1773) (by decide) ?_
                                                                                            exact r_L_law_1773 hd ih hf
def f_L_law_11 (X : Nat → Int32) (n : Nat) (v1 : Nat) (s0 : Nat) (h : Hp) : Option (Int32 × Hp) :=
  if okO h s0 8 then
  (f_X8_init n s0 h).bind fun o1 =>
  f_L_law_18 X n n v1 s0 0 o1
  else none
set_option maxRecDepth 100000 in
set_option maxHeartbeats 4000000 in
theorem r_L_law_11 {X : Nat → Int32} {d : Nat} (hd : 110 ≤ (d + 1)) {n : Nat} {v1 : Nat} {s0 : Nat} {h : Hp} {o : (Int32 × Hp)} (hf : f_L_law_11 X n v1 s0 h = some o) : Run X (d + 1) 0 11 [some (.ref 14), some (.ref v1), none, none] [.ref s0] h (some (.int o.1), o.2) := by
  unfold f_L_law_11 at hf
  refine rs_dup i_L_law_11 rfl ?_
  obtain ⟨c2, hf⟩ := ite_some hf
  obtain ⟨o1, e1, hf⟩ := bind_some hf
  refine rs_inI i_L_law_12 (by decide) m_X8_init rfl (As := []) (rest := [.ref s0]) rfl rfl (Nat.le_of_ble_eq_true rfl) c2 (c_X8_init (by omega) e1) (st' := [.ref s0]) rfl ?_
  refine rs_astore_n i_L_law_15 (Nat.le_of_ble_eq_true rfl) (lv' := [some (.ref 14), some (.ref v1), some (.ref s0), none]) rfl ?_
  refine rs_iconst i_L_law_16 (v := 0) (by decide) ?_
  refine rs_istore_n i_L_law_17 (Nat.le_of_ble_eq_true rfl) (lv' := [some (.ref 14), some (.ref v1), some (.ref s0), some (.int 0)]) rfl ?_
  exact r_L_law_18 hd _ _ _ _ _ _ hf
def f_L_law_3 (X : Nat → Int32) (n : Nat) (s0 : Nat) (h : Hp) : Option (Int32 × Hp) :=
  if okO h s0 7 then
  (f_X7_init n s0 h).bind fun o1 =>
  f_L_law_11 X n s0 o1.1.length (hnew o1 (8, nFf 8))
  else none
set_option maxRecDepth 100000 in
set_option maxHeartbeats 4000000 in
theorem r_L_law_3 {X : Nat → Int32} {d : Nat} (hd : 110 ≤ (d + 1)) {n : Nat} {s0 : Nat} {h : Hp} {o : (Int32 × Hp)} (hf : f_L_law_3 X n s0 h = some o) : Run X (d + 1) 0 3 [some (.ref 14), none, none, none] [.ref s0] h (some (.int o.1), o.2) := by
  unfold f_L_law_3 at hf
  refine rs_dup i_L_law_3 rfl ?_
  obtain ⟨c2, hf⟩ := ite_some hf
  obtain ⟨o1, e1, hf⟩ := bind_some hf
  refine rs_inI i_L_law_4 (by decide) m_X7_init rfl (As := []) (rest := [.ref s0]) rfl rfl (Nat.le_of_ble_eq_true rfl) c2 (c_X7_init (by omega) e1) (st' := [.ref s0]) rfl ?_
  refine rs_astore_n i_L_law_7 (Nat.le_of_ble_eq_true rfl) (lv' := [some (.ref 14), some (.ref s0), none, none]) rfl ?_
  refine rs_new i_L_law_8 (by decide) ?_
  exact r_L_law_11 hd hf
def f_L_law_0 (X : Nat → Int32) (n : Nat)  (h : Hp) : Option (Int32 × Hp) :=
  f_L_law_3 X n h.1.length (hnew h (7, nFf 7))
set_option maxRecDepth 100000 in
set_option maxHeartbeats 4000000 in
theorem r_L_law_0 {X : Nat → Int32} {d : Nat} (hd : 110 ≤ (d + 1)) {n : Nat}  {h : Hp} {o : (Int32 × Hp)} (hf : f_L_law_0 X n h = some o) : Run X (d + 1) 0 0 [some (.ref 14), none, none, none] [] h (some (.int o.1), o.2) := by
  unfold f_L_law_0 at hf
  refine rs_new i_L_law_0 (by decide) ?_
  exact r_L_law_3 hd hf
