theorem i_X7_taken_0 : fetch 109 0 = some (.iload_n 2, 1, 0, 0, 0, 0) := by decide +kernel
theorem i_X7_taken_1 : fetch 109 1 = some (.iconst 0, 2, 0, 0, 0, 0) := by decide +kernel
theorem i_X7_taken_2 : fetch 109 2 = some (.bipush 6, 4, 0, 0, 0, 0) := by decide +kernel
theorem i_X7_taken_4 : fetch 109 4 = some (.invokestatic 112, 7, 110, 0, 0, 534) := by decide +kernel
theorem i_X7_taken_7 : fetch 109 7 = some (.ifCond .ne 6, 10, 0, 0, 0, 0) := by decide +kernel
theorem i_X7_taken_10 : fetch 109 10 = some (.bipush (-2), 12, 0, 0, 0, 0) := by decide +kernel
theorem i_X7_taken_12 : fetch 109 12 = some (.ireturn, 13, 0, 0, 0, 0) := by decide +kernel
theorem i_X7_taken_13 : fetch 109 13 = some (.iload_n 1, 14, 0, 0, 0, 0) := by decide +kernel
theorem i_X7_taken_14 : fetch 109 14 = some (.iconst 0, 15, 0, 0, 0, 0) := by decide +kernel
theorem i_X7_taken_15 : fetch 109 15 = some (.bipush 23, 17, 0, 0, 0, 0) := by decide +kernel
theorem i_X7_taken_17 : fetch 109 17 = some (.invokestatic 112, 20, 110, 0, 0, 534) := by decide +kernel
theorem i_X7_taken_20 : fetch 109 20 = some (.ifCond .ne 6, 23, 0, 0, 0, 0) := by decide +kernel
theorem i_X7_taken_23 : fetch 109 23 = some (.bipush (-12), 25, 0, 0, 0, 0) := by decide +kernel
theorem i_X7_taken_25 : fetch 109 25 = some (.ireturn, 26, 0, 0, 0, 0) := by decide +kernel
theorem i_X7_taken_26 : fetch 109 26 = some (.iload_n 1, 27, 0, 0, 0, 0) := by decide +kernel
theorem i_X7_taken_27 : fetch 109 27 = some (.bipush 12, 29, 0, 0, 0, 0) := by decide +kernel
theorem i_X7_taken_29 : fetch 109 29 = some (.if_icmp .ge 24, 32, 0, 0, 0, 0) := by decide +kernel
theorem i_X7_taken_32 : fetch 109 32 = some (.iload_n 2, 33, 0, 0, 0, 0) := by decide +kernel
theorem i_X7_taken_33 : fetch 109 33 = some (.bipush 6, 35, 0, 0, 0, 0) := by decide +kernel
theorem i_X7_taken_35 : fetch 109 35 = some (.if_icmp .ne 15, 38, 0, 0, 0, 0) := by decide +kernel
theorem i_X7_taken_38 : fetch 109 38 = some (.aload_n 0, 39, 0, 0, 0, 0) := by decide +kernel
theorem i_X7_taken_39 : fetch 109 39 = some (.getfield 10, 42, 7, 0, 0, 483) := by decide +kernel
theorem i_X7_taken_42 : fetch 109 42 = some (.getfield 117, 45, 0, 0, 0, 94) := by decide +kernel
theorem i_X7_taken_45 : fetch 109 45 = some (.iload_n 1, 46, 0, 0, 0, 0) := by decide +kernel
theorem i_X7_taken_46 : fetch 109 46 = some (.iaload, 47, 0, 0, 0, 0) := by decide +kernel
theorem i_X7_taken_47 : fetch 109 47 = some (.goto 5, 50, 0, 0, 0, 0) := by decide +kernel
theorem i_X7_taken_50 : fetch 109 50 = some (.bipush (-13), 52, 0, 0, 0, 0) := by decide +kernel
theorem i_X7_taken_52 : fetch 109 52 = some (.ireturn, 53, 0, 0, 0, 0) := by decide +kernel
theorem i_X7_taken_53 : fetch 109 53 = some (.iload_n 1, 54, 0, 0, 0, 0) := by decide +kernel
theorem i_X7_taken_54 : fetch 109 54 = some (.bipush 12, 56, 0, 0, 0, 0) := by decide +kernel
theorem i_X7_taken_56 : fetch 109 56 = some (.isub, 57, 0, 0, 0, 0) := by decide +kernel
theorem i_X7_taken_57 : fetch 109 57 = some (.istore_n 3, 58, 0, 0, 0, 0) := by decide +kernel
theorem i_X7_taken_58 : fetch 109 58 = some (.aload_n 0, 59, 0, 0, 0, 0) := by decide +kernel
theorem i_X7_taken_59 : fetch 109 59 = some (.iload_n 3, 60, 0, 0, 0, 0) := by decide +kernel
theorem i_X7_taken_60 : fetch 109 60 = some (.invokevirtual 135, 63, 112, 0, 0, 572) := by decide +kernel
theorem i_X7_taken_63 : fetch 109 63 = some (.ifCond .ne 6, 66, 0, 0, 0, 0) := by decide +kernel
theorem i_X7_taken_66 : fetch 109 66 = some (.bipush (-11), 68, 0, 0, 0, 0) := by decide +kernel
theorem i_X7_taken_68 : fetch 109 68 = some (.ireturn, 69, 0, 0, 0, 0) := by decide +kernel
theorem i_X7_taken_69 : fetch 109 69 = some (.iload_n 2, 70, 0, 0, 0, 0) := by decide +kernel
theorem i_X7_taken_70 : fetch 109 70 = some (.bipush 6, 72, 0, 0, 0, 0) := by decide +kernel
theorem i_X7_taken_72 : fetch 109 72 = some (.if_icmp .ge 20, 75, 0, 0, 0, 0) := by decide +kernel
theorem i_X7_taken_75 : fetch 109 75 = some (.aload_n 0, 76, 0, 0, 0, 0) := by decide +kernel
theorem i_X7_taken_76 : fetch 109 76 = some (.getfield 24, 79, 7, 3, 0, 486) := by decide +kernel
theorem i_X7_taken_79 : fetch 109 79 = some (.iload_n 3, 80, 0, 0, 0, 0) := by decide +kernel
theorem i_X7_taken_80 : fetch 109 80 = some (.aaload, 81, 0, 0, 0, 0) := by decide +kernel
theorem i_X7_taken_81 : fetch 109 81 = some (.iload_n 2, 82, 0, 0, 0, 0) := by decide +kernel
theorem i_X7_taken_82 : fetch 109 82 = some (.invokevirtual 321, 85, 57, 0, 0, 948) := by decide +kernel
theorem i_X7_taken_85 : fetch 109 85 = some (.ifCond .eq 7, 88, 0, 0, 0, 0) := by decide +kernel
theorem i_X7_taken_88 : fetch 109 88 = some (.iload_n 3, 89, 0, 0, 0, 0) := by decide +kernel
theorem i_X7_taken_89 : fetch 109 89 = some (.goto 5, 92, 0, 0, 0, 0) := by decide +kernel
theorem i_X7_taken_92 : fetch 109 92 = some (.bipush (-13), 94, 0, 0, 0, 0) := by decide +kernel
theorem i_X7_taken_94 : fetch 109 94 = some (.ireturn, 95, 0, 0, 0, 0) := by decide +kernel
def f_X7_taken_0 (n : Nat) (v0 : Nat) (v1 : Int32) (v2 : Int32) (h : Hp) : Option (Int32 × Hp) :=
  (f_X7_within v2 0 6 h).bind fun o1 =>
  if o1.1 ≠ 0 then
    (f_X7_within v1 0 23 o1.2).bind fun o3 =>
    if o3.1 ≠ 0 then
      if 12 ≤ v1 then
        if okO o3.2 v0 7 then
        (f_X7_isStep v0 (v1 - 12) o3.2).bind fun o6 =>
        if o6.1 ≠ 0 then
          if 6 ≤ v2 then
            some ((-13), o6.2)
          else
            if okO o6.2 v0 7 then
            (gR o6.2 v0 3).bind fun a11 =>
            if okR o6.2 a11 (v1 - 12) then
            (gR o6.2 a11 (ix (v1 - 12))).bind fun a13 =>
            if okO o6.2 a13 5 then
            (f_X5_isA n a13 v2 o6.2).bind fun o14 =>
            if o14.1 = 0 then
              some ((-13), o14.2)
            else
              some ((v1 - 12), o14.2)
            else none
            else none
            else none
        else
          some ((-11), o6.2)
        else none
      else
        if v2 ≠ 6 then
          some ((-13), o3.2)
        else
          if okO o3.2 v0 7 then
          (gR o3.2 v0 0).bind fun a19 =>
          if okO o3.2 a19 0 then
          (gR o3.2 a19 0).bind fun a21 =>
          if okI o3.2 a21 v1 then
          some ((gI o3.2 a21 (ix v1)), o3.2)
          else none
          else none
          else none
    else
      some ((-12), o3.2)
  else
    some ((-2), o1.2)
set_option maxRecDepth 100000 in
set_option maxHeartbeats 4000000 in
theorem r_X7_taken_0 {X : Nat → Int32} {d : Nat} (hd : 2 ≤ (d + 1)) {n : Nat} {v0 : Nat} {v1 : Int32} {v2 : Int32} {h : Hp} {o : (Int32 × Hp)} (hf : f_X7_taken_0 n v0 v1 v2 h = some o) : Run X (d + 1) 109 0 [some (.ref v0), some (.int v1), some (.int v2), none] [] h (some (.int o.1), o.2) := by
  unfold f_X7_taken_0 at hf
  refine rs_iload_n i_X7_taken_0 rfl ?_
  refine rs_iconst i_X7_taken_1 (v := 0) (by decide) ?_
  refine rs_bipush i_X7_taken_2 (v := 6) (by decide) ?_
  obtain ⟨o1, e1, hf⟩ := bind_some hf
  refine rs_inS i_X7_taken_4 (by decide) m_X7_within rfl (As := [.int v2, .int 0, .int 6]) (rest := []) rfl rfl (Nat.le_of_ble_eq_true rfl) (c_X7_within (by omega) e1) (st' := [.int o1.1]) rfl ?_
  by_cases c2 : o1.1 ≠ 0
  · replace hf := (if_pos c2).symm.trans hf
    refine rs_ifT i_X7_taken_7 (ct_ne c2) (tg := 13) (by decide) ?_
    refine rs_iload_n i_X7_taken_13 rfl ?_
    refine rs_iconst i_X7_taken_14 (v := 0) (by decide) ?_
    refine rs_bipush i_X7_taken_15 (v := 23) (by decide) ?_
    obtain ⟨o3, e3, hf⟩ := bind_some hf
    refine rs_inS i_X7_taken_17 (by decide) m_X7_within rfl (As := [.int v1, .int 0, .int 23]) (rest := []) rfl rfl (Nat.le_of_ble_eq_true rfl) (c_X7_within (by omega) e3) (st' := [.int o3.1]) rfl ?_
    by_cases c4 : o3.1 ≠ 0
    · replace hf := (if_pos c4).symm.trans hf
      refine rs_ifT i_X7_taken_20 (ct_ne c4) (tg := 26) (by decide) ?_
      refine rs_iload_n i_X7_taken_26 rfl ?_
      refine rs_bipush i_X7_taken_27 (v := 12) (by decide) ?_
      by_cases c5 : 12 ≤ v1
      · replace hf := (if_pos c5).symm.trans hf
        refine rs_icT i_X7_taken_29 (ct_ge c5) (tg := 53) (by decide) ?_
        refine rs_iload_n i_X7_taken_53 rfl ?_
        refine rs_bipush i_X7_taken_54 (v := 12) (by decide) ?_
        refine rs_isub i_X7_taken_56 ?_
        refine rs_istore_n i_X7_taken_57 (Nat.le_of_ble_eq_true rfl) (lv' := [some (.ref v0), some (.int v1), some (.int v2), some (.int (v1 - 12))]) rfl ?_
        refine rs_aload_n i_X7_taken_58 rfl ?_
        refine rs_iload_n i_X7_taken_59 rfl ?_
        obtain ⟨c7, hf⟩ := ite_some hf
        obtain ⟨o6, e6, hf⟩ := bind_some hf
        refine rs_inV i_X7_taken_60 m_X7_isStep rfl (As := [.int (v1 - 12)]) (rest := []) rfl rfl (Nat.le_of_ble_eq_true rfl) c7 (c_X7_isStep (by omega) e6) (st' := [.int o6.1]) rfl ?_
        by_cases c8 : o6.1 ≠ 0
        · replace hf := (if_pos c8).symm.trans hf
          refine rs_ifT i_X7_taken_63 (ct_ne c8) (tg := 69) (by decide) ?_
          refine rs_iload_n i_X7_taken_69 rfl ?_
          refine rs_bipush i_X7_taken_70 (v := 6) (by decide) ?_
          by_cases c9 : 6 ≤ v2
          · replace hf := (if_pos c9).symm.trans hf
            refine rs_icT i_X7_taken_72 (ct_ge c9) (tg := 92) (by decide) ?_
            refine rs_bipush i_X7_taken_92 (v := (-13)) (by decide) ?_
            have hf := Option.some.inj hf
            subst hf
            exact rs_iret i_X7_taken_94 m_X7_taken rfl
          · replace hf := (if_neg c9).symm.trans hf
            refine rs_icF i_X7_taken_72 (cf_ge c9) ?_
            refine rs_aload_n i_X7_taken_75 rfl ?_
            obtain ⟨c10, hf⟩ := ite_some hf
            obtain ⟨a11, e11, hf⟩ := bind_some hf
            refine rs_getR i_X7_taken_76 (by decide) (by decide) c10 e11 ?_
            refine rs_iload_n i_X7_taken_79 rfl ?_
            obtain ⟨c12, hf⟩ := ite_some hf
            obtain ⟨a13, e13, hf⟩ := bind_some hf
            refine rs_aald i_X7_taken_80 c12 e13 ?_
            refine rs_iload_n i_X7_taken_81 rfl ?_
            obtain ⟨c15, hf⟩ := ite_some hf
            obtain ⟨o14, e14, hf⟩ := bind_some hf
            refine rs_inV i_X7_taken_82 m_X5_isA rfl (As := [.int v2]) (rest := []) rfl rfl (Nat.le_of_ble_eq_true rfl) c15 (c_X5_isA (by omega) e14) (st' := [.int o14.1]) rfl ?_
            by_cases c16 : o14.1 = 0
            · replace hf := (if_pos c16).symm.trans hf
              refine rs_ifT i_X7_taken_85 (ct_eq c16) (tg := 92) (by decide) ?_
              refine rs_bipush i_X7_taken_92 (v := (-13)) (by decide) ?_
              have hf := Option.some.inj hf
              subst hf
              exact rs_iret i_X7_taken_94 m_X7_taken rfl
            · replace hf := (if_neg c16).symm.trans hf
              refine rs_ifF i_X7_taken_85 (cf_eq c16) ?_
              refine rs_iload_n i_X7_taken_88 rfl ?_
              refine rs_goto i_X7_taken_89 (tg := 94) (by decide) ?_
              have hf := Option.some.inj hf
              subst hf
              exact rs_iret i_X7_taken_94 m_X7_taken rfl
        · replace hf := (if_neg c8).symm.trans hf
          refine rs_ifF i_X7_taken_63 (cf_ne c8) ?_
          refine rs_bipush i_X7_taken_66 (v := (-11)) (by decide) ?_
          have hf := Option.some.inj hf
          subst hf
          exact rs_iret i_X7_taken_68 m_X7_taken rfl
      · replace hf := (if_neg c5).symm.trans hf
        refine rs_icF i_X7_taken_29 (cf_ge c5) ?_
        refine rs_iload_n i_X7_taken_32 rfl ?_
        refine rs_bipush i_X7_taken_33 (v := 6) (by decide) ?_
        by_cases c17 : v2 ≠ 6
        · replace hf := (if_pos c17).symm.trans hf
          refine rs_icT i_X7_taken_35 (ct_ne c17) (tg := 50) (by decide) ?_
          refine rs_bipush i_X7_taken_50 (v := (-13)) (by decide) ?_
          have hf := Option.some.inj hf
          subst hf
          exact rs_iret i_X7_taken_52 m_X7_taken rfl
        · replace hf := (if_neg c17).symm.trans hf
          refine rs_icF i_X7_taken_35 (cf_ne c17) ?_
          refine rs_aload_n i_X7_taken_38 rfl ?_
          obtain ⟨c18, hf⟩ := ite_some hf
          obtain ⟨a19, e19, hf⟩ := bind_some hf
          refine rs_getR i_X7_taken_39 (by decide) (by decide) c18 e19 ?_
          obtain ⟨c20, hf⟩ := ite_some hf
          obtain ⟨a21, e21, hf⟩ := bind_some hf
          refine rs_getR i_X7_taken_42 (by decide) (by decide) c20 e21 ?_
          refine rs_iload_n i_X7_taken_45 rfl ?_
          obtain ⟨c22, hf⟩ := ite_some hf
          refine rs_iald i_X7_taken_46 c22 ?_
          refine rs_goto i_X7_taken_47 (tg := 52) (by decide) ?_
          have hf := Option.some.inj hf
          subst hf
          exact rs_iret i_X7_taken_52 m_X7_taken rfl
    · replace hf := (if_neg c4).symm.trans hf
      refine rs_ifF i_X7_taken_20 (cf_ne c4) ?_
      refine rs_bipush i_X7_taken_23 (v := (-12)) (by decide) ?_
      have hf := Option.some.inj hf
      subst hf
      exact rs_iret i_X7_taken_25 m_X7_taken rfl
  · replace hf := (if_neg c2).symm.trans hf
    refine rs_ifF i_X7_taken_7 (cf_ne c2) ?_
    refine rs_bipush i_X7_taken_10 (v := (-2)) (by decide) ?_
    have hf := Option.some.inj hf
    subst hf
    exact rs_iret i_X7_taken_12 m_X7_taken rfl
def f_X7_taken (n : Nat) (v0 : Nat) (v1 : Int32) (v2 : Int32) (h : Hp) : Option (Int32 × Hp) := f_X7_taken_0 n v0 v1 v2 h
theorem c_X7_taken {X : Nat → Int32} {d : Nat} (hd : 2 ≤ d) {n : Nat} {v0 : Nat} {v1 : Int32} {v2 : Int32} {h : Hp} {o : (Int32 × Hp)} (hf : f_X7_taken n v0 v1 v2 h = some o) : Calls X d 109 [.ref v0, .int v1, .int v2] h (some (.int o.1), o.2) := by
  obtain ⟨d, rfl⟩ : ∃ z, d = z + 1 := ⟨d - 1, by omega⟩
  exact ⟨_, rfl, r_X7_taken_0 hd hf⟩
theorem i_X8_holds_0 : fetch 141 0 = some (.aload_n 0, 1, 0, 0, 0, 0) := by decide +kernel
theorem i_X8_holds_1 : fetch 141 1 = some (.getfield 66, 4, 8, 31, 0, 1040) := by decide +kernel
theorem i_X8_holds_4 : fetch 141 4 = some (.aload_n 0, 5, 0, 0, 0, 0) := by decide +kernel
theorem i_X8_holds_5 : fetch 141 5 = some (.getfield 159, 8, 8, 32, 0, 1041) := by decide +kernel
theorem i_X8_holds_8 : fetch 141 8 = some (.iload_n 1, 9, 0, 0, 0, 0) := by decide +kernel
theorem i_X8_holds_9 : fetch 141 9 = some (.iastore, 10, 0, 0, 0, 0) := by decide +kernel
theorem i_X8_holds_10 : fetch 141 10 = some (.aload_n 0, 11, 0, 0, 0, 0) := by decide +kernel
theorem i_X8_holds_11 : fetch 141 11 = some (.dup, 12, 0, 0, 0, 0) := by decide +kernel
theorem i_X8_holds_12 : fetch 141 12 = some (.getfield 159, 15, 8, 32, 0, 1041) := by decide +kernel
theorem i_X8_holds_15 : fetch 141 15 = some (.iconst 1, 16, 0, 0, 0, 0) := by decide +kernel
theorem i_X8_holds_16 : fetch 141 16 = some (.iadd, 17, 0, 0, 0, 0) := by decide +kernel
theorem i_X8_holds_17 : fetch 141 17 = some (.putfield 159, 20, 8, 32, 0, 1041) := by decide +kernel
theorem i_X8_holds_20 : fetch 141 20 = some (.return_, 21, 0, 0, 0, 0) := by decide +kernel
def f_X8_holds_10 (v0 : Nat) (h : Hp) : Option Hp :=
  if okO h v0 8 then
  some (hsi h v0 32 ((gI h v0 32) + 1))
  else none
set_option maxRecDepth 100000 in
set_option maxHeartbeats 4000000 in
theorem r_X8_holds_10 {X : Nat → Int32} {d : Nat} (hd : 0 ≤ d) {v0 : Nat} {d1 : Int32} {h : Hp} {o : Hp} (hf : f_X8_holds_10 v0 h = some o) : Run X d 141 10 [some (.ref v0), some (.int d1)] [] h (none, o) := by
  unfold f_X8_holds_10 at hf
  refine rs_aload_n i_X8_holds_10 rfl ?_
  refine rs_dup i_X8_holds_11 rfl ?_
  obtain ⟨c1, hf⟩ := ite_some hf
  refine rs_getI i_X8_holds_12 (by decide) (by decide) c1 ?_
  refine rs_iconst i_X8_holds_15 (v := 1) (by decide) ?_
  refine rs_iadd i_X8_holds_16 ?_
  refine rs_putI i_X8_holds_17 (by decide) c1 ?_
  have hf := Option.some.inj hf
  subst hf
  exact rs_vret i_X8_holds_20 m_X8_holds rfl
def f_X8_holds_0 (v0 : Nat) (v1 : Int32) (h : Hp) : Option Hp :=
  if okO h v0 8 then
  (gR h v0 31).bind fun a2 =>
  if okI h a2 (gI h v0 32) then
  f_X8_holds_10 v0 (hsi h a2 (ix (gI h v0 32)) v1)
  else none
  else none
set_option maxRecDepth 100000 in
set_option maxHeartbeats 4000000 in
theorem r_X8_holds_0 {X : Nat → Int32} {d : Nat} (hd : 0 ≤ d) {v0 : Nat} {v1 : Int32} {h : Hp} {o : Hp} (hf : f_X8_holds_0 v0 v1 h = some o) : Run X d 141 0 [some (.ref v0), some (.int v1)] [] h (none, o) := by
  unfold f_X8_holds_0 at hf
  refine rs_aload_n i_X8_holds_0 rfl ?_
  obtain ⟨c1, hf⟩ := ite_some hf
  obtain ⟨a2, e2, hf⟩ := bind_some hf
  refine rs_getR i_X8_holds_1 (by decide) (by decide) c1 e2 ?_
  refine rs_aload_n i_X8_holds_4 rfl ?_
  refine rs_getI i_X8_holds_5 (by decide) (by decide) c1 ?_
  refine rs_iload_n i_X8_holds_8 rfl ?_
  obtain ⟨c3, hf⟩ := ite_some hf
  refine rs_iast i_X8_holds_9 c3 ?_
  exact r_X8_holds_10 hd hf
def f_X8_holds (v0 : Nat) (v1 : Int32) (h : Hp) : Option Hp := f_X8_holds_0 v0 v1 h
theorem c_X8_holds {X : Nat → Int32} {d : Nat} (hd : 0 ≤ d) {v0 : Nat} {v1 : Int32} {h : Hp} {o : Hp} (hf : f_X8_holds v0 v1 h = some o) : Calls X d 141 [.ref v0, .int v1] h (none, o) := by
  exact ⟨_, rfl, r_X8_holds_0 hd hf⟩
theorem i_X8_rank_0 : fetch 138 0 = some (.iload_n 0, 1, 0, 0, 0, 0) := by decide +kernel
theorem i_X8_rank_1 : fetch 138 1 = some (.ifCond .ne 7, 4, 0, 0, 0, 0) := by decide +kernel
theorem i_X8_rank_4 : fetch 138 4 = some (.iconst 0, 5, 0, 0, 0, 0) := by decide +kernel
theorem i_X8_rank_5 : fetch 138 5 = some (.goto 66, 8, 0, 0, 0, 0) := by decide +kernel
theorem i_X8_rank_8 : fetch 138 8 = some (.iload_n 0, 9, 0, 0, 0, 0) := by decide +kernel
theorem i_X8_rank_9 : fetch 138 9 = some (.bipush 11, 11, 0, 0, 0, 0) := by decide +kernel
theorem i_X8_rank_11 : fetch 138 11 = some (.if_icmp .ne 7, 14, 0, 0, 0, 0) := by decide +kernel
theorem i_X8_rank_14 : fetch 138 14 = some (.iconst 1, 15, 0, 0, 0, 0) := by decide +kernel
theorem i_X8_rank_15 : fetch 138 15 = some (.goto 56, 18, 0, 0, 0, 0) := by decide +kernel
theorem i_X8_rank_18 : fetch 138 18 = some (.iload_n 0, 19, 0, 0, 0, 0) := by decide +kernel
theorem i_X8_rank_19 : fetch 138 19 = some (.bipush 12, 21, 0, 0, 0, 0) := by decide +kernel
theorem i_X8_rank_21 : fetch 138 21 = some (.if_icmp .ne 7, 24, 0, 0, 0, 0) := by decide +kernel
theorem i_X8_rank_24 : fetch 138 24 = some (.iconst 2, 25, 0, 0, 0, 0) := by decide +kernel
theorem i_X8_rank_25 : fetch 138 25 = some (.goto 46, 28, 0, 0, 0, 0) := by decide +kernel
theorem i_X8_rank_28 : fetch 138 28 = some (.iload_n 0, 29, 0, 0, 0, 0) := by decide +kernel
theorem i_X8_rank_29 : fetch 138 29 = some (.bipush 13, 31, 0, 0, 0, 0) := by decide +kernel
theorem i_X8_rank_31 : fetch 138 31 = some (.if_icmp .ne 7, 34, 0, 0, 0, 0) := by decide +kernel
theorem i_X8_rank_34 : fetch 138 34 = some (.iconst 3, 35, 0, 0, 0, 0) := by decide +kernel
theorem i_X8_rank_35 : fetch 138 35 = some (.goto 36, 38, 0, 0, 0, 0) := by decide +kernel
theorem i_X8_rank_38 : fetch 138 38 = some (.iload_n 0, 39, 0, 0, 0, 0) := by decide +kernel
theorem i_X8_rank_39 : fetch 138 39 = some (.bipush 15, 41, 0, 0, 0, 0) := by decide +kernel
theorem i_X8_rank_41 : fetch 138 41 = some (.if_icmp .gt 7, 44, 0, 0, 0, 0) := by decide +kernel
theorem i_X8_rank_44 : fetch 138 44 = some (.iconst 4, 45, 0, 0, 0, 0) := by decide +kernel
theorem i_X8_rank_45 : fetch 138 45 = some (.goto 26, 48, 0, 0, 0, 0) := by decide +kernel
theorem i_X8_rank_48 : fetch 138 48 = some (.iload_n 0, 49, 0, 0, 0, 0) := by decide +kernel
theorem i_X8_rank_49 : fetch 138 49 = some (.bipush 17, 51, 0, 0, 0, 0) := by decide +kernel
theorem i_X8_rank_51 : fetch 138 51 = some (.if_icmp .gt 7, 54, 0, 0, 0, 0) := by decide +kernel
theorem i_X8_rank_54 : fetch 138 54 = some (.iconst 5, 55, 0, 0, 0, 0) := by decide +kernel
theorem i_X8_rank_55 : fetch 138 55 = some (.goto 16, 58, 0, 0, 0, 0) := by decide +kernel
theorem i_X8_rank_58 : fetch 138 58 = some (.iload_n 0, 59, 0, 0, 0, 0) := by decide +kernel
theorem i_X8_rank_59 : fetch 138 59 = some (.bipush 18, 61, 0, 0, 0, 0) := by decide +kernel
theorem i_X8_rank_61 : fetch 138 61 = some (.if_icmp .ne 8, 64, 0, 0, 0, 0) := by decide +kernel
theorem i_X8_rank_64 : fetch 138 64 = some (.bipush 6, 66, 0, 0, 0, 0) := by decide +kernel
theorem i_X8_rank_66 : fetch 138 66 = some (.goto 5, 69, 0, 0, 0, 0) := by decide +kernel
theorem i_X8_rank_69 : fetch 138 69 = some (.bipush 7, 71, 0, 0, 0, 0) := by decide +kernel
theorem i_X8_rank_71 : fetch 138 71 = some (.ireturn, 72, 0, 0, 0, 0) := by decide +kernel
def f_X8_rank_0 (v0 : Int32) (h : Hp) : Option (Int32 × Hp) :=
  if v0 ≠ 0 then
    if v0 ≠ 11 then
      if v0 ≠ 12 then
        if v0 ≠ 13 then
          if 15 < v0 then
            if 17 < v0 then
              if v0 ≠ 18 then
                some (7, h)
              else
                some (6, h)
            else
              some (5, h)
          else
            some (4, h)
        else
          some (3, h)
      else
        some (2, h)
    else
      some (1, h)
  else
    some (0, h)
set_option maxRecDepth 100000 in
set_option maxHeartbeats 4000000 in
theorem r_X8_rank_0 {X : Nat → Int32} {d : Nat} (hd : 0 ≤ d) {v0 : Int32} {h : Hp} {o : (Int32 × Hp)} (hf : f_X8_rank_0 v0 h = some o) : Run X d 138 0 [some (.int v0)] [] h (some (.int o.1), o.2) := by
  unfold f_X8_rank_0 at hf
  refine rs_iload_n i_X8_rank_0 rfl ?_
  by_cases c1 : v0 ≠ 0
  · replace hf := (if_pos c1).symm.trans hf
    refine rs_ifT i_X8_rank_1 (ct_ne c1) (tg := 8) (by decide) ?_
    refine rs_iload_n i_X8_rank_8 rfl ?_
    refine rs_bipush i_X8_rank_9 (v := 11) (by decide) ?_
    by_cases c2 : v0 ≠ 11
    · replace hf := (if_pos c2).symm.trans hf
      refine rs_icT i_X8_rank_11 (ct_ne c2) (tg := 18) (by decide) ?_
      refine rs_iload_n i_X8_rank_18 rfl ?_
      refine rs_bipush i_X8_rank_19 (v := 12) (by decide) ?_
      by_cases c3 : v0 ≠ 12
      · replace hf := (if_pos c3).symm.trans hf
        refine rs_icT i_X8_rank_21 (ct_ne c3) (tg := 28) (by decide) ?_
        refine rs_iload_n i_X8_rank_28 rfl ?_
        refine rs_bipush i_X8_rank_29 (v := 13) (by decide) ?_
        by_cases c4 : v0 ≠ 13
        · replace hf := (if_pos c4).symm.trans hf
          refine rs_icT i_X8_rank_31 (ct_ne c4) (tg := 38) (by decide) ?_
          refine rs_iload_n i_X8_rank_38 rfl ?_
          refine rs_bipush i_X8_rank_39 (v := 15) (by decide) ?_
          by_cases c5 : 15 < v0
          · replace hf := (if_pos c5).symm.trans hf
            refine rs_icT i_X8_rank_41 (ct_gt c5) (tg := 48) (by decide) ?_
            refine rs_iload_n i_X8_rank_48 rfl ?_
            refine rs_bipush i_X8_rank_49 (v := 17) (by decide) ?_
            by_cases c6 : 17 < v0
            · replace hf := (if_pos c6).symm.trans hf
              refine rs_icT i_X8_rank_51 (ct_gt c6) (tg := 58) (by decide) ?_
              refine rs_iload_n i_X8_rank_58 rfl ?_
              refine rs_bipush i_X8_rank_59 (v := 18) (by decide) ?_
              by_cases c7 : v0 ≠ 18
              · replace hf := (if_pos c7).symm.trans hf
                refine rs_icT i_X8_rank_61 (ct_ne c7) (tg := 69) (by decide) ?_
                refine rs_bipush i_X8_rank_69 (v := 7) (by decide) ?_
                have hf := Option.some.inj hf
                subst hf
                exact rs_iret i_X8_rank_71 m_X8_rank rfl
              · replace hf := (if_neg c7).symm.trans hf
                refine rs_icF i_X8_rank_61 (cf_ne c7) ?_
                refine rs_bipush i_X8_rank_64 (v := 6) (by decide) ?_
                refine rs_goto i_X8_rank_66 (tg := 71) (by decide) ?_
                have hf := Option.some.inj hf
                subst hf
                exact rs_iret i_X8_rank_71 m_X8_rank rfl
            · replace hf := (if_neg c6).symm.trans hf
              refine rs_icF i_X8_rank_51 (cf_gt c6) ?_
              refine rs_iconst i_X8_rank_54 (v := 5) (by decide) ?_
              refine rs_goto i_X8_rank_55 (tg := 71) (by decide) ?_
              have hf := Option.some.inj hf
              subst hf
              exact rs_iret i_X8_rank_71 m_X8_rank rfl
          · replace hf := (if_neg c5).symm.trans hf
            refine rs_icF i_X8_rank_41 (cf_gt c5) ?_
            refine rs_iconst i_X8_rank_44 (v := 4) (by decide) ?_
            refine rs_goto i_X8_rank_45 (tg := 71) (by decide) ?_
            have hf := Option.some.inj hf
            subst hf
            exact rs_iret i_X8_rank_71 m_X8_rank rfl
        · replace hf := (if_neg c4).symm.trans hf
          refine rs_icF i_X8_rank_31 (cf_ne c4) ?_
          refine rs_iconst i_X8_rank_34 (v := 3) (by decide) ?_
          refine rs_goto i_X8_rank_35 (tg := 71) (by decide) ?_
          have hf := Option.some.inj hf
          subst hf
          exact rs_iret i_X8_rank_71 m_X8_rank rfl
      · replace hf := (if_neg c3).symm.trans hf
        refine rs_icF i_X8_rank_21 (cf_ne c3) ?_
        refine rs_iconst i_X8_rank_24 (v := 2) (by decide) ?_
        refine rs_goto i_X8_rank_25 (tg := 71) (by decide) ?_
        have hf := Option.some.inj hf
        subst hf
        exact rs_iret i_X8_rank_71 m_X8_rank rfl
    · replace hf := (if_neg c2).symm.trans hf
      refine rs_icF i_X8_rank_11 (cf_ne c2) ?_
      refine rs_iconst i_X8_rank_14 (v := 1) (by decide) ?_
      refine rs_goto i_X8_rank_15 (tg := 71) (by decide) ?_
      have hf := Option.some.inj hf
      subst hf
      exact rs_iret i_X8_rank_71 m_X8_rank rfl
  · replace hf := (if_neg c1).symm.trans hf
    refine rs_ifF i_X8_rank_1 (cf_ne c1) ?_
    refine rs_iconst i_X8_rank_4 (v := 0) (by decide) ?_
    refine rs_goto i_X8_rank_5 (tg := 71) (by decide) ?_
    have hf := Option.some.inj hf
    subst hf
    exact rs_iret i_X8_rank_71 m_X8_rank rfl
def f_X8_rank (v0 : Int32) (h : Hp) : Option (Int32 × Hp) := f_X8_rank_0 v0 h
theorem c_X8_rank {X : Nat → Int32} {d : Nat} (hd : 0 ≤ d) {v0 : Int32} {h : Hp} {o : (Int32 × Hp)} (hf : f_X8_rank v0 h = some o) : Calls X d 138 [.int v0] h (some (.int o.1), o.2) := by
  exact ⟨_, rfl, r_X8_rank_0 hd hf⟩
theorem i_X8_puts_0 : fetch 139 0 = some (.aload_n 0, 1, 0, 0, 0, 0) := by decide +kernel
theorem i_X8_puts_1 : fetch 139 1 = some (.getfield 39, 4, 8, 11, 0, 1020) := by decide +kernel
theorem i_X8_puts_4 : fetch 139 4 = some (.sipush 200, 7, 0, 0, 0, 0) := by decide +kernel
theorem i_X8_puts_7 : fetch 139 7 = some (.aload_n 0, 8, 0, 0, 0, 0) := by decide +kernel
theorem i_X8_puts_8 : fetch 139 8 = some (.getfield 132, 11, 8, 13, 0, 1022) := by decide +kernel
theorem i_X8_puts_11 : fetch 139 11 = some (.imul, 12, 0, 0, 0, 0) := by decide +kernel
theorem i_X8_puts_12 : fetch 139 12 = some (.aload_n 0, 13, 0, 0, 0, 0) := by decide +kernel
theorem i_X8_puts_13 : fetch 139 13 = some (.getfield 156, 16, 8, 34, 0, 1043) := by decide +kernel
theorem i_X8_puts_16 : fetch 139 16 = some (.iadd, 17, 0, 0, 0, 0) := by decide +kernel
theorem i_X8_puts_17 : fetch 139 17 = some (.iload_n 1, 18, 0, 0, 0, 0) := by decide +kernel
theorem i_X8_puts_18 : fetch 139 18 = some (.iastore, 19, 0, 0, 0, 0) := by decide +kernel
theorem i_X8_puts_19 : fetch 139 19 = some (.aload_n 0, 20, 0, 0, 0, 0) := by decide +kernel
theorem i_X8_puts_20 : fetch 139 20 = some (.dup, 21, 0, 0, 0, 0) := by decide +kernel
theorem i_X8_puts_21 : fetch 139 21 = some (.getfield 156, 24, 8, 34, 0, 1043) := by decide +kernel
theorem i_X8_puts_24 : fetch 139 24 = some (.iconst 1, 25, 0, 0, 0, 0) := by decide +kernel
theorem i_X8_puts_25 : fetch 139 25 = some (.iadd, 26, 0, 0, 0, 0) := by decide +kernel
theorem i_X8_puts_26 : fetch 139 26 = some (.putfield 156, 29, 8, 34, 0, 1043) := by decide +kernel
theorem i_X8_puts_29 : fetch 139 29 = some (.return_, 30, 0, 0, 0, 0) := by decide +kernel
def f_X8_puts_19 (v0 : Nat) (h : Hp) : Option Hp :=
  if okO h v0 8 then
  some (hsi h v0 34 ((gI h v0 34) + 1))
  else none
set_option maxRecDepth 100000 in
set_option maxHeartbeats 4000000 in
theorem r_X8_puts_19 {X : Nat → Int32} {d : Nat} (hd : 0 ≤ d) {v0 : Nat} {d1 : Int32} {h : Hp} {o : Hp} (hf : f_X8_puts_19 v0 h = some o) : Run X d 139 19 [some (.ref v0), some (.int d1)] [] h (none, o) := by
  unfold f_X8_puts_19 at hf
  refine rs_aload_n i_X8_puts_19 rfl ?_
  refine rs_dup i_X8_puts_20 rfl ?_
  obtain ⟨c1, hf⟩ := ite_some hf
  refine rs_getI i_X8_puts_21 (by decide) (by decide) c1 ?_
  refine rs_iconst i_X8_puts_24 (v := 1) (by decide) ?_
  refine rs_iadd i_X8_puts_25 ?_
  refine rs_putI i_X8_puts_26 (by decide) c1 ?_
  have hf := Option.some.inj hf
  subst hf
  exact rs_vret i_X8_puts_29 m_X8_puts rfl
def f_X8_puts_0 (v0 : Nat) (v1 : Int32) (h : Hp) : Option Hp :=
  if okO h v0 8 then
  (gR h v0 11).bind fun a2 =>
  if okI h a2 ((200 * (gI h v0 13)) + (gI h v0 34)) then
  f_X8_puts_19 v0 (hsi h a2 (ix ((200 * (gI h v0 13)) + (gI h v0 34))) v1)
  else none
  else none
set_option maxRecDepth 100000 in
set_option maxHeartbeats 4000000 in
theorem r_X8_puts_0 {X : Nat → Int32} {d : Nat} (hd : 0 ≤ d) {v0 : Nat} {v1 : Int32} {h : Hp} {o : Hp} (hf : f_X8_puts_0 v0 v1 h = some o) : Run X d 139 0 [some (.ref v0), some (.int v1)] [] h (none, o) := by
  unfold f_X8_puts_0 at hf
  refine rs_aload_n i_X8_puts_0 rfl ?_
  obtain ⟨c1, hf⟩ := ite_some hf
  obtain ⟨a2, e2, hf⟩ := bind_some hf
  refine rs_getR i_X8_puts_1 (by decide) (by decide) c1 e2 ?_
  refine rs_sipush i_X8_puts_4 (v := 200) (by decide) ?_
  refine rs_aload_n i_X8_puts_7 rfl ?_
  refine rs_getI i_X8_puts_8 (by decide) (by decide) c1 ?_
  refine rs_imul i_X8_puts_11 ?_
  refine rs_aload_n i_X8_puts_12 rfl ?_
  refine rs_getI i_X8_puts_13 (by decide) (by decide) c1 ?_
  refine rs_iadd i_X8_puts_16 ?_
  refine rs_iload_n i_X8_puts_17 rfl ?_
  obtain ⟨c3, hf⟩ := ite_some hf
  refine rs_iast i_X8_puts_18 c3 ?_
  exact r_X8_puts_19 hd hf
def f_X8_puts (v0 : Nat) (v1 : Int32) (h : Hp) : Option Hp := f_X8_puts_0 v0 v1 h
theorem c_X8_puts {X : Nat → Int32} {d : Nat} (hd : 0 ≤ d) {v0 : Nat} {v1 : Int32} {h : Hp} {o : Hp} (hf : f_X8_puts v0 v1 h = some o) : Calls X d 139 [.ref v0, .int v1] h (none, o) := by
  exact ⟨_, rfl, r_X8_puts_0 hd hf⟩
theorem i_X8_unwinds_0 : fetch 140 0 = some (.aload_n 0, 1, 0, 0, 0, 0) := by decide +kernel
theorem i_X8_unwinds_1 : fetch 140 1 = some (.getfield 159, 4, 8, 32, 0, 1041) := by decide +kernel
theorem i_X8_unwinds_4 : fetch 140 4 = some (.ifCond .le 75, 7, 0, 0, 0, 0) := by decide +kernel
theorem i_X8_unwinds_7 : fetch 140 7 = some (.aload_n 0, 8, 0, 0, 0, 0) := by decide +kernel
theorem i_X8_unwinds_8 : fetch 140 8 = some (.getfield 66, 11, 8, 31, 0, 1040) := by decide +kernel
theorem i_X8_unwinds_11 : fetch 140 11 = some (.aload_n 0, 12, 0, 0, 0, 0) := by decide +kernel
theorem i_X8_unwinds_12 : fetch 140 12 = some (.getfield 159, 15, 8, 32, 0, 1041) := by decide +kernel
theorem i_X8_unwinds_15 : fetch 140 15 = some (.iconst 1, 16, 0, 0, 0, 0) := by decide +kernel
theorem i_X8_unwinds_16 : fetch 140 16 = some (.isub, 17, 0, 0, 0, 0) := by decide +kernel
theorem i_X8_unwinds_17 : fetch 140 17 = some (.iaload, 18, 0, 0, 0, 0) := by decide +kernel
theorem i_X8_unwinds_18 : fetch 140 18 = some (.invokestatic 162, 21, 138, 0, 0, 990) := by decide +kernel
theorem i_X8_unwinds_21 : fetch 140 21 = some (.iload_n 1, 22, 0, 0, 0, 0) := by decide +kernel
theorem i_X8_unwinds_22 : fetch 140 22 = some (.if_icmp .lt 57, 25, 0, 0, 0, 0) := by decide +kernel
theorem i_X8_unwinds_25 : fetch 140 25 = some (.aload_n 0, 26, 0, 0, 0, 0) := by decide +kernel
theorem i_X8_unwinds_26 : fetch 140 26 = some (.dup, 27, 0, 0, 0, 0) := by decide +kernel
theorem i_X8_unwinds_27 : fetch 140 27 = some (.getfield 159, 30, 8, 32, 0, 1041) := by decide +kernel
theorem i_X8_unwinds_30 : fetch 140 30 = some (.iconst 1, 31, 0, 0, 0, 0) := by decide +kernel
theorem i_X8_unwinds_31 : fetch 140 31 = some (.isub, 32, 0, 0, 0, 0) := by decide +kernel
theorem i_X8_unwinds_32 : fetch 140 32 = some (.putfield 159, 35, 8, 32, 0, 1041) := by decide +kernel
theorem i_X8_unwinds_35 : fetch 140 35 = some (.aload_n 0, 36, 0, 0, 0, 0) := by decide +kernel
theorem i_X8_unwinds_36 : fetch 140 36 = some (.getfield 66, 39, 8, 31, 0, 1040) := by decide +kernel
theorem i_X8_unwinds_39 : fetch 140 39 = some (.aload_n 0, 40, 0, 0, 0, 0) := by decide +kernel
theorem i_X8_unwinds_40 : fetch 140 40 = some (.getfield 159, 43, 8, 32, 0, 1041) := by decide +kernel
theorem i_X8_unwinds_43 : fetch 140 43 = some (.iaload, 44, 0, 0, 0, 0) := by decide +kernel
theorem i_X8_unwinds_44 : fetch 140 44 = some (.istore_n 2, 45, 0, 0, 0, 0) := by decide +kernel
theorem i_X8_unwinds_45 : fetch 140 45 = some (.aload_n 0, 46, 0, 0, 0, 0) := by decide +kernel
theorem i_X8_unwinds_46 : fetch 140 46 = some (.dup, 47, 0, 0, 0, 0) := by decide +kernel
theorem i_X8_unwinds_47 : fetch 140 47 = some (.getfield 165, 50, 8, 33, 0, 1042) := by decide +kernel
theorem i_X8_unwinds_50 : fetch 140 50 = some (.iload_n 2, 51, 0, 0, 0, 0) := by decide +kernel
theorem i_X8_unwinds_51 : fetch 140 51 = some (.bipush 13, 53, 0, 0, 0, 0) := by decide +kernel
theorem i_X8_unwinds_53 : fetch 140 53 = some (.if_icmp .eq 9, 56, 0, 0, 0, 0) := by decide +kernel
theorem i_X8_unwinds_56 : fetch 140 56 = some (.iload_n 2, 57, 0, 0, 0, 0) := by decide +kernel
theorem i_X8_unwinds_57 : fetch 140 57 = some (.bipush 19, 59, 0, 0, 0, 0) := by decide +kernel
theorem i_X8_unwinds_59 : fetch 140 59 = some (.if_icmp .ne 7, 62, 0, 0, 0, 0) := by decide +kernel
theorem i_X8_unwinds_62 : fetch 140 62 = some (.iconst 1, 63, 0, 0, 0, 0) := by decide +kernel
theorem i_X8_unwinds_63 : fetch 140 63 = some (.goto 4, 66, 0, 0, 0, 0) := by decide +kernel
theorem i_X8_unwinds_66 : fetch 140 66 = some (.iconst 0, 67, 0, 0, 0, 0) := by decide +kernel
theorem i_X8_unwinds_67 : fetch 140 67 = some (.isub, 68, 0, 0, 0, 0) := by decide +kernel
theorem i_X8_unwinds_68 : fetch 140 68 = some (.putfield 165, 71, 8, 33, 0, 1042) := by decide +kernel
theorem i_X8_unwinds_71 : fetch 140 71 = some (.aload_n 0, 72, 0, 0, 0, 0) := by decide +kernel
theorem i_X8_unwinds_72 : fetch 140 72 = some (.iload_n 2, 73, 0, 0, 0, 0) := by decide +kernel
theorem i_X8_unwinds_73 : fetch 140 73 = some (.invokevirtual 168, 76, 139, 0, 0, 982) := by decide +kernel
theorem i_X8_unwinds_76 : fetch 140 76 = some (.goto (-76), 79, 0, 0, 0, 0) := by decide +kernel
theorem i_X8_unwinds_79 : fetch 140 79 = some (.return_, 80, 0, 0, 0, 0) := by decide +kernel
def f_X8_unwinds_71 (n : Nat) (K0 : Nat → Int32 → Hp → Option Hp) (v0 : Nat) (v1 : Int32) (v2 : Int32) (h : Hp) : Option Hp :=
  if okO h v0 8 then
  (f_X8_puts v0 v2 h).bind fun o1 =>
  K0 v0 v1 o1
  else none
set_option maxRecDepth 100000 in
set_option maxHeartbeats 4000000 in
theorem r_X8_unwinds_71 {X : Nat → Int32} {d : Nat} (hd : 1 ≤ (d + 1)) {n : Nat} {K0 : Nat → Int32 → Hp → Option Hp} (HK0 : ∀ (v0 : Nat) (v1 : Int32) (w2 : Option Value) (h : Hp) (o : Hp), K0 v0 v1 h = some o → Run X (d + 1) 140 0 [some (.ref v0), some (.int v1), w2] [] h (none, o)) {v0 : Nat} {v1 : Int32} {v2 : Int32} {h : Hp} {o : Hp} (hf : f_X8_unwinds_71 n K0 v0 v1 v2 h = some o) : Run X (d + 1) 140 71 [some (.ref v0), some (.int v1), some (.int v2)] [] h (none, o) := by
  unfold f_X8_unwinds_71 at hf
  refine rs_aload_n i_X8_unwinds_71 rfl ?_
  refine rs_iload_n i_X8_unwinds_72 rfl ?_
  obtain ⟨c2, hf⟩ := ite_some hf
  obtain ⟨o1, e1, hf⟩ := bind_some hf
  refine rs_inV i_X8_unwinds_73 m_X8_puts rfl (As := [.int v2]) (rest := []) rfl rfl (Nat.le_of_ble_eq_true rfl) c2 (c_X8_puts (by omega) e1) (st' := []) rfl ?_
  refine rs_goto i_X8_unwinds_76 (tg := 0) (by decide) ?_
  exact HK0 _ _ _ _ _ hf
def f_X8_unwinds_67 (n : Nat) (K0 : Nat → Int32 → Hp → Option Hp) (v0 : Nat) (v1 : Int32) (v2 : Int32) (s0 : Nat) (s1 : Int32) (s2 : Int32) (h : Hp) : Option Hp :=
  if okO h s0 8 then
  f_X8_unwinds_71 n K0 v0 v1 v2 (hsi h s0 33 (s1 - s2))
  else none
set_option maxRecDepth 100000 in
set_option maxHeartbeats 4000000 in
theorem r_X8_unwinds_67 {X : Nat → Int32} {d : Nat} (hd : 1 ≤ (d + 1)) {n : Nat} {K0 : Nat → Int32 → Hp → Option Hp} (HK0 : ∀ (v0 : Nat) (v1 : Int32) (w2 : Option Value) (h : Hp) (o : Hp), K0 v0 v1 h = some o → Run X (d + 1) 140 0 [some (.ref v0), some (.int v1), w2] [] h (none, o)) {v0 : Nat} {v1 : Int32} {v2 : Int32} {s0 : Nat} {s1 : Int32} {s2 : Int32} {h : Hp} {o : Hp} (hf : f_X8_unwinds_67 n K0 v0 v1 v2 s0 s1 s2 h = some o) : Run X (d + 1) 140 67 [some (.ref v0), some (.int v1), some (.int v2)] [.int s2, .int s1, .ref s0] h (none, o) := by
  unfold f_X8_unwinds_67 at hf
  refine rs_isub i_X8_unwinds_67 ?_
  obtain ⟨c1, hf⟩ := ite_some hf
  refine rs_putI i_X8_unwinds_68 (by decide) c1 ?_
  exact r_X8_unwinds_71 hd HK0 hf
def f_X8_unwinds_62 (n : Nat) (K0 : Nat → Int32 → Hp → Option Hp) (v0 : Nat) (v1 : Int32) (v2 : Int32) (s0 : Nat) (s1 : Int32) (h : Hp) : Option Hp :=
  f_X8_unwinds_67 n K0 v0 v1 v2 s0 s1 1 h
set_option maxRecDepth 100000 in
set_option maxHeartbeats 4000000 in
theorem r_X8_unwinds_62 {X : Nat → Int32} {d : Nat} (hd : 1 ≤ (d + 1)) {n : Nat} {K0 : Nat → Int32 → Hp → Option Hp} (HK0 : ∀ (v0 : Nat) (v1 : Int32) (w2 : Option Value) (h : Hp) (o : Hp), K0 v0 v1 h = some o → Run X (d + 1) 140 0 [some (.ref v0), some (.int v1), w2] [] h (none, o)) {v0 : Nat} {v1 : Int32} {v2 : Int32} {s0 : Nat} {s1 : Int32} {h : Hp} {o : Hp} (hf : f_X8_unwinds_62 n K0 v0 v1 v2 s0 s1 h = some o) : Run X (d + 1) 140 62 [some (.ref v0), some (.int v1), some (.int v2)] [.int s1, .ref s0] h (none, o) := by
  unfold f_X8_unwinds_62 at hf
  refine rs_iconst i_X8_unwinds_62 (v := 1) (by decide) ?_
  refine rs_goto i_X8_unwinds_63 (tg := 67) (by decide) ?_
  exact r_X8_unwinds_67 hd HK0 hf
def f_X8_unwinds_35 (n : Nat) (K0 : Nat → Int32 → Hp → Option Hp) (v0 : Nat) (v1 : Int32) (h : Hp) : Option Hp :=
  if okO h v0 8 then
  (gR h v0 31).bind fun a2 =>
  if okI h a2 (gI h v0 32) then
  if (gI h a2 (ix (gI h v0 32))) = 13 then
    f_X8_unwinds_62 n K0 v0 v1 (gI h a2 (ix (gI h v0 32))) v0 (gI h v0 33) h
  else
    if (gI h a2 (ix (gI h v0 32))) ≠ 19 then
      f_X8_unwinds_67 n K0 v0 v1 (gI h a2 (ix (gI h v0 32))) v0 (gI h v0 33) 0 h
    else
      f_X8_unwinds_62 n K0 v0 v1 (gI h a2 (ix (gI h v0 32))) v0 (gI h v0 33) h
  else none
  else none
set_option maxRecDepth 100000 in
set_option maxHeartbeats 4000000 in
theorem r_X8_unwinds_35 {X : Nat → Int32} {d : Nat} (hd : 1 ≤ (d + 1)) {n : Nat} {K0 : Nat → Int32 → Hp → Option Hp} (HK0 : ∀ (v0 : Nat) (v1 : Int32) (w2 : Option Value) (h : Hp) (o : Hp), K0 v0 v1 h = some o → Run X (d + 1) 140 0 [some (.ref v0), some (.int v1), w2] [] h (none, o)) {v0 : Nat} {v1 : Int32} {w2 : Option Value} {h : Hp} {o : Hp} (hf : f_X8_unwinds_35 n K0 v0 v1 h = some o) : Run X (d + 1) 140 35 [some (.ref v0), some (.int v1), w2] [] h (none, o) := by
  unfold f_X8_unwinds_35 at hf
  refine rs_aload_n i_X8_unwinds_35 rfl ?_
  obtain ⟨c1, hf⟩ := ite_some hf
  obtain ⟨a2, e2, hf⟩ := bind_some hf
  refine rs_getR i_X8_unwinds_36 (by decide) (by decide) c1 e2 ?_
  refine rs_aload_n i_X8_unwinds_39 rfl ?_
  refine rs_getI i_X8_unwinds_40 (by decide) (by decide) c1 ?_
  obtain ⟨c3, hf⟩ := ite_some hf
  refine rs_iald i_X8_unwinds_43 c3 ?_
  refine rs_istore_n i_X8_unwinds_44 (Nat.le_of_ble_eq_true rfl) (lv' := [some (.ref v0), some (.int v1), some (.int (gI h a2 (ix (gI h v0 32))))]) rfl ?_
  refine rs_aload_n i_X8_unwinds_45 rfl ?_
  refine rs_dup i_X8_unwinds_46 rfl ?_
  refine rs_getI i_X8_unwinds_47 (by decide) (by decide) c1 ?_
  refine rs_iload_n i_X8_unwinds_50 rfl ?_
  refine rs_bipush i_X8_unwinds_51 (v := 13) (by decide) ?_
  by_cases c4 : (gI h a2 (ix (gI h v0 32))) = 13
  · replace hf := (if_pos c4).symm.trans hf
    refine rs_icT i_X8_unwinds_53 (ct_eq c4) (tg := 62) (by decide) ?_
    exact r_X8_unwinds_62 hd HK0 hf
  · replace hf := (if_neg c4).symm.trans hf
    refine rs_icF i_X8_unwinds_53 (cf_eq c4) ?_
    refine rs_iload_n i_X8_unwinds_56 rfl ?_
    refine rs_bipush i_X8_unwinds_57 (v := 19) (by decide) ?_
    by_cases c5 : (gI h a2 (ix (gI h v0 32))) ≠ 19
    · replace hf := (if_pos c5).symm.trans hf
      refine rs_icT i_X8_unwinds_59 (ct_ne c5) (tg := 66) (by decide) ?_
      refine rs_iconst i_X8_unwinds_66 (v := 0) (by decide) ?_
      exact r_X8_unwinds_67 hd HK0 hf
    · replace hf := (if_neg c5).symm.trans hf
      refine rs_icF i_X8_unwinds_59 (cf_ne c5) ?_
      exact r_X8_unwinds_62 hd HK0 hf
def f_X8_unwinds_0 (n : Nat) : Nat → Nat → Int32 → Hp → Option Hp
  | 0, _, _, _ => none
  | m + 1, v0, v1, h =>
    if okO h v0 8 then
    if (gI h v0 32) ≤ 0 then
      some h
    else
      (gR h v0 31).bind fun a3 =>
      if okI h a3 ((gI h v0 32) - 1) then
      (f_X8_rank (gI h a3 (ix ((gI h v0 32) - 1))) h).bind fun o5 =>
      if o5.1 < v1 then
        some o5.2
      else
        if okO o5.2 v0 8 then
        f_X8_unwinds_35 n (f_X8_unwinds_0 n m) v0 v1 (hsi o5.2 v0 32 ((gI o5.2 v0 32) - 1))
        else none
      else none
    else none
set_option maxRecDepth 100000 in
set_option maxHeartbeats 4000000 in
theorem r_X8_unwinds_0 {X : Nat → Int32} {d : Nat} (hd : 1 ≤ (d + 1)) {n : Nat} : ∀ (m : Nat) (v0 : Nat) (v1 : Int32) (w2 : Option Value) (h : Hp) (o : Hp), f_X8_unwinds_0 n m v0 v1 h = some o → Run X (d + 1) 140 0 [some (.ref v0), some (.int v1), w2] [] h (none, o) := by
  intro m
  induction m with
  | zero => intro v0 v1 w2 h o hf; cases hf
  | succ m ih =>
    intro v0 v1 w2 h o hf
    rw [f_X8_unwinds_0] at hf
    refine rs_aload_n i_X8_unwinds_0 rfl ?_
    obtain ⟨c1, hf⟩ := ite_some hf
    refine rs_getI i_X8_unwinds_1 (by decide) (by decide) c1 ?_
    by_cases c2 : (gI h v0 32) ≤ 0
    · replace hf := (if_pos c2).symm.trans hf
      refine rs_ifT i_X8_unwinds_4 (ct_le c2) (tg := 79) (by decide) ?_
      have hf := Option.some.inj hf
      subst hf
      exact rs_vret i_X8_unwinds_79 m_X8_unwinds rfl
    · replace hf := (if_neg c2).symm.trans hf
      refine rs_ifF i_X8_unwinds_4 (cf_le c2) ?_
      refine rs_aload_n i_X8_unwinds_7 rfl ?_
      obtain ⟨a3, e3, hf⟩ := bind_some hf
      refine rs_getR i_X8_unwinds_8 (by decide) (by decide) c1 e3 ?_
      refine rs_aload_n i_X8_unwinds_11 rfl ?_
      refine rs_getI i_X8_unwinds_12 (by decide) (by decide) c1 ?_
      refine rs_iconst i_X8_unwinds_15 (v := 1) (by decide) ?_
      refine rs_isub i_X8_unwinds_16 ?_
      obtain ⟨c4, hf⟩ := ite_some hf
      refine rs_iald i_X8_unwinds_17 c4 ?_
      obtain ⟨o5, e5, hf⟩ := bind_some hf
      refine rs_inS i_X8_unwinds_18 (by decide) m_X8_rank rfl (As := [.int (gI h a3 (ix ((gI h v0 32) - 1)))]) (rest := []) rfl rfl (Nat.le_of_ble_eq_true rfl) (c_X8_rank (by omega) e5) (st' := [.int o5.1]) rfl ?_
      refine rs_iload_n i_X8_unwinds_21 rfl ?_
      by_cases c6 : o5.1 < v1
      · replace hf := (if_pos c6).symm.trans hf
        refine rs_icT i_X8_unwinds_22 (ct_lt c6) (tg := 79) (by decide) ?_
        have hf := Option.some.inj hf
        subst hf
        exact rs_vret i_X8_unwinds_79 m_X8_unwinds rfl
      · replace hf := (if_neg c6).symm.trans hf
        refine rs_icF i_X8_unwinds_22 (cf_lt c6) ?_
        refine rs_aload_n i_X8_unwinds_25 rfl ?_
        refine rs_dup i_X8_unwinds_26 rfl ?_
        obtain ⟨c7, hf⟩ := ite_some hf
        refine rs_getI i_X8_unwinds_27 (by decide) (by decide) c7 ?_
        refine rs_iconst i_X8_unwinds_30 (v := 1) (by decide) ?_
        refine rs_isub i_X8_unwinds_31 ?_
        refine rs_putI i_X8_unwinds_32 (by decide) c7 ?_
        exact r_X8_unwinds_35 hd ih hf
def f_X8_unwinds (n : Nat) (v0 : Nat) (v1 : Int32) (h : Hp) : Option Hp := f_X8_unwinds_0 n n v0 v1 h
theorem c_X8_unwinds {X : Nat → Int32} {d : Nat} (hd : 1 ≤ d) {n : Nat} {v0 : Nat} {v1 : Int32} {h : Hp} {o : Hp} (hf : f_X8_unwinds n v0 v1 h = some o) : Calls X d 140 [.ref v0, .int v1] h (none, o) := by
  obtain ⟨d, rfl⟩ : ∃ z, d = z + 1 := ⟨d - 1, by omega⟩
  exact ⟨_, rfl, r_X8_unwinds_0 hd _ _ _ _ _ _ hf⟩
theorem i_X8_between_0 : fetch 143 0 = some (.aload_n 0, 1, 0, 0, 0, 0) := by decide +kernel
theorem i_X8_between_1 : fetch 143 1 = some (.iload_n 1, 2, 0, 0, 0, 0) := by decide +kernel
theorem i_X8_between_2 : fetch 143 2 = some (.invokestatic 162, 5, 138, 0, 0, 990) := by decide +kernel
theorem i_X8_between_5 : fetch 143 5 = some (.iconst 4, 6, 0, 0, 0, 0) := by decide +kernel
theorem i_X8_between_6 : fetch 143 6 = some (.if_icmp .ne 7, 9, 0, 0, 0, 0) := by decide +kernel
theorem i_X8_between_9 : fetch 143 9 = some (.iconst 5, 10, 0, 0, 0, 0) := by decide +kernel
theorem i_X8_between_10 : fetch 143 10 = some (.goto 7, 13, 0, 0, 0, 0) := by decide +kernel
theorem i_X8_between_13 : fetch 143 13 = some (.iload_n 1, 14, 0, 0, 0, 0) := by decide +kernel
theorem i_X8_between_14 : fetch 143 14 = some (.invokestatic 162, 17, 138, 0, 0, 990) := by decide +kernel
theorem i_X8_between_17 : fetch 143 17 = some (.invokevirtual 175, 20, 140, 0, 0, 986) := by decide +kernel
theorem i_X8_between_20 : fetch 143 20 = some (.iload_n 1, 21, 0, 0, 0, 0) := by decide +kernel
theorem i_X8_between_21 : fetch 143 21 = some (.invokestatic 162, 24, 138, 0, 0, 990) := by decide +kernel
theorem i_X8_between_24 : fetch 143 24 = some (.iconst 4, 25, 0, 0, 0, 0) := by decide +kernel
theorem i_X8_between_25 : fetch 143 25 = some (.if_icmp .ne 30, 28, 0, 0, 0, 0) := by decide +kernel
theorem i_X8_between_28 : fetch 143 28 = some (.aload_n 0, 29, 0, 0, 0, 0) := by decide +kernel
theorem i_X8_between_29 : fetch 143 29 = some (.getfield 159, 32, 8, 32, 0, 1041) := by decide +kernel
theorem i_X8_between_32 : fetch 143 32 = some (.ifCond .le 23, 35, 0, 0, 0, 0) := by decide +kernel
theorem i_X8_between_35 : fetch 143 35 = some (.aload_n 0, 36, 0, 0, 0, 0) := by decide +kernel
theorem i_X8_between_36 : fetch 143 36 = some (.getfield 66, 39, 8, 31, 0, 1040) := by decide +kernel
theorem i_X8_between_39 : fetch 143 39 = some (.aload_n 0, 40, 0, 0, 0, 0) := by decide +kernel
theorem i_X8_between_40 : fetch 143 40 = some (.getfield 159, 43, 8, 32, 0, 1041) := by decide +kernel
theorem i_X8_between_43 : fetch 143 43 = some (.iconst 1, 44, 0, 0, 0, 0) := by decide +kernel
theorem i_X8_between_44 : fetch 143 44 = some (.isub, 45, 0, 0, 0, 0) := by decide +kernel
theorem i_X8_between_45 : fetch 143 45 = some (.iaload, 46, 0, 0, 0, 0) := by decide +kernel
theorem i_X8_between_46 : fetch 143 46 = some (.invokestatic 162, 49, 138, 0, 0, 990) := by decide +kernel
theorem i_X8_between_49 : fetch 143 49 = some (.iconst 4, 50, 0, 0, 0, 0) := by decide +kernel
theorem i_X8_between_50 : fetch 143 50 = some (.if_icmp .ne 5, 53, 0, 0, 0, 0) := by decide +kernel
theorem i_X8_between_53 : fetch 143 53 = some (.iconst 0, 54, 0, 0, 0, 0) := by decide +kernel
theorem i_X8_between_54 : fetch 143 54 = some (.ireturn, 55, 0, 0, 0, 0) := by decide +kernel
theorem i_X8_between_55 : fetch 143 55 = some (.aload_n 0, 56, 0, 0, 0, 0) := by decide +kernel
theorem i_X8_between_56 : fetch 143 56 = some (.iload_n 1, 57, 0, 0, 0, 0) := by decide +kernel
theorem i_X8_between_57 : fetch 143 57 = some (.invokevirtual 172, 60, 141, 0, 0, 997) := by decide +kernel
theorem i_X8_between_60 : fetch 143 60 = some (.iconst 1, 61, 0, 0, 0, 0) := by decide +kernel
theorem i_X8_between_61 : fetch 143 61 = some (.ireturn, 62, 0, 0, 0, 0) := by decide +kernel
def f_X8_between_55 (n : Nat) (v0 : Nat) (v1 : Int32) (h : Hp) : Option (Int32 × Hp) :=
  if okO h v0 8 then
  (f_X8_holds v0 v1 h).bind fun o1 =>
  some (1, o1)
  else none
set_option maxRecDepth 100000 in
set_option maxHeartbeats 4000000 in
theorem r_X8_between_55 {X : Nat → Int32} {d : Nat} (hd : 2 ≤ (d + 1)) {n : Nat} {v0 : Nat} {v1 : Int32} {h : Hp} {o : (Int32 × Hp)} (hf : f_X8_between_55 n v0 v1 h = some o) : Run X (d + 1) 143 55 [some (.ref v0), some (.int v1)] [] h (some (.int o.1), o.2) := by
  unfold f_X8_between_55 at hf
  refine rs_aload_n i_X8_between_55 rfl ?_
  refine rs_iload_n i_X8_between_56 rfl ?_
  obtain ⟨c2, hf⟩ := ite_some hf
  obtain ⟨o1, e1, hf⟩ := bind_some hf
  refine rs_inV i_X8_between_57 m_X8_holds rfl (As := [.int v1]) (rest := []) rfl rfl (Nat.le_of_ble_eq_true rfl) c2 (c_X8_holds (by omega) e1) (st' := []) rfl ?_
  refine rs_iconst i_X8_between_60 (v := 1) (by decide) ?_
  have hf := Option.some.inj hf
  subst hf
  exact rs_iret i_X8_between_61 m_X8_between (by decide)
def f_X8_between_17 (n : Nat) (v0 : Nat) (v1 : Int32) (s0 : Nat) (s1 : Int32) (h : Hp) : Option (Int32 × Hp) :=
  if okO h s0 8 then
  (f_X8_unwinds n s0 s1 h).bind fun o1 =>
  (f_X8_rank v1 o1).bind fun o3 =>
  if o3.1 ≠ 4 then
    f_X8_between_55 n v0 v1 o3.2
  else
    if okO o3.2 v0 8 then
    if (gI o3.2 v0 32) ≤ 0 then
      f_X8_between_55 n v0 v1 o3.2
    else
      (gR o3.2 v0 31).bind fun a7 =>
      if okI o3.2 a7 ((gI o3.2 v0 32) - 1) then
      (f_X8_rank (gI o3.2 a7 (ix ((gI o3.2 v0 32) - 1))) o3.2).bind fun o9 =>
      if o9.1 ≠ 4 then
        f_X8_between_55 n v0 v1 o9.2
      else
        some (0, o9.2)
      else none
    else none
  else none
set_option maxRecDepth 100000 in
set_option maxHeartbeats 4000000 in
theorem r_X8_between_17 {X : Nat → Int32} {d : Nat} (hd : 2 ≤ (d + 1)) {n : Nat} {v0 : Nat} {v1 : Int32} {s0 : Nat} {s1 : Int32} {h : Hp} {o : (Int32 × Hp)} (hf : f_X8_between_17 n v0 v1 s0 s1 h = some o) : Run X (d + 1) 143 17 [some (.ref v0), some (.int v1)] [.int s1, .ref s0] h (some (.int o.1), o.2) := by
  unfold f_X8_between_17 at hf
  obtain ⟨c2, hf⟩ := ite_some hf
  obtain ⟨o1, e1, hf⟩ := bind_some hf
  refine rs_inV i_X8_between_17 m_X8_unwinds rfl (As := [.int s1]) (rest := []) rfl rfl (Nat.le_of_ble_eq_true rfl) c2 (c_X8_unwinds (by omega) e1) (st' := []) rfl ?_
  refine rs_iload_n i_X8_between_20 rfl ?_
  obtain ⟨o3, e3, hf⟩ := bind_some hf
  refine rs_inS i_X8_between_21 (by decide) m_X8_rank rfl (As := [.int v1]) (rest := []) rfl rfl (Nat.le_of_ble_eq_true rfl) (c_X8_rank (by omega) e3) (st' := [.int o3.1]) rfl ?_
  refine rs_iconst i_X8_between_24 (v := 4) (by decide) ?_
  by_cases c4 : o3.1 ≠ 4
  · replace hf := (if_pos c4).symm.trans hf
    refine rs_icT i_X8_between_25 (ct_ne c4) (tg := 55) (by decide) ?_
    exact r_X8_between_55 hd hf
  · replace hf := (if_neg c4).symm.trans hf
    refine rs_icF i_X8_between_25 (cf_ne c4) ?_
    refine rs_aload_n i_X8_between_28 rfl ?_
    obtain ⟨c5, hf⟩ := ite_some hf
    refine rs_getI i_X8_between_29 (by decide) (by decide) c5 ?_
    by_cases c6 : (gI o3.2 v0 32) ≤ 0
    · replace hf := (if_pos c6).symm.trans hf
      refine rs_ifT i_X8_between_32 (ct_le c6) (tg := 55) (by decide) ?_
      exact r_X8_between_55 hd hf
    · replace hf := (if_neg c6).symm.trans hf
      refine rs_ifF i_X8_between_32 (cf_le c6) ?_
      refine rs_aload_n i_X8_between_35 rfl ?_
      obtain ⟨a7, e7, hf⟩ := bind_some hf
      refine rs_getR i_X8_between_36 (by decide) (by decide) c5 e7 ?_
      refine rs_aload_n i_X8_between_39 rfl ?_
      refine rs_getI i_X8_between_40 (by decide) (by decide) c5 ?_
      refine rs_iconst i_X8_between_43 (v := 1) (by decide) ?_
      refine rs_isub i_X8_between_44 ?_
      obtain ⟨c8, hf⟩ := ite_some hf
      refine rs_iald i_X8_between_45 c8 ?_
      obtain ⟨o9, e9, hf⟩ := bind_some hf
      refine rs_inS i_X8_between_46 (by decide) m_X8_rank rfl (As := [.int (gI o3.2 a7 (ix ((gI o3.2 v0 32) - 1)))]) (rest := []) rfl rfl (Nat.le_of_ble_eq_true rfl) (c_X8_rank (by omega) e9) (st' := [.int o9.1]) rfl ?_
      refine rs_iconst i_X8_between_49 (v := 4) (by decide) ?_
      by_cases c10 : o9.1 ≠ 4
      · replace hf := (if_pos c10).symm.trans hf
        refine rs_icT i_X8_between_50 (ct_ne c10) (tg := 55) (by decide) ?_
        exact r_X8_between_55 hd hf
      · replace hf := (if_neg c10).symm.trans hf
        refine rs_icF i_X8_between_50 (cf_ne c10) ?_
        refine rs_iconst i_X8_between_53 (v := 0) (by decide) ?_
        have hf := Option.some.inj hf
        subst hf
        exact rs_iret i_X8_between_54 m_X8_between (by decide)
def f_X8_between_0 (n : Nat) (v0 : Nat) (v1 : Int32) (h : Hp) : Option (Int32 × Hp) :=
  (f_X8_rank v1 h).bind fun o1 =>
  if o1.1 ≠ 4 then
    (f_X8_rank v1 o1.2).bind fun o3 =>
    f_X8_between_17 n v0 v1 v0 o3.1 o3.2
  else
    f_X8_between_17 n v0 v1 v0 5 o1.2
set_option maxRecDepth 100000 in
set_option maxHeartbeats 4000000 in
theorem r_X8_between_0 {X : Nat → Int32} {d : Nat} (hd : 2 ≤ (d + 1)) {n : Nat} {v0 : Nat} {v1 : Int32} {h : Hp} {o : (Int32 × Hp)} (hf : f_X8_between_0 n v0 v1 h = some o) : Run X (d + 1) 143 0 [some (.ref v0), some (.int v1)] [] h (some (.int o.1), o.2) := by
  unfold f_X8_between_0 at hf
  refine rs_aload_n i_X8_between_0 rfl ?_
  refine rs_iload_n i_X8_between_1 rfl ?_
  obtain ⟨o1, e1, hf⟩ := bind_some hf
  refine rs_inS i_X8_between_2 (by decide) m_X8_rank rfl (As := [.int v1]) (rest := [.ref v0]) rfl rfl (Nat.le_of_ble_eq_true rfl) (c_X8_rank (by omega) e1) (st' := [.int o1.1, .ref v0]) rfl ?_
  refine rs_iconst i_X8_between_5 (v := 4) (by decide) ?_
  by_cases c2 : o1.1 ≠ 4
  · replace hf := (if_pos c2).symm.trans hf
    refine rs_icT i_X8_between_6 (ct_ne c2) (tg := 13) (by decide) ?_
    refine rs_iload_n i_X8_between_13 rfl ?_
    obtain ⟨o3, e3, hf⟩ := bind_some hf
    refine rs_inS i_X8_between_14 (by decide) m_X8_rank rfl (As := [.int v1]) (rest := [.ref v0]) rfl rfl (Nat.le_of_ble_eq_true rfl) (c_X8_rank (by omega) e3) (st' := [.int o3.1, .ref v0]) rfl ?_
    exact r_X8_between_17 hd hf
  · replace hf := (if_neg c2).symm.trans hf
    refine rs_icF i_X8_between_6 (cf_ne c2) ?_
    refine rs_iconst i_X8_between_9 (v := 5) (by decide) ?_
    refine rs_goto i_X8_between_10 (tg := 17) (by decide) ?_
    exact r_X8_between_17 hd hf
def f_X8_between (n : Nat) (v0 : Nat) (v1 : Int32) (h : Hp) : Option (Int32 × Hp) := f_X8_between_0 n v0 v1 h
theorem c_X8_between {X : Nat → Int32} {d : Nat} (hd : 2 ≤ d) {n : Nat} {v0 : Nat} {v1 : Int32} {h : Hp} {o : (Int32 × Hp)} (hf : f_X8_between n v0 v1 h = some o) : Calls X d 143 [.ref v0, .int v1] h (some (.int o.1), o.2) := by
  obtain ⟨d, rfl⟩ : ∃ z, d = z + 1 := ⟨d - 1, by omega⟩
  exact ⟨_, rfl, r_X8_between_0 hd hf⟩
theorem i_X8_in_0 : fetch 126 0 = some (.iload_n 0, 1, 0, 0, 0, 0) := by decide +kernel
theorem i_X8_in_1 : fetch 126 1 = some (.iload_n 1, 2, 0, 0, 0, 0) := by decide +kernel
theorem i_X8_in_2 : fetch 126 2 = some (.if_icmp .lt 12, 5, 0, 0, 0, 0) := by decide +kernel
theorem i_X8_in_5 : fetch 126 5 = some (.iload_n 0, 6, 0, 0, 0, 0) := by decide +kernel
theorem i_X8_in_6 : fetch 126 6 = some (.iload_n 2, 7, 0, 0, 0, 0) := by decide +kernel
theorem i_X8_in_7 : fetch 126 7 = some (.if_icmp .gt 7, 10, 0, 0, 0, 0) := by decide +kernel
theorem i_X8_in_10 : fetch 126 10 = some (.iconst 1, 11, 0, 0, 0, 0) := by decide +kernel
theorem i_X8_in_11 : fetch 126 11 = some (.goto 4, 14, 0, 0, 0, 0) := by decide +kernel
theorem i_X8_in_14 : fetch 126 14 = some (.iconst 0, 15, 0, 0, 0, 0) := by decide +kernel
theorem i_X8_in_15 : fetch 126 15 = some (.ireturn, 16, 0, 0, 0, 0) := by decide +kernel
def f_X8_in_0 (v0 : Int32) (v1 : Int32) (v2 : Int32) (h : Hp) : Option (Int32 × Hp) :=
  if v0 < v1 then
    some (0, h)
  else
    if v2 < v0 then
      some (0, h)
    else
      some (1, h)
set_option maxRecDepth 100000 in
set_option maxHeartbeats 4000000 in
theorem r_X8_in_0 {X : Nat → Int32} {d : Nat} (hd : 0 ≤ d) {v0 : Int32} {v1 : Int32} {v2 : Int32} {h : Hp} {o : (Int32 × Hp)} (hf : f_X8_in_0 v0 v1 v2 h = some o) : Run X d 126 0 [some (.int v0), some (.int v1), some (.int v2)] [] h (some (.int o.1), o.2) := by
  unfold f_X8_in_0 at hf
  refine rs_iload_n i_X8_in_0 rfl ?_
  refine rs_iload_n i_X8_in_1 rfl ?_
  by_cases c1 : v0 < v1
  · replace hf := (if_pos c1).symm.trans hf
    refine rs_icT i_X8_in_2 (ct_lt c1) (tg := 14) (by decide) ?_
    refine rs_iconst i_X8_in_14 (v := 0) (by decide) ?_
    have hf := Option.some.inj hf
    subst hf
    exact rs_iret i_X8_in_15 m_X8_in (by decide)
  · replace hf := (if_neg c1).symm.trans hf
    refine rs_icF i_X8_in_2 (cf_lt c1) ?_
    refine rs_iload_n i_X8_in_5 rfl ?_
    refine rs_iload_n i_X8_in_6 rfl ?_
    by_cases c2 : v2 < v0
    · replace hf := (if_pos c2).symm.trans hf
      refine rs_icT i_X8_in_7 (ct_gt c2) (tg := 14) (by decide) ?_
      refine rs_iconst i_X8_in_14 (v := 0) (by decide) ?_
      have hf := Option.some.inj hf
      subst hf
      exact rs_iret i_X8_in_15 m_X8_in (by decide)
    · replace hf := (if_neg c2).symm.trans hf
      refine rs_icF i_X8_in_7 (cf_gt c2) ?_
      refine rs_iconst i_X8_in_10 (v := 1) (by decide) ?_
      refine rs_goto i_X8_in_11 (tg := 15) (by decide) ?_
      have hf := Option.some.inj hf
      subst hf
      exact rs_iret i_X8_in_15 m_X8_in (by decide)
def f_X8_in (v0 : Int32) (v1 : Int32) (v2 : Int32) (h : Hp) : Option (Int32 × Hp) := f_X8_in_0 v0 v1 v2 h
theorem c_X8_in {X : Nat → Int32} {d : Nat} (hd : 0 ≤ d) {v0 : Int32} {v1 : Int32} {v2 : Int32} {h : Hp} {o : (Int32 × Hp)} (hf : f_X8_in v0 v1 v2 h = some o) : Calls X d 126 [.int v0, .int v1, .int v2] h (some (.int o.1), o.2) := by
  exact ⟨_, rfl, r_X8_in_0 hd hf⟩
theorem i_X8_wordFrom_0 : fetch 136 0 = some (.iconst 0, 1, 0, 0, 0, 0) := by decide +kernel
theorem i_X8_wordFrom_1 : fetch 136 1 = some (.istore_n 3, 2, 0, 0, 0, 0) := by decide +kernel
theorem i_X8_wordFrom_2 : fetch 136 2 = some (.iload_n 3, 3, 0, 0, 0, 0) := by decide +kernel
theorem i_X8_wordFrom_3 : fetch 136 3 = some (.bipush 12, 5, 0, 0, 0, 0) := by decide +kernel
theorem i_X8_wordFrom_5 : fetch 136 5 = some (.if_icmp .ge 96, 8, 0, 0, 0, 0) := by decide +kernel
theorem i_X8_wordFrom_8 : fetch 136 8 = some (.iload_n 2, 9, 0, 0, 0, 0) := by decide +kernel
theorem i_X8_wordFrom_9 : fetch 136 9 = some (.iload_n 1, 10, 0, 0, 0, 0) := by decide +kernel
theorem i_X8_wordFrom_10 : fetch 136 10 = some (.isub, 11, 0, 0, 0, 0) := by decide +kernel
theorem i_X8_wordFrom_11 : fetch 136 11 = some (.bipush 8, 13, 0, 0, 0, 0) := by decide +kernel
theorem i_X8_wordFrom_13 : fetch 136 13 = some (.if_icmp .gt 7, 16, 0, 0, 0, 0) := by decide +kernel
theorem i_X8_wordFrom_16 : fetch 136 16 = some (.iconst 1, 17, 0, 0, 0, 0) := by decide +kernel
theorem i_X8_wordFrom_17 : fetch 136 17 = some (.goto 4, 20, 0, 0, 0, 0) := by decide +kernel
theorem i_X8_wordFrom_20 : fetch 136 20 = some (.iconst 0, 21, 0, 0, 0, 0) := by decide +kernel
theorem i_X8_wordFrom_21 : fetch 136 21 = some (.istore 4, 23, 0, 0, 0, 0) := by decide +kernel
theorem i_X8_wordFrom_23 : fetch 136 23 = some (.iconst 0, 24, 0, 0, 0, 0) := by decide +kernel
theorem i_X8_wordFrom_24 : fetch 136 24 = some (.istore 5, 26, 0, 0, 0, 0) := by decide +kernel
theorem i_X8_wordFrom_26 : fetch 136 26 = some (.iload 5, 28, 0, 0, 0, 0) := by decide +kernel
theorem i_X8_wordFrom_28 : fetch 136 28 = some (.bipush 8, 30, 0, 0, 0, 0) := by decide +kernel
theorem i_X8_wordFrom_30 : fetch 136 30 = some (.if_icmp .ge 58, 33, 0, 0, 0, 0) := by decide +kernel
theorem i_X8_wordFrom_33 : fetch 136 33 = some (.iload 4, 35, 0, 0, 0, 0) := by decide +kernel
theorem i_X8_wordFrom_35 : fetch 136 35 = some (.ifCond .eq 53, 38, 0, 0, 0, 0) := by decide +kernel
theorem i_X8_wordFrom_38 : fetch 136 38 = some (.aload_n 0, 39, 0, 0, 0, 0) := by decide +kernel
theorem i_X8_wordFrom_39 : fetch 136 39 = some (.getfield 63, 42, 8, 30, 0, 1039) := by decide +kernel
theorem i_X8_wordFrom_42 : fetch 136 42 = some (.bipush 8, 44, 0, 0, 0, 0) := by decide +kernel
theorem i_X8_wordFrom_44 : fetch 136 44 = some (.iload_n 3, 45, 0, 0, 0, 0) := by decide +kernel
theorem i_X8_wordFrom_45 : fetch 136 45 = some (.imul, 46, 0, 0, 0, 0) := by decide +kernel
theorem i_X8_wordFrom_46 : fetch 136 46 = some (.iload 5, 48, 0, 0, 0, 0) := by decide +kernel
theorem i_X8_wordFrom_48 : fetch 136 48 = some (.iadd, 49, 0, 0, 0, 0) := by decide +kernel
theorem i_X8_wordFrom_49 : fetch 136 49 = some (.iaload, 50, 0, 0, 0, 0) := by decide +kernel
theorem i_X8_wordFrom_50 : fetch 136 50 = some (.iload_n 1, 51, 0, 0, 0, 0) := by decide +kernel
theorem i_X8_wordFrom_51 : fetch 136 51 = some (.iload 5, 53, 0, 0, 0, 0) := by decide +kernel
theorem i_X8_wordFrom_53 : fetch 136 53 = some (.iadd, 54, 0, 0, 0, 0) := by decide +kernel
theorem i_X8_wordFrom_54 : fetch 136 54 = some (.iload_n 2, 55, 0, 0, 0, 0) := by decide +kernel
theorem i_X8_wordFrom_55 : fetch 136 55 = some (.if_icmp .ge 15, 58, 0, 0, 0, 0) := by decide +kernel
theorem i_X8_wordFrom_58 : fetch 136 58 = some (.aload_n 0, 59, 0, 0, 0, 0) := by decide +kernel
theorem i_X8_wordFrom_59 : fetch 136 59 = some (.getfield 36, 62, 8, 9, 0, 1018) := by decide +kernel
theorem i_X8_wordFrom_62 : fetch 136 62 = some (.iload_n 1, 63, 0, 0, 0, 0) := by decide +kernel
theorem i_X8_wordFrom_63 : fetch 136 63 = some (.iload 5, 65, 0, 0, 0, 0) := by decide +kernel
theorem i_X8_wordFrom_65 : fetch 136 65 = some (.iadd, 66, 0, 0, 0, 0) := by decide +kernel
theorem i_X8_wordFrom_66 : fetch 136 66 = some (.iaload, 67, 0, 0, 0, 0) := by decide +kernel
theorem i_X8_wordFrom_67 : fetch 136 67 = some (.goto 5, 70, 0, 0, 0, 0) := by decide +kernel
theorem i_X8_wordFrom_70 : fetch 136 70 = some (.bipush 32, 72, 0, 0, 0, 0) := by decide +kernel
theorem i_X8_wordFrom_72 : fetch 136 72 = some (.if_icmp .ne 7, 75, 0, 0, 0, 0) := by decide +kernel
theorem i_X8_wordFrom_75 : fetch 136 75 = some (.iconst 1, 76, 0, 0, 0, 0) := by decide +kernel
theorem i_X8_wordFrom_76 : fetch 136 76 = some (.goto 4, 79, 0, 0, 0, 0) := by decide +kernel
theorem i_X8_wordFrom_79 : fetch 136 79 = some (.iconst 0, 80, 0, 0, 0, 0) := by decide +kernel
theorem i_X8_wordFrom_80 : fetch 136 80 = some (.istore 4, 82, 0, 0, 0, 0) := by decide +kernel
theorem i_X8_wordFrom_82 : fetch 136 82 = some (.iinc 5 1, 85, 0, 0, 0, 0) := by decide +kernel
theorem i_X8_wordFrom_85 : fetch 136 85 = some (.goto (-59), 88, 0, 0, 0, 0) := by decide +kernel
theorem i_X8_wordFrom_88 : fetch 136 88 = some (.iload 4, 90, 0, 0, 0, 0) := by decide +kernel
theorem i_X8_wordFrom_90 : fetch 136 90 = some (.ifCond .eq 5, 93, 0, 0, 0, 0) := by decide +kernel
theorem i_X8_wordFrom_93 : fetch 136 93 = some (.iload_n 3, 94, 0, 0, 0, 0) := by decide +kernel
theorem i_X8_wordFrom_94 : fetch 136 94 = some (.ireturn, 95, 0, 0, 0, 0) := by decide +kernel
theorem i_X8_wordFrom_95 : fetch 136 95 = some (.iinc 3 1, 98, 0, 0, 0, 0) := by decide +kernel
theorem i_X8_wordFrom_98 : fetch 136 98 = some (.goto (-96), 101, 0, 0, 0, 0) := by decide +kernel
theorem i_X8_wordFrom_101 : fetch 136 101 = some (.bipush 12, 103, 0, 0, 0, 0) := by decide +kernel
theorem i_X8_wordFrom_103 : fetch 136 103 = some (.ireturn, 104, 0, 0, 0, 0) := by decide +kernel
def f_X8_wordFrom_88 (n : Nat) (K2 : Nat → Int32 → Int32 → Int32 → Hp → Option (Int32 × Hp)) (v0 : Nat) (v1 : Int32) (v2 : Int32) (v3 : Int32) (v4 : Int32) (h : Hp) : Option (Int32 × Hp) :=
  if v4 = 0 then
    K2 v0 v1 v2 (v3 + 1) h
  else
    some (v3, h)
set_option maxRecDepth 100000 in
set_option maxHeartbeats 4000000 in
theorem r_X8_wordFrom_88 {X : Nat → Int32} {d : Nat} (hd : 0 ≤ d) {n : Nat} {K2 : Nat → Int32 → Int32 → Int32 → Hp → Option (Int32 × Hp)} (HK2 : ∀ (v0 : Nat) (v1 : Int32) (v2 : Int32) (v3 : Int32) (w4 : Option Value) (w5 : Option Value) (h : Hp) (o : (Int32 × Hp)), K2 v0 v1 v2 v3 h = some o → Run X d 136 2 [some (.ref v0), some (.int v1), some (.int v2), some (.int v3), w4, w5] [] h (some (.int o.1), o.2)) {v0 : Nat} {v1 : Int32} {v2 : Int32} {v3 : Int32} {v4 : Int32} {d5 : Int32} {h : Hp} {o : (Int32 × Hp)} (hf : f_X8_wordFrom_88 n K2 v0 v1 v2 v3 v4 h = some o) : Run X d 136 88 [some (.ref v0), some (.int v1), some (.int v2), some (.int v3), some (.int v4), some (.int d5)] [] h (some (.int o.1), o.2) := by
  unfold f_X8_wordFrom_88 at hf
  refine rs_iload i_X8_wordFrom_88 rfl ?_
  by_cases c1 : v4 = 0
  · replace hf := (if_pos c1).symm.trans hf
    refine rs_ifT i_X8_wordFrom_90 (ct_eq c1) (tg := 95) (by decide) ?_
    refine rs_iinc i_X8_wordFrom_95 rfl (v := v3 + 1) rfl (Nat.le_of_ble_eq_true rfl) (lv' := [some (.ref v0), some (.int v1), some (.int v2), some (.int (v3 + 1)), some (.int v4), some (.int d5)]) rfl ?_
    refine rs_goto i_X8_wordFrom_98 (tg := 2) (by decide) ?_
    exact HK2 _ _ _ _ _ _ _ _ hf
  · replace hf := (if_neg c1).symm.trans hf
    refine rs_ifF i_X8_wordFrom_90 (cf_eq c1) ?_
    refine rs_iload_n i_X8_wordFrom_93 rfl ?_
    have hf := Option.some.inj hf
    subst hf
    exact rs_iret i_X8_wordFrom_94 m_X8_wordFrom rfl
def f_X8_wordFrom_80 (n : Nat) (K2 : Nat → Int32 → Int32 → Int32 → Hp → Option (Int32 × Hp)) (K26 : Nat → Int32 → Int32 → Int32 → Int32 → Int32 → Hp → Option (Int32 × Hp)) (v0 : Nat) (v1 : Int32) (v2 : Int32) (v3 : Int32) (v5 : Int32) (s0 : Int32) (h : Hp) : Option (Int32 × Hp) :=
  K26 v0 v1 v2 v3 s0 (v5 + 1) h
set_option maxRecDepth 100000 in
set_option maxHeartbeats 4000000 in
theorem r_X8_wordFrom_80 {X : Nat → Int32} {d : Nat} (hd : 0 ≤ d) {n : Nat} {K2 : Nat → Int32 → Int32 → Int32 → Hp → Option (Int32 × Hp)} {K26 : Nat → Int32 → Int32 → Int32 → Int32 → Int32 → Hp → Option (Int32 × Hp)} (HK2 : ∀ (v0 : Nat) (v1 : Int32) (v2 : Int32) (v3 : Int32) (w4 : Option Value) (w5 : Option Value) (h : Hp) (o : (Int32 × Hp)), K2 v0 v1 v2 v3 h = some o → Run X d 136 2 [some (.ref v0), some (.int v1), some (.int v2), some (.int v3), w4, w5] [] h (some (.int o.1), o.2)) (HK26 : ∀ (v0 : Nat) (v1 : Int32) (v2 : Int32) (v3 : Int32) (v4 : Int32) (v5 : Int32) (h : Hp) (o : (Int32 × Hp)), K26 v0 v1 v2 v3 v4 v5 h = some o → Run X d 136 26 [some (.ref v0), some (.int v1), some (.int v2), some (.int v3), some (.int v4), some (.int v5)] [] h (some (.int o.1), o.2)) {v0 : Nat} {v1 : Int32} {v2 : Int32} {v3 : Int32} {v5 : Int32} {s0 : Int32} {d4 : Int32} {h : Hp} {o : (Int32 × Hp)} (hf : f_X8_wordFrom_80 n K2 K26 v0 v1 v2 v3 v5 s0 h = some o) : Run X d 136 80 [some (.ref v0), some (.int v1), some (.int v2), some (.int v3), some (.int d4), some (.int v5)] [.int s0] h (some (.int o.1), o.2) := by
  unfold f_X8_wordFrom_80 at hf
  refine rs_istore i_X8_wordFrom_80 (Nat.le_of_ble_eq_true rfl) (lv' := [some (.ref v0), some (.int v1), some (.int v2), some (.int v3), some (.int s0), some (.int v5)]) rfl ?_
  refine rs_iinc i_X8_wordFrom_82 rfl (v := v5 + 1) rfl (Nat.le_of_ble_eq_true rfl) (lv' := [some (.ref v0), some (.int v1), some (.int v2), some (.int v3), some (.int s0), some (.int (v5 + 1))]) rfl ?_
  refine rs_goto i_X8_wordFrom_85 (tg := 26) (by decide) ?_
  exact HK26 _ _ _ _ _ _ _ _ hf
def f_X8_wordFrom_72 (n : Nat) (K2 : Nat → Int32 → Int32 → Int32 → Hp → Option (Int32 × Hp)) (K26 : Nat → Int32 → Int32 → Int32 → Int32 → Int32 → Hp → Option (Int32 × Hp)) (v0 : Nat) (v1 : Int32) (v2 : Int32) (v3 : Int32) (v5 : Int32) (s0 : Int32) (s1 : Int32) (h : Hp) : Option (Int32 × Hp) :=
  if s0 ≠ s1 then
    f_X8_wordFrom_80 n K2 K26 v0 v1 v2 v3 v5 0 h
  else
    f_X8_wordFrom_80 n K2 K26 v0 v1 v2 v3 v5 1 h
set_option maxRecDepth 100000 in
set_option maxHeartbeats 4000000 in
theorem r_X8_wordFrom_72 {X : Nat → Int32} {d : Nat} (hd : 0 ≤ d) {n : Nat} {K2 : Nat → Int32 → Int32 → Int32 → Hp → Option (Int32 × Hp)} {K26 : Nat → Int32 → Int32 → Int32 → Int32 → Int32 → Hp → Option (Int32 × Hp)} (HK2 : ∀ (v0 : Nat) (v1 : Int32) (v2 : Int32) (v3 : Int32) (w4 : Option Value) (w5 : Option Value) (h : Hp) (o : (Int32 × Hp)), K2 v0 v1 v2 v3 h = some o → Run X d 136 2 [some (.ref v0), some (.int v1), some (.int v2), some (.int v3), w4, w5] [] h (some (.int o.1), o.2)) (HK26 : ∀ (v0 : Nat) (v1 : Int32) (v2 : Int32) (v3 : Int32) (v4 : Int32) (v5 : Int32) (h : Hp) (o : (Int32 × Hp)), K26 v0 v1 v2 v3 v4 v5 h = some o → Run X d 136 26 [some (.ref v0), some (.int v1), some (.int v2), some (.int v3), some (.int v4), some (.int v5)] [] h (some (.int o.1), o.2)) {v0 : Nat} {v1 : Int32} {v2 : Int32} {v3 : Int32} {v5 : Int32} {s0 : Int32} {s1 : Int32} {d4 : Int32} {h : Hp} {o : (Int32 × Hp)} (hf : f_X8_wordFrom_72 n K2 K26 v0 v1 v2 v3 v5 s0 s1 h = some o) : Run X d 136 72 [some (.ref v0), some (.int v1), some (.int v2), some (.int v3), some (.int d4), some (.int v5)] [.int s1, .int s0] h (some (.int o.1), o.2) := by
  unfold f_X8_wordFrom_72 at hf
  by_cases c1 : s0 ≠ s1
  · replace hf := (if_pos c1).symm.trans hf
    refine rs_icT i_X8_wordFrom_72 (ct_ne c1) (tg := 79) (by decide) ?_
    refine rs_iconst i_X8_wordFrom_79 (v := 0) (by decide) ?_
    exact r_X8_wordFrom_80 hd HK2 HK26 hf
  · replace hf := (if_neg c1).symm.trans hf
    refine rs_icF i_X8_wordFrom_72 (cf_ne c1) ?_
    refine rs_iconst i_X8_wordFrom_75 (v := 1) (by decide) ?_
    refine rs_goto i_X8_wordFrom_76 (tg := 80) (by decide) ?_
    exact r_X8_wordFrom_80 hd HK2 HK26 hf
def f_X8_wordFrom_26 (n : Nat) (K2 : Nat → Int32 → Int32 → Int32 → Hp → Option (Int32 × Hp)) : Nat → Nat → Int32 → Int32 → Int32 → Int32 → Int32 → Hp → Option (Int32 × Hp)
  | 0, _, _, _, _, _, _, _ => none
  | m + 1, v0, v1, v2, v3, v4, v5, h =>
    if 8 ≤ v5 then
      f_X8_wordFrom_88 n K2 v0 v1 v2 v3 v4 h
    else
      if v4 = 0 then
        f_X8_wordFrom_88 n K2 v0 v1 v2 v3 v4 h
      else
        if okO h v0 8 then
        (gR h v0 30).bind fun a4 =>
        if okI h a4 ((8 * v3) + v5) then
        if v2 ≤ (v1 + v5) then
          f_X8_wordFrom_72 n K2 (f_X8_wordFrom_26 n K2 m) v0 v1 v2 v3 v5 (gI h a4 (ix ((8 * v3) + v5))) 32 h
        else
          (gR h v0 9).bind fun a7 =>
          if okI h a7 (v1 + v5) then
          f_X8_wordFrom_72 n K2 (f_X8_wordFrom_26 n K2 m) v0 v1 v2 v3 v5 (gI h a4 (ix ((8 * v3) + v5))) (gI h a7 (ix (v1 + v5))) h
          else none
        else none
        else none
set_option maxRecDepth 100000 in
set_option maxHeartbeats 4000000 in
theorem r_X8_wordFrom_26 {X : Nat → Int32} {d : Nat} (hd : 0 ≤ d) {n : Nat} {K2 : Nat → Int32 → Int32 → Int32 → Hp → Option (Int32 × Hp)} (HK2 : ∀ (v0 : Nat) (v1 : Int32) (v2 : Int32) (v3 : Int32) (w4 : Option Value) (w5 : Option Value) (h : Hp) (o : (Int32 × Hp)), K2 v0 v1 v2 v3 h = some o → Run X d 136 2 [some (.ref v0), some (.int v1), some (.int v2), some (.int v3), w4, w5] [] h (some (.int o.1), o.2)) : ∀ (m : Nat) (v0 : Nat) (v1 : Int32) (v2 : Int32) (v3 : Int32) (v4 : Int32) (v5 : Int32) (h : Hp) (o : (Int32 × Hp)), f_X8_wordFrom_26 n K2 m v0 v1 v2 v3 v4 v5 h = some o → Run X d 136 26 [some (.ref v0), some (.int v1), some (.int v2), some (.int v3), some (.int v4), some (.int v5)] [] h (some (.int o.1), o.2) := by
  intro m
  induction m with
  | zero => intro v0 v1 v2 v3 v4 v5 h o hf; cases hf
  | succ m ih =>
    intro v0 v1 v2 v3 v4 v5 h o hf
    rw [f_X8_wordFrom_26] at hf
    refine rs_iload i_X8_wordFrom_26 rfl ?_
    refine rs_bipush i_X8_wordFrom_28 (v := 8) (by decide) ?_
    by_cases c1 : 8 ≤ v5
    · replace hf := (if_pos c1).symm.trans hf
      refine rs_icT i_X8_wordFrom_30 (ct_ge c1) (tg := 88) (by decide) ?_
      exact r_X8_wordFrom_88 hd HK2 hf
    · replace hf := (if_neg c1).symm.trans hf
      refine rs_icF i_X8_wordFrom_30 (cf_ge c1) ?_
      refine rs_iload i_X8_wordFrom_33 rfl ?_
      by_cases c2 : v4 = 0
      · replace hf := (if_pos c2).symm.trans hf
        refine rs_ifT i_X8_wordFrom_35 (ct_eq c2) (tg := 88) (by decide) ?_
        exact r_X8_wordFrom_88 hd HK2 hf
      · replace hf := (if_neg c2).symm.trans hf
        refine rs_ifF i_X8_wordFrom_35 (cf_eq c2) ?_
        refine rs_aload_n i_X8_wordFrom_38 rfl ?_
        obtain ⟨c3, hf⟩ := ite_some hf
        obtain ⟨a4, e4, hf⟩ := bind_some hf
        refine rs_getR i_X8_wordFrom_39 (by decide) (by decide) c3 e4 ?_
        refine rs_bipush i_X8_wordFrom_42 (v := 8) (by decide) ?_
        refine rs_iload_n i_X8_wordFrom_44 rfl ?_
        refine rs_imul i_X8_wordFrom_45 ?_
        refine rs_iload i_X8_wordFrom_46 rfl ?_
        refine rs_iadd i_X8_wordFrom_48 ?_
        obtain ⟨c5, hf⟩ := ite_some hf
        refine rs_iald i_X8_wordFrom_49 c5 ?_
        refine rs_iload_n i_X8_wordFrom_50 rfl ?_
        refine rs_iload i_X8_wordFrom_51 rfl ?_
        refine rs_iadd i_X8_wordFrom_53 ?_
        refine rs_iload_n i_X8_wordFrom_54 rfl ?_
        by_cases c6 : v2 ≤ (v1 + v5)
        · replace hf := (if_pos c6).symm.trans hf
          refine rs_icT i_X8_wordFrom_55 (ct_ge c6) (tg := 70) (by decide) ?_
          refine rs_bipush i_X8_wordFrom_70 (v := 32) (by decide) ?_
          exact r_X8_wordFrom_72 hd HK2 ih hf
        · replace hf := (if_neg c6).symm.trans hf
          refine rs_icF i_X8_wordFrom_55 (cf_ge c6) ?_
          refine rs_aload_n i_X8_wordFrom_58 rfl ?_
          obtain ⟨a7, e7, hf⟩ := bind_some hf
          refine rs_getR i_X8_wordFrom_59 (by decide) (by decide) c3 e7 ?_
          refine rs_iload_n i_X8_wordFrom_62 rfl ?_
          refine rs_iload i_X8_wordFrom_63 rfl ?_
          refine rs_iadd i_X8_wordFrom_65 ?_
          obtain ⟨c8, hf⟩ := ite_some hf
          refine rs_iald i_X8_wordFrom_66 c8 ?_
          refine rs_goto i_X8_wordFrom_67 (tg := 72) (by decide) ?_
          exact r_X8_wordFrom_72 hd HK2 ih hf
def f_X8_wordFrom_21 (n : Nat) (K2 : Nat → Int32 → Int32 → Int32 → Hp → Option (Int32 × Hp)) (v0 : Nat) (v1 : Int32) (v2 : Int32) (v3 : Int32) (s0 : Int32) (h : Hp) : Option (Int32 × Hp) :=
  f_X8_wordFrom_26 n K2 n v0 v1 v2 v3 s0 0 h
set_option maxRecDepth 100000 in
set_option maxHeartbeats 4000000 in
theorem r_X8_wordFrom_21 {X : Nat → Int32} {d : Nat} (hd : 0 ≤ d) {n : Nat} {K2 : Nat → Int32 → Int32 → Int32 → Hp → Option (Int32 × Hp)} (HK2 : ∀ (v0 : Nat) (v1 : Int32) (v2 : Int32) (v3 : Int32) (w4 : Option Value) (w5 : Option Value) (h : Hp) (o : (Int32 × Hp)), K2 v0 v1 v2 v3 h = some o → Run X d 136 2 [some (.ref v0), some (.int v1), some (.int v2), some (.int v3), w4, w5] [] h (some (.int o.1), o.2)) {v0 : Nat} {v1 : Int32} {v2 : Int32} {v3 : Int32} {s0 : Int32} {w4 : Option Value} {w5 : Option Value} {h : Hp} {o : (Int32 × Hp)} (hf : f_X8_wordFrom_21 n K2 v0 v1 v2 v3 s0 h = some o) : Run X d 136 21 [some (.ref v0), some (.int v1), some (.int v2), some (.int v3), w4, w5] [.int s0] h (some (.int o.1), o.2) := by
  unfold f_X8_wordFrom_21 at hf
  refine rs_istore i_X8_wordFrom_21 (Nat.le_of_ble_eq_true rfl) (lv' := [some (.ref v0), some (.int v1), some (.int v2), some (.int v3), some (.int s0), w5]) rfl ?_
  refine rs_iconst i_X8_wordFrom_23 (v := 0) (by decide) ?_
  refine rs_istore i_X8_wordFrom_24 (Nat.le_of_ble_eq_true rfl) (lv' := [some (.ref v0), some (.int v1), some (.int v2), some (.int v3), some (.int s0), some (.int 0)]) rfl ?_
  exact r_X8_wordFrom_26 hd HK2 _ _ _ _ _ _ _ _ _ hf
def f_X8_wordFrom_2 (n : Nat) : Nat → Nat → Int32 → Int32 → Int32 → Hp → Option (Int32 × Hp)
  | 0, _, _, _, _, _ => none
  | m + 1, v0, v1, v2, v3, h =>
    if 12 ≤ v3 then
      some (12, h)
    else
      if 8 < (v2 - v1) then
        f_X8_wordFrom_21 n (f_X8_wordFrom_2 n m) v0 v1 v2 v3 0 h
      else
        f_X8_wordFrom_21 n (f_X8_wordFrom_2 n m) v0 v1 v2 v3 1 h
set_option maxRecDepth 100000 in
set_option maxHeartbeats 4000000 in
theorem r_X8_wordFrom_2 {X : Nat → Int32} {d : Nat} (hd : 0 ≤ d) {n : Nat} : ∀ (m : Nat) (v0 : Nat) (v1 : Int32) (v2 : Int32) (v3 : Int32) (w4 : Option Value) (w5 : Option Value) (h : Hp) (o : (Int32 × Hp)), f_X8_wordFrom_2 n m v0 v1 v2 v3 h = some o → Run X d 136 2 [some (.ref v0), some (.int v1), some (.int v2), some (.int v3), w4, w5] [] h (some (.int o.1), o.2) := by
  intro m
  induction m with
  | zero => intro v0 v1 v2 v3 w4 w5 h o hf; cases hf
  | succ m ih =>
    intro v0 v1 v2 v3 w4 w5 h o hf
    rw [f_X8_wordFrom_2] at hf
    refine rs_iload_n i_X8_wordFrom_2 rfl ?_
    refine rs_bipush i_X8_wordFrom_3 (v := 12) (by decide) ?_
    by_cases c1 : 12 ≤ v3
    · replace hf := (if_pos c1).symm.trans hf
      refine rs_icT i_X8_wordFrom_5 (ct_ge c1) (tg := 101) (by decide) ?_
      refine rs_bipush i_X8_wordFrom_101 (v := 12) (by decide) ?_
      have hf := Option.some.inj hf
      subst hf
      exact rs_iret i_X8_wordFrom_103 m_X8_wordFrom rfl
    · replace hf := (if_neg c1).symm.trans hf
      refine rs_icF i_X8_wordFrom_5 (cf_ge c1) ?_
      refine rs_iload_n i_X8_wordFrom_8 rfl ?_
      refine rs_iload_n i_X8_wordFrom_9 rfl ?_
      refine rs_isub i_X8_wordFrom_10 ?_
      refine rs_bipush i_X8_wordFrom_11 (v := 8) (by decide) ?_
      by_cases c2 : 8 < (v2 - v1)
      · replace hf := (if_pos c2).symm.trans hf
        refine rs_icT i_X8_wordFrom_13 (ct_gt c2) (tg := 20) (by decide) ?_
        refine rs_iconst i_X8_wordFrom_20 (v := 0) (by decide) ?_
        exact r_X8_wordFrom_21 hd ih hf
      · replace hf := (if_neg c2).symm.trans hf
        refine rs_icF i_X8_wordFrom_13 (cf_gt c2) ?_
        refine rs_iconst i_X8_wordFrom_16 (v := 1) (by decide) ?_
        refine rs_goto i_X8_wordFrom_17 (tg := 21) (by decide) ?_
        exact r_X8_wordFrom_21 hd ih hf
def f_X8_wordFrom_0 (n : Nat) (v0 : Nat) (v1 : Int32) (v2 : Int32) (h : Hp) : Option (Int32 × Hp) :=
  f_X8_wordFrom_2 n n v0 v1 v2 0 h
set_option maxRecDepth 100000 in
set_option maxHeartbeats 4000000 in
theorem r_X8_wordFrom_0 {X : Nat → Int32} {d : Nat} (hd : 0 ≤ d) {n : Nat} {v0 : Nat} {v1 : Int32} {v2 : Int32} {h : Hp} {o : (Int32 × Hp)} (hf : f_X8_wordFrom_0 n v0 v1 v2 h = some o) : Run X d 136 0 [some (.ref v0), some (.int v1), some (.int v2), none, none, none] [] h (some (.int o.1), o.2) := by
  unfold f_X8_wordFrom_0 at hf
  refine rs_iconst i_X8_wordFrom_0 (v := 0) (by decide) ?_
  refine rs_istore_n i_X8_wordFrom_1 (Nat.le_of_ble_eq_true rfl) (lv' := [some (.ref v0), some (.int v1), some (.int v2), some (.int 0), none, none]) rfl ?_
  exact r_X8_wordFrom_2 hd _ _ _ _ _ _ _ _ _ hf
def f_X8_wordFrom (n : Nat) (v0 : Nat) (v1 : Int32) (v2 : Int32) (h : Hp) : Option (Int32 × Hp) := f_X8_wordFrom_0 n v0 v1 v2 h
theorem c_X8_wordFrom {X : Nat → Int32} {d : Nat} (hd : 0 ≤ d) {n : Nat} {v0 : Nat} {v1 : Int32} {v2 : Int32} {h : Hp} {o : (Int32 × Hp)} (hf : f_X8_wordFrom n v0 v1 v2 h = some o) : Calls X d 136 [.ref v0, .int v1, .int v2] h (some (.int o.1), o.2) := by
  exact ⟨_, rfl, r_X8_wordFrom_0 hd hf⟩
theorem i_X8_next_0 : fetch 137 0 = some (.aload_n 0, 1, 0, 0, 0, 0) := by decide +kernel
theorem i_X8_next_1 : fetch 137 1 = some (.getfield 140, 4, 8, 26, 0, 1035) := by decide +kernel
theorem i_X8_next_4 : fetch 137 4 = some (.aload_n 0, 5, 0, 0, 0, 0) := by decide +kernel
theorem i_X8_next_5 : fetch 137 5 = some (.getfield 105, 8, 8, 10, 0, 1019) := by decide +kernel
theorem i_X8_next_8 : fetch 137 8 = some (.if_icmp .ge 44, 11, 0, 0, 0, 0) := by decide +kernel
theorem i_X8_next_11 : fetch 137 11 = some (.aload_n 0, 12, 0, 0, 0, 0) := by decide +kernel
theorem i_X8_next_12 : fetch 137 12 = some (.getfield 36, 15, 8, 9, 0, 1018) := by decide +kernel
theorem i_X8_next_15 : fetch 137 15 = some (.aload_n 0, 16, 0, 0, 0, 0) := by decide +kernel
theorem i_X8_next_16 : fetch 137 16 = some (.getfield 140, 19, 8, 26, 0, 1035) := by decide +kernel
theorem i_X8_next_19 : fetch 137 19 = some (.iaload, 20, 0, 0, 0, 0) := by decide +kernel
theorem i_X8_next_20 : fetch 137 20 = some (.bipush 32, 22, 0, 0, 0, 0) := by decide +kernel
theorem i_X8_next_22 : fetch 137 22 = some (.if_icmp .eq 17, 25, 0, 0, 0, 0) := by decide +kernel
theorem i_X8_next_25 : fetch 137 25 = some (.aload_n 0, 26, 0, 0, 0, 0) := by decide +kernel
theorem i_X8_next_26 : fetch 137 26 = some (.getfield 36, 29, 8, 9, 0, 1018) := by decide +kernel
theorem i_X8_next_29 : fetch 137 29 = some (.aload_n 0, 30, 0, 0, 0, 0) := by decide +kernel
theorem i_X8_next_30 : fetch 137 30 = some (.getfield 140, 33, 8, 26, 0, 1035) := by decide +kernel
theorem i_X8_next_33 : fetch 137 33 = some (.iaload, 34, 0, 0, 0, 0) := by decide +kernel
theorem i_X8_next_34 : fetch 137 34 = some (.bipush 10, 36, 0, 0, 0, 0) := by decide +kernel
theorem i_X8_next_36 : fetch 137 36 = some (.if_icmp .ne 16, 39, 0, 0, 0, 0) := by decide +kernel
theorem i_X8_next_39 : fetch 137 39 = some (.aload_n 0, 40, 0, 0, 0, 0) := by decide +kernel
theorem i_X8_next_40 : fetch 137 40 = some (.dup, 41, 0, 0, 0, 0) := by decide +kernel
theorem i_X8_next_41 : fetch 137 41 = some (.getfield 140, 44, 8, 26, 0, 1035) := by decide +kernel
theorem i_X8_next_44 : fetch 137 44 = some (.iconst 1, 45, 0, 0, 0, 0) := by decide +kernel
theorem i_X8_next_45 : fetch 137 45 = some (.iadd, 46, 0, 0, 0, 0) := by decide +kernel
theorem i_X8_next_46 : fetch 137 46 = some (.putfield 140, 49, 8, 26, 0, 1035) := by decide +kernel
theorem i_X8_next_49 : fetch 137 49 = some (.goto (-49), 52, 0, 0, 0, 0) := by decide +kernel
theorem i_X8_next_52 : fetch 137 52 = some (.aload_n 0, 53, 0, 0, 0, 0) := by decide +kernel
theorem i_X8_next_53 : fetch 137 53 = some (.aload_n 0, 54, 0, 0, 0, 0) := by decide +kernel
theorem i_X8_next_54 : fetch 137 54 = some (.getfield 140, 57, 8, 26, 0, 1035) := by decide +kernel
theorem i_X8_next_57 : fetch 137 57 = some (.putfield 143, 60, 8, 27, 0, 1036) := by decide +kernel
theorem i_X8_next_60 : fetch 137 60 = some (.aload_n 0, 61, 0, 0, 0, 0) := by decide +kernel
theorem i_X8_next_61 : fetch 137 61 = some (.iconst 0, 62, 0, 0, 0, 0) := by decide +kernel
theorem i_X8_next_62 : fetch 137 62 = some (.putfield 146, 65, 8, 28, 0, 1037) := by decide +kernel
theorem i_X8_next_65 : fetch 137 65 = some (.aload_n 0, 66, 0, 0, 0, 0) := by decide +kernel
theorem i_X8_next_66 : fetch 137 66 = some (.iconst 0, 67, 0, 0, 0, 0) := by decide +kernel
theorem i_X8_next_67 : fetch 137 67 = some (.putfield 149, 70, 8, 29, 0, 1038) := by decide +kernel
theorem i_X8_next_70 : fetch 137 70 = some (.aload_n 0, 71, 0, 0, 0, 0) := by decide +kernel
theorem i_X8_next_71 : fetch 137 71 = some (.getfield 140, 74, 8, 26, 0, 1035) := by decide +kernel
theorem i_X8_next_74 : fetch 137 74 = some (.aload_n 0, 75, 0, 0, 0, 0) := by decide +kernel
theorem i_X8_next_75 : fetch 137 75 = some (.getfield 105, 78, 8, 10, 0, 1019) := by decide +kernel
theorem i_X8_next_78 : fetch 137 78 = some (.if_icmp .ne 4, 81, 0, 0, 0, 0) := by decide +kernel
theorem i_X8_next_81 : fetch 137 81 = some (.return_, 82, 0, 0, 0, 0) := by decide +kernel
theorem i_X8_next_82 : fetch 137 82 = some (.aload_n 0, 83, 0, 0, 0, 0) := by decide +kernel
theorem i_X8_next_83 : fetch 137 83 = some (.getfield 36, 86, 8, 9, 0, 1018) := by decide +kernel
theorem i_X8_next_86 : fetch 137 86 = some (.aload_n 0, 87, 0, 0, 0, 0) := by decide +kernel
theorem i_X8_next_87 : fetch 137 87 = some (.getfield 140, 90, 8, 26, 0, 1035) := by decide +kernel
theorem i_X8_next_90 : fetch 137 90 = some (.iaload, 91, 0, 0, 0, 0) := by decide +kernel
theorem i_X8_next_91 : fetch 137 91 = some (.istore_n 1, 92, 0, 0, 0, 0) := by decide +kernel
theorem i_X8_next_92 : fetch 137 92 = some (.iload_n 1, 93, 0, 0, 0, 0) := by decide +kernel
theorem i_X8_next_93 : fetch 137 93 = some (.bipush 97, 95, 0, 0, 0, 0) := by decide +kernel
theorem i_X8_next_95 : fetch 137 95 = some (.bipush 122, 97, 0, 0, 0, 0) := by decide +kernel
theorem i_X8_next_97 : fetch 137 97 = some (.invokestatic 112, 100, 126, 0, 0, 970) := by decide +kernel
theorem i_X8_next_100 : fetch 137 100 = some (.ifCond .eq 117, 103, 0, 0, 0, 0) := by decide +kernel
theorem i_X8_next_103 : fetch 137 103 = some (.aload_n 0, 104, 0, 0, 0, 0) := by decide +kernel
theorem i_X8_next_104 : fetch 137 104 = some (.getfield 140, 107, 8, 26, 0, 1035) := by decide +kernel
theorem i_X8_next_107 : fetch 137 107 = some (.aload_n 0, 108, 0, 0, 0, 0) := by decide +kernel
theorem i_X8_next_108 : fetch 137 108 = some (.getfield 105, 111, 8, 10, 0, 1019) := by decide +kernel
theorem i_X8_next_111 : fetch 137 111 = some (.if_icmp .ge 35, 114, 0, 0, 0, 0) := by decide +kernel
theorem i_X8_next_114 : fetch 137 114 = some (.aload_n 0, 115, 0, 0, 0, 0) := by decide +kernel
theorem i_X8_next_115 : fetch 137 115 = some (.getfield 36, 118, 8, 9, 0, 1018) := by decide +kernel
theorem i_X8_next_118 : fetch 137 118 = some (.aload_n 0, 119, 0, 0, 0, 0) := by decide +kernel
theorem i_X8_next_119 : fetch 137 119 = some (.getfield 140, 122, 8, 26, 0, 1035) := by decide +kernel
theorem i_X8_next_122 : fetch 137 122 = some (.iaload, 123, 0, 0, 0, 0) := by decide +kernel
theorem i_X8_next_123 : fetch 137 123 = some (.bipush 97, 125, 0, 0, 0, 0) := by decide +kernel
theorem i_X8_next_125 : fetch 137 125 = some (.bipush 122, 127, 0, 0, 0, 0) := by decide +kernel
theorem i_X8_next_127 : fetch 137 127 = some (.invokestatic 112, 130, 126, 0, 0, 970) := by decide +kernel
theorem i_X8_next_130 : fetch 137 130 = some (.ifCond .eq 16, 133, 0, 0, 0, 0) := by decide +kernel
theorem i_X8_next_133 : fetch 137 133 = some (.aload_n 0, 134, 0, 0, 0, 0) := by decide +kernel
theorem i_X8_next_134 : fetch 137 134 = some (.dup, 135, 0, 0, 0, 0) := by decide +kernel
theorem i_X8_next_135 : fetch 137 135 = some (.getfield 140, 138, 8, 26, 0, 1035) := by decide +kernel
theorem i_X8_next_138 : fetch 137 138 = some (.iconst 1, 139, 0, 0, 0, 0) := by decide +kernel
theorem i_X8_next_139 : fetch 137 139 = some (.iadd, 140, 0, 0, 0, 0) := by decide +kernel
theorem i_X8_next_140 : fetch 137 140 = some (.putfield 140, 143, 8, 26, 0, 1035) := by decide +kernel
theorem i_X8_next_143 : fetch 137 143 = some (.goto (-40), 146, 0, 0, 0, 0) := by decide +kernel
theorem i_X8_next_146 : fetch 137 146 = some (.aload_n 0, 147, 0, 0, 0, 0) := by decide +kernel
theorem i_X8_next_147 : fetch 137 147 = some (.aload_n 0, 148, 0, 0, 0, 0) := by decide +kernel
theorem i_X8_next_148 : fetch 137 148 = some (.getfield 143, 151, 8, 27, 0, 1036) := by decide +kernel
theorem i_X8_next_151 : fetch 137 151 = some (.aload_n 0, 152, 0, 0, 0, 0) := by decide +kernel
theorem i_X8_next_152 : fetch 137 152 = some (.getfield 140, 155, 8, 26, 0, 1035) := by decide +kernel
theorem i_X8_next_155 : fetch 137 155 = some (.invokevirtual 152, 158, 136, 0, 0, 973) := by decide +kernel
theorem i_X8_next_158 : fetch 137 158 = some (.istore_n 2, 159, 0, 0, 0, 0) := by decide +kernel
theorem i_X8_next_159 : fetch 137 159 = some (.aload_n 0, 160, 0, 0, 0, 0) := by decide +kernel
theorem i_X8_next_160 : fetch 137 160 = some (.iload_n 2, 161, 0, 0, 0, 0) := by decide +kernel
theorem i_X8_next_161 : fetch 137 161 = some (.iconst 3, 162, 0, 0, 0, 0) := by decide +kernel
theorem i_X8_next_162 : fetch 137 162 = some (.if_icmp .ge 7, 165, 0, 0, 0, 0) := by decide +kernel
theorem i_X8_next_165 : fetch 137 165 = some (.iconst 3, 166, 0, 0, 0, 0) := by decide +kernel
theorem i_X8_next_166 : fetch 137 166 = some (.goto 29, 169, 0, 0, 0, 0) := by decide +kernel
theorem i_X8_next_169 : fetch 137 169 = some (.iload_n 2, 170, 0, 0, 0, 0) := by decide +kernel
theorem i_X8_next_170 : fetch 137 170 = some (.bipush 9, 172, 0, 0, 0, 0) := by decide +kernel
theorem i_X8_next_172 : fetch 137 172 = some (.if_icmp .ge 7, 175, 0, 0, 0, 0) := by decide +kernel
theorem i_X8_next_175 : fetch 137 175 = some (.iconst 2, 176, 0, 0, 0, 0) := by decide +kernel
theorem i_X8_next_176 : fetch 137 176 = some (.goto 19, 179, 0, 0, 0, 0) := by decide +kernel
theorem i_X8_next_179 : fetch 137 179 = some (.iload_n 2, 180, 0, 0, 0, 0) := by decide +kernel
theorem i_X8_next_180 : fetch 137 180 = some (.bipush 12, 182, 0, 0, 0, 0) := by decide +kernel
theorem i_X8_next_182 : fetch 137 182 = some (.if_icmp .ne 7, 185, 0, 0, 0, 0) := by decide +kernel
theorem i_X8_next_185 : fetch 137 185 = some (.iconst (-1), 186, 0, 0, 0, 0) := by decide +kernel
theorem i_X8_next_186 : fetch 137 186 = some (.goto 9, 189, 0, 0, 0, 0) := by decide +kernel
theorem i_X8_next_189 : fetch 137 189 = some (.iconst 4, 190, 0, 0, 0, 0) := by decide +kernel
theorem i_X8_next_190 : fetch 137 190 = some (.iload_n 2, 191, 0, 0, 0, 0) := by decide +kernel
theorem i_X8_next_191 : fetch 137 191 = some (.iadd, 192, 0, 0, 0, 0) := by decide +kernel
theorem i_X8_next_192 : fetch 137 192 = some (.bipush 9, 194, 0, 0, 0, 0) := by decide +kernel
theorem i_X8_next_194 : fetch 137 194 = some (.isub, 195, 0, 0, 0, 0) := by decide +kernel
theorem i_X8_next_195 : fetch 137 195 = some (.putfield 146, 198, 8, 28, 0, 1037) := by decide +kernel
theorem i_X8_next_198 : fetch 137 198 = some (.aload_n 0, 199, 0, 0, 0, 0) := by decide +kernel
theorem i_X8_next_199 : fetch 137 199 = some (.iload_n 2, 200, 0, 0, 0, 0) := by decide +kernel
theorem i_X8_next_200 : fetch 137 200 = some (.iconst 3, 201, 0, 0, 0, 0) := by decide +kernel
theorem i_X8_next_201 : fetch 137 201 = some (.if_icmp .ge 7, 204, 0, 0, 0, 0) := by decide +kernel
theorem i_X8_next_204 : fetch 137 204 = some (.iload_n 2, 205, 0, 0, 0, 0) := by decide +kernel
theorem i_X8_next_205 : fetch 137 205 = some (.goto 6, 208, 0, 0, 0, 0) := by decide +kernel
theorem i_X8_next_208 : fetch 137 208 = some (.iload_n 2, 209, 0, 0, 0, 0) := by decide +kernel
theorem i_X8_next_209 : fetch 137 209 = some (.iconst 3, 210, 0, 0, 0, 0) := by decide +kernel
theorem i_X8_next_210 : fetch 137 210 = some (.isub, 211, 0, 0, 0, 0) := by decide +kernel
theorem i_X8_next_211 : fetch 137 211 = some (.putfield 149, 214, 8, 29, 0, 1038) := by decide +kernel
theorem i_X8_next_214 : fetch 137 214 = some (.goto 189, 217, 0, 0, 0, 0) := by decide +kernel
theorem i_X8_next_217 : fetch 137 217 = some (.iload_n 1, 218, 0, 0, 0, 0) := by decide +kernel
theorem i_X8_next_218 : fetch 137 218 = some (.bipush 48, 220, 0, 0, 0, 0) := by decide +kernel
theorem i_X8_next_220 : fetch 137 220 = some (.bipush 57, 222, 0, 0, 0, 0) := by decide +kernel
theorem i_X8_next_222 : fetch 137 222 = some (.invokestatic 112, 225, 126, 0, 0, 970) := by decide +kernel
theorem i_X8_next_225 : fetch 137 225 = some (.ifCond .eq 101, 228, 0, 0, 0, 0) := by decide +kernel
theorem i_X8_next_228 : fetch 137 228 = some (.iconst 0, 229, 0, 0, 0, 0) := by decide +kernel
theorem i_X8_next_229 : fetch 137 229 = some (.istore_n 2, 230, 0, 0, 0, 0) := by decide +kernel
theorem i_X8_next_230 : fetch 137 230 = some (.aload_n 0, 231, 0, 0, 0, 0) := by decide +kernel
theorem i_X8_next_231 : fetch 137 231 = some (.getfield 140, 234, 8, 26, 0, 1035) := by decide +kernel
theorem i_X8_next_234 : fetch 137 234 = some (.aload_n 0, 235, 0, 0, 0, 0) := by decide +kernel
theorem i_X8_next_235 : fetch 137 235 = some (.getfield 105, 238, 8, 10, 0, 1019) := by decide +kernel
theorem i_X8_next_238 : fetch 137 238 = some (.if_icmp .ge 71, 241, 0, 0, 0, 0) := by decide +kernel
theorem i_X8_next_241 : fetch 137 241 = some (.aload_n 0, 242, 0, 0, 0, 0) := by decide +kernel
theorem i_X8_next_242 : fetch 137 242 = some (.getfield 36, 245, 8, 9, 0, 1018) := by decide +kernel
theorem i_X8_next_245 : fetch 137 245 = some (.aload_n 0, 246, 0, 0, 0, 0) := by decide +kernel
theorem i_X8_next_246 : fetch 137 246 = some (.getfield 140, 249, 8, 26, 0, 1035) := by decide +kernel
theorem i_X8_next_249 : fetch 137 249 = some (.iaload, 250, 0, 0, 0, 0) := by decide +kernel
theorem i_X8_next_250 : fetch 137 250 = some (.bipush 48, 252, 0, 0, 0, 0) := by decide +kernel
theorem i_X8_next_252 : fetch 137 252 = some (.bipush 57, 254, 0, 0, 0, 0) := by decide +kernel
theorem i_X8_next_254 : fetch 137 254 = some (.invokestatic 112, 257, 126, 0, 0, 970) := by decide +kernel
theorem i_X8_next_257 : fetch 137 257 = some (.ifCond .eq 52, 260, 0, 0, 0, 0) := by decide +kernel
theorem i_X8_next_260 : fetch 137 260 = some (.aload_n 0, 261, 0, 0, 0, 0) := by decide +kernel
theorem i_X8_next_261 : fetch 137 261 = some (.iload_n 2, 262, 0, 0, 0, 0) := by decide +kernel
theorem i_X8_next_262 : fetch 137 262 = some (.iconst 4, 263, 0, 0, 0, 0) := by decide +kernel
theorem i_X8_next_263 : fetch 137 263 = some (.if_icmp .ge 26, 266, 0, 0, 0, 0) := by decide +kernel
theorem i_X8_next_266 : fetch 137 266 = some (.bipush 10, 268, 0, 0, 0, 0) := by decide +kernel
theorem i_X8_next_268 : fetch 137 268 = some (.aload_n 0, 269, 0, 0, 0, 0) := by decide +kernel
theorem i_X8_next_269 : fetch 137 269 = some (.getfield 149, 272, 8, 29, 0, 1038) := by decide +kernel
theorem i_X8_next_272 : fetch 137 272 = some (.imul, 273, 0, 0, 0, 0) := by decide +kernel
theorem i_X8_next_273 : fetch 137 273 = some (.aload_n 0, 274, 0, 0, 0, 0) := by decide +kernel
theorem i_X8_next_274 : fetch 137 274 = some (.getfield 36, 277, 8, 9, 0, 1018) := by decide +kernel
theorem i_X8_next_277 : fetch 137 277 = some (.aload_n 0, 278, 0, 0, 0, 0) := by decide +kernel
theorem i_X8_next_278 : fetch 137 278 = some (.getfield 140, 281, 8, 26, 0, 1035) := by decide +kernel
theorem i_X8_next_281 : fetch 137 281 = some (.iaload, 282, 0, 0, 0, 0) := by decide +kernel
theorem i_X8_next_282 : fetch 137 282 = some (.iadd, 283, 0, 0, 0, 0) := by decide +kernel
theorem i_X8_next_283 : fetch 137 283 = some (.bipush 48, 285, 0, 0, 0, 0) := by decide +kernel
theorem i_X8_next_285 : fetch 137 285 = some (.isub, 286, 0, 0, 0, 0) := by decide +kernel
theorem i_X8_next_286 : fetch 137 286 = some (.goto 4, 289, 0, 0, 0, 0) := by decide +kernel
theorem i_X8_next_289 : fetch 137 289 = some (.iconst 0, 290, 0, 0, 0, 0) := by decide +kernel
theorem i_X8_next_290 : fetch 137 290 = some (.putfield 149, 293, 8, 29, 0, 1038) := by decide +kernel
theorem i_X8_next_293 : fetch 137 293 = some (.iinc 2 1, 296, 0, 0, 0, 0) := by decide +kernel
theorem i_X8_next_296 : fetch 137 296 = some (.aload_n 0, 297, 0, 0, 0, 0) := by decide +kernel
theorem i_X8_next_297 : fetch 137 297 = some (.dup, 298, 0, 0, 0, 0) := by decide +kernel
theorem i_X8_next_298 : fetch 137 298 = some (.getfield 140, 301, 8, 26, 0, 1035) := by decide +kernel
theorem i_X8_next_301 : fetch 137 301 = some (.iconst 1, 302, 0, 0, 0, 0) := by decide +kernel
theorem i_X8_next_302 : fetch 137 302 = some (.iadd, 303, 0, 0, 0, 0) := by decide +kernel
theorem i_X8_next_303 : fetch 137 303 = some (.putfield 140, 306, 8, 26, 0, 1035) := by decide +kernel
theorem i_X8_next_306 : fetch 137 306 = some (.goto (-76), 309, 0, 0, 0, 0) := by decide +kernel
theorem i_X8_next_309 : fetch 137 309 = some (.aload_n 0, 310, 0, 0, 0, 0) := by decide +kernel
theorem i_X8_next_310 : fetch 137 310 = some (.iload_n 2, 311, 0, 0, 0, 0) := by decide +kernel
theorem i_X8_next_311 : fetch 137 311 = some (.iconst 4, 312, 0, 0, 0, 0) := by decide +kernel
theorem i_X8_next_312 : fetch 137 312 = some (.if_icmp .le 7, 315, 0, 0, 0, 0) := by decide +kernel
theorem i_X8_next_315 : fetch 137 315 = some (.iconst (-1), 316, 0, 0, 0, 0) := by decide +kernel
theorem i_X8_next_316 : fetch 137 316 = some (.goto 4, 319, 0, 0, 0, 0) := by decide +kernel
theorem i_X8_next_319 : fetch 137 319 = some (.iconst 1, 320, 0, 0, 0, 0) := by decide +kernel
theorem i_X8_next_320 : fetch 137 320 = some (.putfield 146, 323, 8, 28, 0, 1037) := by decide +kernel
theorem i_X8_next_323 : fetch 137 323 = some (.goto 80, 326, 0, 0, 0, 0) := by decide +kernel
theorem i_X8_next_326 : fetch 137 326 = some (.iload_n 1, 327, 0, 0, 0, 0) := by decide +kernel
theorem i_X8_next_327 : fetch 137 327 = some (.bipush 40, 329, 0, 0, 0, 0) := by decide +kernel
theorem i_X8_next_329 : fetch 137 329 = some (.if_icmp .eq 45, 332, 0, 0, 0, 0) := by decide +kernel
theorem i_X8_next_332 : fetch 137 332 = some (.iload_n 1, 333, 0, 0, 0, 0) := by decide +kernel
theorem i_X8_next_333 : fetch 137 333 = some (.bipush 41, 335, 0, 0, 0, 0) := by decide +kernel
theorem i_X8_next_335 : fetch 137 335 = some (.if_icmp .eq 39, 338, 0, 0, 0, 0) := by decide +kernel
theorem i_X8_next_338 : fetch 137 338 = some (.iload_n 1, 339, 0, 0, 0, 0) := by decide +kernel
theorem i_X8_next_339 : fetch 137 339 = some (.bipush 59, 341, 0, 0, 0, 0) := by decide +kernel
theorem i_X8_next_341 : fetch 137 341 = some (.if_icmp .eq 33, 344, 0, 0, 0, 0) := by decide +kernel
theorem i_X8_next_344 : fetch 137 344 = some (.iload_n 1, 345, 0, 0, 0, 0) := by decide +kernel
theorem i_X8_next_345 : fetch 137 345 = some (.bipush 43, 347, 0, 0, 0, 0) := by decide +kernel
theorem i_X8_next_347 : fetch 137 347 = some (.if_icmp .eq 27, 350, 0, 0, 0, 0) := by decide +kernel
theorem i_X8_next_350 : fetch 137 350 = some (.iload_n 1, 351, 0, 0, 0, 0) := by decide +kernel
theorem i_X8_next_351 : fetch 137 351 = some (.bipush 45, 353, 0, 0, 0, 0) := by decide +kernel
theorem i_X8_next_353 : fetch 137 353 = some (.if_icmp .eq 21, 356, 0, 0, 0, 0) := by decide +kernel
theorem i_X8_next_356 : fetch 137 356 = some (.iload_n 1, 357, 0, 0, 0, 0) := by decide +kernel
theorem i_X8_next_357 : fetch 137 357 = some (.bipush 42, 359, 0, 0, 0, 0) := by decide +kernel
theorem i_X8_next_359 : fetch 137 359 = some (.if_icmp .eq 15, 362, 0, 0, 0, 0) := by decide +kernel
theorem i_X8_next_362 : fetch 137 362 = some (.iload_n 1, 363, 0, 0, 0, 0) := by decide +kernel
theorem i_X8_next_363 : fetch 137 363 = some (.bipush 60, 365, 0, 0, 0, 0) := by decide +kernel
theorem i_X8_next_365 : fetch 137 365 = some (.if_icmp .eq 9, 368, 0, 0, 0, 0) := by decide +kernel
theorem i_X8_next_368 : fetch 137 368 = some (.iload_n 1, 369, 0, 0, 0, 0) := by decide +kernel
theorem i_X8_next_369 : fetch 137 369 = some (.bipush 61, 371, 0, 0, 0, 0) := by decide +kernel
theorem i_X8_next_371 : fetch 137 371 = some (.if_icmp .ne 7, 374, 0, 0, 0, 0) := by decide +kernel
theorem i_X8_next_374 : fetch 137 374 = some (.iconst 1, 375, 0, 0, 0, 0) := by decide +kernel
theorem i_X8_next_375 : fetch 137 375 = some (.goto 4, 378, 0, 0, 0, 0) := by decide +kernel
theorem i_X8_next_378 : fetch 137 378 = some (.iconst 0, 379, 0, 0, 0, 0) := by decide +kernel
theorem i_X8_next_379 : fetch 137 379 = some (.istore_n 2, 380, 0, 0, 0, 0) := by decide +kernel
theorem i_X8_next_380 : fetch 137 380 = some (.aload_n 0, 381, 0, 0, 0, 0) := by decide +kernel
theorem i_X8_next_381 : fetch 137 381 = some (.iload_n 2, 382, 0, 0, 0, 0) := by decide +kernel
theorem i_X8_next_382 : fetch 137 382 = some (.ifCond .eq 7, 385, 0, 0, 0, 0) := by decide +kernel
theorem i_X8_next_385 : fetch 137 385 = some (.iload_n 1, 386, 0, 0, 0, 0) := by decide +kernel
theorem i_X8_next_386 : fetch 137 386 = some (.goto 4, 389, 0, 0, 0, 0) := by decide +kernel
theorem i_X8_next_389 : fetch 137 389 = some (.iconst (-1), 390, 0, 0, 0, 0) := by decide +kernel
theorem i_X8_next_390 : fetch 137 390 = some (.putfield 146, 393, 8, 28, 0, 1037) := by decide +kernel
theorem i_X8_next_393 : fetch 137 393 = some (.aload_n 0, 394, 0, 0, 0, 0) := by decide +kernel
theorem i_X8_next_394 : fetch 137 394 = some (.dup, 395, 0, 0, 0, 0) := by decide +kernel
theorem i_X8_next_395 : fetch 137 395 = some (.getfield 140, 398, 8, 26, 0, 1035) := by decide +kernel
theorem i_X8_next_398 : fetch 137 398 = some (.iconst 1, 399, 0, 0, 0, 0) := by decide +kernel
theorem i_X8_next_399 : fetch 137 399 = some (.iadd, 400, 0, 0, 0, 0) := by decide +kernel
theorem i_X8_next_400 : fetch 137 400 = some (.putfield 140, 403, 8, 26, 0, 1035) := by decide +kernel
theorem i_X8_next_403 : fetch 137 403 = some (.return_, 404, 0, 0, 0, 0) := by decide +kernel
def f_X8_next_393 (n : Nat) (v0 : Nat) (h : Hp) : Option Hp :=
  if okO h v0 8 then
  some (hsi h v0 26 ((gI h v0 26) + 1))
  else none
set_option maxRecDepth 100000 in
set_option maxHeartbeats 4000000 in
theorem r_X8_next_393 {X : Nat → Int32} {d : Nat} (hd : 1 ≤ (d + 1)) {n : Nat} {v0 : Nat} {d1 : Int32} {d2 : Int32} {h : Hp} {o : Hp} (hf : f_X8_next_393 n v0 h = some o) : Run X (d + 1) 137 393 [some (.ref v0), some (.int d1), some (.int d2)] [] h (none, o) := by
  unfold f_X8_next_393 at hf
  refine rs_aload_n i_X8_next_393 rfl ?_
  refine rs_dup i_X8_next_394 rfl ?_
  obtain ⟨c1, hf⟩ := ite_some hf
  refine rs_getI i_X8_next_395 (by decide) (by decide) c1 ?_
  refine rs_iconst i_X8_next_398 (v := 1) (by decide) ?_
  refine rs_iadd i_X8_next_399 ?_
  refine rs_putI i_X8_next_400 (by decide) c1 ?_
  have hf := Option.some.inj hf
  subst hf
  exact rs_vret i_X8_next_403 m_X8_next rfl
def f_X8_next_390 (n : Nat) (v0 : Nat) (s0 : Nat) (s1 : Int32) (h : Hp) : Option Hp :=
  if okO h s0 8 then
  f_X8_next_393 n v0 (hsi h s0 28 s1)
  else none
set_option maxRecDepth 100000 in
set_option maxHeartbeats 4000000 in
theorem r_X8_next_390 {X : Nat → Int32} {d : Nat} (hd : 1 ≤ (d + 1)) {n : Nat} {v0 : Nat} {s0 : Nat} {s1 : Int32} {d1 : Int32} {d2 : Int32} {h : Hp} {o : Hp} (hf : f_X8_next_390 n v0 s0 s1 h = some o) : Run X (d + 1) 137 390 [some (.ref v0), some (.int d1), some (.int d2)] [.int s1, .ref s0] h (none, o) := by
  unfold f_X8_next_390 at hf
  obtain ⟨c1, hf⟩ := ite_some hf
  refine rs_putI i_X8_next_390 (by decide) c1 ?_
  exact r_X8_next_393 hd hf
def f_X8_next_379 (n : Nat) (v0 : Nat) (v1 : Int32) (s0 : Int32) (h : Hp) : Option Hp :=
  if s0 = 0 then
    f_X8_next_390 n v0 v0 (-1) h
  else
    f_X8_next_390 n v0 v0 v1 h
set_option maxRecDepth 100000 in
set_option maxHeartbeats 4000000 in
theorem r_X8_next_379 {X : Nat → Int32} {d : Nat} (hd : 1 ≤ (d + 1)) {n : Nat} {v0 : Nat} {v1 : Int32} {s0 : Int32} {h : Hp} {o : Hp} (hf : f_X8_next_379 n v0 v1 s0 h = some o) : Run X (d + 1) 137 379 [some (.ref v0), some (.int v1), none] [.int s0] h (none, o) := by
  unfold f_X8_next_379 at hf
  refine rs_istore_n i_X8_next_379 (Nat.le_of_ble_eq_true rfl) (lv' := [some (.ref v0), some (.int v1), some (.int s0)]) rfl ?_
  refine rs_aload_n i_X8_next_380 rfl ?_
  refine rs_iload_n i_X8_next_381 rfl ?_
  by_cases c1 : s0 = 0
  · replace hf := (if_pos c1).symm.trans hf
    refine rs_ifT i_X8_next_382 (ct_eq c1) (tg := 389) (by decide) ?_
    refine rs_iconst i_X8_next_389 (v := (-1)) (by decide) ?_
    exact r_X8_next_390 hd hf
  · replace hf := (if_neg c1).symm.trans hf
    refine rs_ifF i_X8_next_382 (cf_eq c1) ?_
    refine rs_iload_n i_X8_next_385 rfl ?_
    refine rs_goto i_X8_next_386 (tg := 390) (by decide) ?_
    exact r_X8_next_390 hd hf
def f_X8_next_374 (n : Nat) (v0 : Nat) (v1 : Int32) (h : Hp) : Option Hp :=
  f_X8_next_379 n v0 v1 1 h
set_option maxRecDepth 100000 in
set_option maxHeartbeats 4000000 in
theorem r_X8_next_374 {X : Nat → Int32} {d : Nat} (hd : 1 ≤ (d + 1)) {n : Nat} {v0 : Nat} {v1 : Int32} {h : Hp} {o : Hp} (hf : f_X8_next_374 n v0 v1 h = some o) : Run X (d + 1) 137 374 [some (.ref v0), some (.int v1), none] [] h (none, o) := by
  unfold f_X8_next_374 at hf
  refine rs_iconst i_X8_next_374 (v := 1) (by decide) ?_
  refine rs_goto i_X8_next_375 (tg := 379) (by decide) ?_
  exact r_X8_next_379 hd hf
def f_X8_next_320 (n : Nat) (s0 : Nat) (s1 : Int32) (h : Hp) : Option Hp :=
  if okO h s0 8 then
  some (hsi h s0 28 s1)
  else none
set_option maxRecDepth 100000 in
set_option maxHeartbeats 4000000 in
theorem r_X8_next_320 {X : Nat → Int32} {d : Nat} (hd : 1 ≤ (d + 1)) {n : Nat} {s0 : Nat} {s1 : Int32} {d0 : Nat} {d1 : Int32} {d2 : Int32} {h : Hp} {o : Hp} (hf : f_X8_next_320 n s0 s1 h = some o) : Run X (d + 1) 137 320 [some (.ref d0), some (.int d1), some (.int d2)] [.int s1, .ref s0] h (none, o) := by
  unfold f_X8_next_320 at hf
  obtain ⟨c1, hf⟩ := ite_some hf
  refine rs_putI i_X8_next_320 (by decide) c1 ?_
  refine rs_goto i_X8_next_323 (tg := 403) (by decide) ?_
  have hf := Option.some.inj hf
  subst hf
  exact rs_vret i_X8_next_403 m_X8_next rfl
def f_X8_next_309 (n : Nat) (v0 : Nat) (v2 : Int32) (h : Hp) : Option Hp :=
  if v2 ≤ 4 then
    f_X8_next_320 n v0 1 h
  else
    f_X8_next_320 n v0 (-1) h
set_option maxRecDepth 100000 in
set_option maxHeartbeats 4000000 in
theorem r_X8_next_309 {X : Nat → Int32} {d : Nat} (hd : 1 ≤ (d + 1)) {n : Nat} {v0 : Nat} {v2 : Int32} {d1 : Int32} {h : Hp} {o : Hp} (hf : f_X8_next_309 n v0 v2 h = some o) : Run X (d + 1) 137 309 [some (.ref v0), some (.int d1), some (.int v2)] [] h (none, o) := by
  unfold f_X8_next_309 at hf
  refine rs_aload_n i_X8_next_309 rfl ?_
  refine rs_iload_n i_X8_next_310 rfl ?_
  refine rs_iconst i_X8_next_311 (v := 4) (by decide) ?_
  by_cases c1 : v2 ≤ 4
  · replace hf := (if_pos c1).symm.trans hf
    refine rs_icT i_X8_next_312 (ct_le c1) (tg := 319) (by decide) ?_
    refine rs_iconst i_X8_next_319 (v := 1) (by decide) ?_
    exact r_X8_next_320 hd hf
  · replace hf := (if_neg c1).symm.trans hf
    refine rs_icF i_X8_next_312 (cf_le c1) ?_
    refine rs_iconst i_X8_next_315 (v := (-1)) (by decide) ?_
    refine rs_goto i_X8_next_316 (tg := 320) (by decide) ?_
    exact r_X8_next_320 hd hf
def f_X8_next_293 (n : Nat) (K230 : Nat → Int32 → Hp → Option Hp) (v0 : Nat) (v2 : Int32) (h : Hp) : Option Hp :=
  if okO h v0 8 then
  K230 v0 (v2 + 1) (hsi h v0 26 ((gI h v0 26) + 1))
  else none
set_option maxRecDepth 100000 in
set_option maxHeartbeats 4000000 in
theorem r_X8_next_293 {X : Nat → Int32} {d : Nat} (hd : 1 ≤ (d + 1)) {n : Nat} {K230 : Nat → Int32 → Hp → Option Hp} (HK230 : ∀ (v0 : Nat) (v2 : Int32) (d1 : Int32) (h : Hp) (o : Hp), K230 v0 v2 h = some o → Run X (d + 1) 137 230 [some (.ref v0), some (.int d1), some (.int v2)] [] h (none, o)) {v0 : Nat} {v2 : Int32} {d1 : Int32} {h : Hp} {o : Hp} (hf : f_X8_next_293 n K230 v0 v2 h = some o) : Run X (d + 1) 137 293 [some (.ref v0), some (.int d1), some (.int v2)] [] h (none, o) := by
  unfold f_X8_next_293 at hf
  refine rs_iinc i_X8_next_293 rfl (v := v2 + 1) rfl (Nat.le_of_ble_eq_true rfl) (lv' := [some (.ref v0), some (.int d1), some (.int (v2 + 1))]) rfl ?_
  refine rs_aload_n i_X8_next_296 rfl ?_
  refine rs_dup i_X8_next_297 rfl ?_
  obtain ⟨c1, hf⟩ := ite_some hf
  refine rs_getI i_X8_next_298 (by decide) (by decide) c1 ?_
  refine rs_iconst i_X8_next_301 (v := 1) (by decide) ?_
  refine rs_iadd i_X8_next_302 ?_
  refine rs_putI i_X8_next_303 (by decide) c1 ?_
  refine rs_goto i_X8_next_306 (tg := 230) (by decide) ?_
  exact HK230 _ _ _ _ _ hf
def f_X8_next_290 (n : Nat) (K230 : Nat → Int32 → Hp → Option Hp) (v0 : Nat) (v2 : Int32) (s0 : Nat) (s1 : Int32) (h : Hp) : Option Hp :=
  if okO h s0 8 then
  f_X8_next_293 n K230 v0 v2 (hsi h s0 29 s1)
  else none
set_option maxRecDepth 100000 in
set_option maxHeartbeats 4000000 in
theorem r_X8_next_290 {X : Nat → Int32} {d : Nat} (hd : 1 ≤ (d + 1)) {n : Nat} {K230 : Nat → Int32 → Hp → Option Hp} (HK230 : ∀ (v0 : Nat) (v2 : Int32) (d1 : Int32) (h : Hp) (o : Hp), K230 v0 v2 h = some o → Run X (d + 1) 137 230 [some (.ref v0), some (.int d1), some (.int v2)] [] h (none, o)) {v0 : Nat} {v2 : Int32} {s0 : Nat} {s1 : Int32} {d1 : Int32} {h : Hp} {o : Hp} (hf : f_X8_next_290 n K230 v0 v2 s0 s1 h = some o) : Run X (d + 1) 137 290 [some (.ref v0), some (.int d1), some (.int v2)] [.int s1, .ref s0] h (none, o) := by
  unfold f_X8_next_290 at hf
  obtain ⟨c1, hf⟩ := ite_some hf
  refine rs_putI i_X8_next_290 (by decide) c1 ?_
  exact r_X8_next_293 hd HK230 hf
def f_X8_next_230 (n : Nat) : Nat → Nat → Int32 → Hp → Option Hp
  | 0, _, _, _ => none
  | m + 1, v0, v2, h =>
    if okO h v0 8 then
    if (gI h v0 10) ≤ (gI h v0 26) then
      f_X8_next_309 n v0 v2 h
    else
      (gR h v0 9).bind fun a3 =>
      if okI h a3 (gI h v0 26) then
      (f_X8_in (gI h a3 (ix (gI h v0 26))) 48 57 h).bind fun o5 =>
      if o5.1 = 0 then
        f_X8_next_309 n v0 v2 o5.2
      else
        if 4 ≤ v2 then
          f_X8_next_290 n (f_X8_next_230 n m) v0 v2 v0 0 o5.2
        else
          if okO o5.2 v0 8 then
          (gR o5.2 v0 9).bind fun a9 =>
          if okI o5.2 a9 (gI o5.2 v0 26) then
          f_X8_next_290 n (f_X8_next_230 n m) v0 v2 v0 (((10 * (gI o5.2 v0 29)) + (gI o5.2 a9 (ix (gI o5.2 v0 26)))) - 48) o5.2
          else none
          else none
      else none
    else none
set_option maxRecDepth 100000 in
set_option maxHeartbeats 4000000 in
theorem r_X8_next_230 {X : Nat → Int32} {d : Nat} (hd : 1 ≤ (d + 1)) {n : Nat} : ∀ (m : Nat) (v0 : Nat) (v2 : Int32) (d1 : Int32) (h : Hp) (o : Hp), f_X8_next_230 n m v0 v2 h = some o → Run X (d + 1) 137 230 [some (.ref v0), some (.int d1), some (.int v2)] [] h (none, o) := by
  intro m
  induction m with
  | zero => intro v0 v2 d1 h o hf; cases hf
  | succ m ih =>
    intro v0 v2 d1 h o hf
    rw [f_X8_next_230] at hf
    refine rs_aload_n i_X8_next_230 rfl ?_
    obtain ⟨c1, hf⟩ := ite_some hf
    refine rs_getI i_X8_next_231 (by decide) (by decide) c1 ?_
    refine rs_aload_n i_X8_next_234 rfl ?_
    refine rs_getI i_X8_next_235 (by decide) (by decide) c1 ?_
    by_cases c2 : (gI h v0 10) ≤ (gI h v0 26)
    · replace hf := (if_pos c2).symm.trans hf
      refine rs_icT i_X8_next_238 (ct_ge c2) (tg := 309) (by decide) ?_
      exact r_X8_next_309 hd hf
    · replace hf := (if_neg c2).symm.trans hf
      refine rs_icF i_X8_next_238 (cf_ge c2) ?_
      refine rs_aload_n i_X8_next_241 rfl ?_
      obtain ⟨a3, e3, hf⟩ := bind_some hf
      refine rs_getR i_X8_next_242 (by decide) (by decide) c1 e3 ?_
      refine rs_aload_n i_X8_next_245 rfl ?_
      refine rs_getI i_X8_next_246 (by decide) (by decide) c1 ?_
      obtain ⟨c4, hf⟩ := ite_some hf
      refine rs_iald i_X8_next_249 c4 ?_
      refine rs_bipush i_X8_next_250 (v := 48) (by decide) ?_
      refine rs_bipush i_X8_next_252 (v := 57) (by decide) ?_
      obtain ⟨o5, e5, hf⟩ := bind_some hf
      refine rs_inS i_X8_next_254 (by decide) m_X8_in rfl (As := [.int (gI h a3 (ix (gI h v0 26))), .int 48, .int 57]) (rest := []) rfl rfl (Nat.le_of_ble_eq_true rfl) (c_X8_in (by omega) e5) (st' := [.int o5.1]) rfl ?_
      by_cases c6 : o5.1 = 0
      · replace hf := (if_pos c6).symm.trans hf
        refine rs_ifT i_X8_next_257 (ct_eq c6) (tg := 309) (by decide) ?_
        exact r_X8_next_309 hd hf
      · replace hf := (if_neg c6).symm.trans hf
        refine rs_ifF i_X8_next_257 (cf_eq c6) ?_
        refine rs_aload_n i_X8_next_260 rfl ?_
        refine rs_iload_n i_X8_next_261 rfl ?_
        refine rs_iconst i_X8_next_262 (v := 4) (by decide) ?_
        by_cases c7 : 4 ≤ v2
        · replace hf := (if_pos c7).symm.trans hf
          refine rs_icT i_X8_next_263 (ct_ge c7) (tg := 289) (by decide) ?_
          refine rs_iconst i_X8_next_289 (v := 0) (by decide) ?_
          exact r_X8_next_290 hd ih hf
        · replace hf := (if_neg c7).symm.trans hf
          refine rs_icF i_X8_next_263 (cf_ge c7) ?_
          refine rs_bipush i_X8_next_266 (v := 10) (by decide) ?_
          refine rs_aload_n i_X8_next_268 rfl ?_
          obtain ⟨c8, hf⟩ := ite_some hf
          refine rs_getI i_X8_next_269 (by decide) (by decide) c8 ?_
          refine rs_imul i_X8_next_272 ?_
          refine rs_aload_n i_X8_next_273 rfl ?_
          obtain ⟨a9, e9, hf⟩ := bind_some hf
          refine rs_getR i_X8_next_274 (by decide) (by decide) c8 e9 ?_
          refine rs_aload_n i_X8_next_277 rfl ?_
          refine rs_getI i_X8_next_278 (by decide) (by decide) c8 ?_
          obtain ⟨c10, hf⟩ := ite_some hf
          refine rs_iald i_X8_next_281 c10 ?_
          refine rs_iadd i_X8_next_282 ?_
          refine rs_bipush i_X8_next_283 (v := 48) (by decide) ?_
          refine rs_isub i_X8_next_285 ?_
          refine rs_goto i_X8_next_286 (tg := 290) (by decide) ?_
          exact r_X8_next_290 hd ih hf
def f_X8_next_211 (n : Nat) (s0 : Nat) (s1 : Int32) (h : Hp) : Option Hp :=
  if okO h s0 8 then
  some (hsi h s0 29 s1)
  else none
set_option maxRecDepth 100000 in
set_option maxHeartbeats 4000000 in
theorem r_X8_next_211 {X : Nat → Int32} {d : Nat} (hd : 1 ≤ (d + 1)) {n : Nat} {s0 : Nat} {s1 : Int32} {d0 : Nat} {d1 : Int32} {d2 : Int32} {h : Hp} {o : Hp} (hf : f_X8_next_211 n s0 s1 h = some o) : Run X (d + 1) 137 211 [some (.ref d0), some (.int d1), some (.int d2)] [.int s1, .ref s0] h (none, o) := by
  unfold f_X8_next_211 at hf
  obtain ⟨c1, hf⟩ := ite_some hf
  refine rs_putI i_X8_next_211 (by decide) c1 ?_
  refine rs_goto i_X8_next_214 (tg := 403) (by decide) ?_
  have hf := Option.some.inj hf
  subst hf
  exact rs_vret i_X8_next_403 m_X8_next rfl
def f_X8_next_198 (n : Nat) (v0 : Nat) (v2 : Int32) (h : Hp) : Option Hp :=
  if 3 ≤ v2 then
    f_X8_next_211 n v0 (v2 - 3) h
  else
    f_X8_next_211 n v0 v2 h
set_option maxRecDepth 100000 in
set_option maxHeartbeats 4000000 in
theorem r_X8_next_198 {X : Nat → Int32} {d : Nat} (hd : 1 ≤ (d + 1)) {n : Nat} {v0 : Nat} {v2 : Int32} {d1 : Int32} {h : Hp} {o : Hp} (hf : f_X8_next_198 n v0 v2 h = some o) : Run X (d + 1) 137 198 [some (.ref v0), some (.int d1), some (.int v2)] [] h (none, o) := by
  unfold f_X8_next_198 at hf
  refine rs_aload_n i_X8_next_198 rfl ?_
  refine rs_iload_n i_X8_next_199 rfl ?_
  refine rs_iconst i_X8_next_200 (v := 3) (by decide) ?_
  by_cases c1 : 3 ≤ v2
  · replace hf := (if_pos c1).symm.trans hf
    refine rs_icT i_X8_next_201 (ct_ge c1) (tg := 208) (by decide) ?_
    refine rs_iload_n i_X8_next_208 rfl ?_
    refine rs_iconst i_X8_next_209 (v := 3) (by decide) ?_
    refine rs_isub i_X8_next_210 ?_
    exact r_X8_next_211 hd hf
  · replace hf := (if_neg c1).symm.trans hf
    refine rs_icF i_X8_next_201 (cf_ge c1) ?_
    refine rs_iload_n i_X8_next_204 rfl ?_
    refine rs_goto i_X8_next_205 (tg := 211) (by decide) ?_
    exact r_X8_next_211 hd hf
def f_X8_next_195 (n : Nat) (v0 : Nat) (v2 : Int32) (s0 : Nat) (s1 : Int32) (h : Hp) : Option Hp :=
  if okO h s0 8 then
  f_X8_next_198 n v0 v2 (hsi h s0 28 s1)
  else none
set_option maxRecDepth 100000 in
set_option maxHeartbeats 4000000 in
theorem r_X8_next_195 {X : Nat → Int32} {d : Nat} (hd : 1 ≤ (d + 1)) {n : Nat} {v0 : Nat} {v2 : Int32} {s0 : Nat} {s1 : Int32} {d1 : Int32} {h : Hp} {o : Hp} (hf : f_X8_next_195 n v0 v2 s0 s1 h = some o) : Run X (d + 1) 137 195 [some (.ref v0), some (.int d1), some (.int v2)] [.int s1, .ref s0] h (none, o) := by
  unfold f_X8_next_195 at hf
  obtain ⟨c1, hf⟩ := ite_some hf
  refine rs_putI i_X8_next_195 (by decide) c1 ?_
  exact r_X8_next_198 hd hf
def f_X8_next_146 (n : Nat) (v0 : Nat) (h : Hp) : Option Hp :=
  if okO h v0 8 then
  (f_X8_wordFrom n v0 (gI h v0 27) (gI h v0 26) h).bind fun o2 =>
  if 3 ≤ o2.1 then
    if 9 ≤ o2.1 then
      if o2.1 ≠ 12 then
        f_X8_next_195 n v0 o2.1 v0 ((4 + o2.1) - 9) o2.2
      else
        f_X8_next_195 n v0 o2.1 v0 (-1) o2.2
    else
      f_X8_next_195 n v0 o2.1 v0 2 o2.2
  else
    f_X8_next_195 n v0 o2.1 v0 3 o2.2
  else none
set_option maxRecDepth 100000 in
set_option maxHeartbeats 4000000 in
theorem r_X8_next_146 {X : Nat → Int32} {d : Nat} (hd : 1 ≤ (d + 1)) {n : Nat} {v0 : Nat} {d1 : Int32} {h : Hp} {o : Hp} (hf : f_X8_next_146 n v0 h = some o) : Run X (d + 1) 137 146 [some (.ref v0), some (.int d1), none] [] h (none, o) := by
  unfold f_X8_next_146 at hf
  refine rs_aload_n i_X8_next_146 rfl ?_
  refine rs_aload_n i_X8_next_147 rfl ?_
  obtain ⟨c1, hf⟩ := ite_some hf
  refine rs_getI i_X8_next_148 (by decide) (by decide) c1 ?_
  refine rs_aload_n i_X8_next_151 rfl ?_
  refine rs_getI i_X8_next_152 (by decide) (by decide) c1 ?_
  obtain ⟨o2, e2, hf⟩ := bind_some hf
  refine rs_inV i_X8_next_155 m_X8_wordFrom rfl (As := [.int (gI h v0 27), .int (gI h v0 26)]) (rest := []) rfl rfl (Nat.le_of_ble_eq_true rfl) c1 (c_X8_wordFrom (by omega) e2) (st' := [.int o2.1]) rfl ?_
  refine rs_istore_n i_X8_next_158 (Nat.le_of_ble_eq_true rfl) (lv' := [some (.ref v0), some (.int d1), some (.int o2.1)]) rfl ?_
  refine rs_aload_n i_X8_next_159 rfl ?_
  refine rs_iload_n i_X8_next_160 rfl ?_
  refine rs_iconst i_X8_next_161 (v := 3) (by decide) ?_
  by_cases c3 : 3 ≤ o2.1
  · replace hf := (if_pos c3).symm.trans hf
    refine rs_icT i_X8_next_162 (ct_ge c3) (tg := 169) (by decide) ?_
    refine rs_iload_n i_X8_next_169 rfl ?_
    refine rs_bipush i_X8_next_170 (v := 9) (by decide) ?_
    by_cases c4 : 9 ≤ o2.1
    · replace hf := (if_pos c4).symm.trans hf
      refine rs_icT i_X8_next_172 (ct_ge c4) (tg := 179) (by decide) ?_
      refine rs_iload_n i_X8_next_179 rfl ?_
      refine rs_bipush i_X8_next_180 (v := 12) (by decide) ?_
      by_cases c5 : o2.1 ≠ 12
      · replace hf := (if_pos c5).symm.trans hf
        refine rs_icT i_X8_next_182 (ct_ne c5) (tg := 189) (by decide) ?_
        refine rs_iconst i_X8_next_189 (v := 4) (by decide) ?_
        refine rs_iload_n i_X8_next_190 rfl ?_
        refine rs_iadd i_X8_next_191 ?_
        refine rs_bipush i_X8_next_192 (v := 9) (by decide) ?_
        refine rs_isub i_X8_next_194 ?_
        exact r_X8_next_195 hd hf
      · replace hf := (if_neg c5).symm.trans hf
        refine rs_icF i_X8_next_182 (cf_ne c5) ?_
        refine rs_iconst i_X8_next_185 (v := (-1)) (by decide) ?_
        refine rs_goto i_X8_next_186 (tg := 195) (by decide) ?_
        exact r_X8_next_195 hd hf
    · replace hf := (if_neg c4).symm.trans hf
      refine rs_icF i_X8_next_172 (cf_ge c4) ?_
      refine rs_iconst i_X8_next_175 (v := 2) (by decide) ?_
      refine rs_goto i_X8_next_176 (tg := 195) (by decide) ?_
      exact r_X8_next_195 hd hf
  · replace hf := (if_neg c3).symm.trans hf
    refine rs_icF i_X8_next_162 (cf_ge c3) ?_
    refine rs_iconst i_X8_next_165 (v := 3) (by decide) ?_
    refine rs_goto i_X8_next_166 (tg := 195) (by decide) ?_
    exact r_X8_next_195 hd hf
def f_X8_next_103 (n : Nat) : Nat → Nat → Hp → Option Hp
  | 0, _, _ => none
  | m + 1, v0, h =>
    if okO h v0 8 then
    if (gI h v0 10) ≤ (gI h v0 26) then
      f_X8_next_146 n v0 h
    else
      (gR h v0 9).bind fun a3 =>
      if okI h a3 (gI h v0 26) then
      (f_X8_in (gI h a3 (ix (gI h v0 26))) 97 122 h).bind fun o5 =>
      if o5.1 = 0 then
        f_X8_next_146 n v0 o5.2
      else
        if okO o5.2 v0 8 then
        (f_X8_next_103 n m) v0 (hsi o5.2 v0 26 ((gI o5.2 v0 26) + 1))
        else none
      else none
    else none
set_option maxRecDepth 100000 in
set_option maxHeartbeats 4000000 in
theorem r_X8_next_103 {X : Nat → Int32} {d : Nat} (hd : 1 ≤ (d + 1)) {n : Nat} : ∀ (m : Nat) (v0 : Nat) (d1 : Int32) (h : Hp) (o : Hp), f_X8_next_103 n m v0 h = some o → Run X (d + 1) 137 103 [some (.ref v0), some (.int d1), none] [] h (none, o) := by
  intro m
  induction m with
  | zero => intro v0 d1 h o hf; cases hf
  | succ m ih =>
    intro v0 d1 h o hf
    rw [f_X8_next_103] at hf
    refine rs_aload_n i_X8_next_103 rfl ?_
    obtain ⟨c1, hf⟩ := ite_some hf
    refine rs_getI i_X8_next_104 (by decide) (by decide) c1 ?_
    refine rs_aload_n i_X8_next_107 rfl ?_
    refine rs_getI i_X8_next_108 (by decide) (by decide) c1 ?_
    by_cases c2 : (gI h v0 10) ≤ (gI h v0 26)
    · replace hf := (if_pos c2).symm.trans hf
      refine rs_icT i_X8_next_111 (ct_ge c2) (tg := 146) (by decide) ?_
      exact r_X8_next_146 hd hf
    · replace hf := (if_neg c2).symm.trans hf
      refine rs_icF i_X8_next_111 (cf_ge c2) ?_
      refine rs_aload_n i_X8_next_114 rfl ?_
      obtain ⟨a3, e3, hf⟩ := bind_some hf
      refine rs_getR i_X8_next_115 (by decide) (by decide) c1 e3 ?_
      refine rs_aload_n i_X8_next_118 rfl ?_
      refine rs_getI i_X8_next_119 (by decide) (by decide) c1 ?_
      obtain ⟨c4, hf⟩ := ite_some hf
      refine rs_iald i_X8_next_122 c4 ?_
      refine rs_bipush i_X8_next_123 (v := 97) (by decide) ?_
      refine rs_bipush i_X8_next_125 (v := 122) (by decide) ?_
      obtain ⟨o5, e5, hf⟩ := bind_some hf
      refine rs_inS i_X8_next_127 (by decide) m_X8_in rfl (As := [.int (gI h a3 (ix (gI h v0 26))), .int 97, .int 122]) (rest := []) rfl rfl (Nat.le_of_ble_eq_true rfl) (c_X8_in (by omega) e5) (st' := [.int o5.1]) rfl ?_
      by_cases c6 : o5.1 = 0
      · replace hf := (if_pos c6).symm.trans hf
        refine rs_ifT i_X8_next_130 (ct_eq c6) (tg := 146) (by decide) ?_
        exact r_X8_next_146 hd hf
      · replace hf := (if_neg c6).symm.trans hf
        refine rs_ifF i_X8_next_130 (cf_eq c6) ?_
        refine rs_aload_n i_X8_next_133 rfl ?_
        refine rs_dup i_X8_next_134 rfl ?_
        obtain ⟨c7, hf⟩ := ite_some hf
        refine rs_getI i_X8_next_135 (by decide) (by decide) c7 ?_
        refine rs_iconst i_X8_next_138 (v := 1) (by decide) ?_
        refine rs_iadd i_X8_next_139 ?_
        refine rs_putI i_X8_next_140 (by decide) c7 ?_
        refine rs_goto i_X8_next_143 (tg := 103) (by decide) ?_
        exact ih _ _ _ _ hf
def f_X8_next_70 (n : Nat) (v0 : Nat) (h : Hp) : Option Hp :=
  if okO h v0 8 then
  if (gI h v0 26) ≠ (gI h v0 10) then
    (gR h v0 9).bind fun a3 =>
    if okI h a3 (gI h v0 26) then
    (f_X8_in (gI h a3 (ix (gI h v0 26))) 97 122 h).bind fun o5 =>
    if o5.1 = 0 then
      (f_X8_in (gI h a3 (ix (gI h v0 26))) 48 57 o5.2).bind fun o7 =>
      if o7.1 = 0 then
        if (gI h a3 (ix (gI h v0 26))) = 40 then
          f_X8_next_374 n v0 (gI h a3 (ix (gI h v0 26))) o7.2
        else
          if (gI h a3 (ix (gI h v0 26))) = 41 then
            f_X8_next_374 n v0 (gI h a3 (ix (gI h v0 26))) o7.2
          else
            if (gI h a3 (ix (gI h v0 26))) = 59 then
              f_X8_next_374 n v0 (gI h a3 (ix (gI h v0 26))) o7.2
            else
              if (gI h a3 (ix (gI h v0 26))) = 43 then
                f_X8_next_374 n v0 (gI h a3 (ix (gI h v0 26))) o7.2
              else
                if (gI h a3 (ix (gI h v0 26))) = 45 then
                  f_X8_next_374 n v0 (gI h a3 (ix (gI h v0 26))) o7.2
                else
                  if (gI h a3 (ix (gI h v0 26))) = 42 then
                    f_X8_next_374 n v0 (gI h a3 (ix (gI h v0 26))) o7.2
                  else
                    if (gI h a3 (ix (gI h v0 26))) = 60 then
                      f_X8_next_374 n v0 (gI h a3 (ix (gI h v0 26))) o7.2
                    else
                      if (gI h a3 (ix (gI h v0 26))) ≠ 61 then
                        f_X8_next_379 n v0 (gI h a3 (ix (gI h v0 26))) 0 o7.2
                      else
                        f_X8_next_374 n v0 (gI h a3 (ix (gI h v0 26))) o7.2
      else
        f_X8_next_230 n n v0 0 o7.2
    else
      f_X8_next_103 n n v0 o5.2
    else none
  else
    some h
  else none
set_option maxRecDepth 100000 in
set_option maxHeartbeats 4000000 in
theorem r_X8_next_70 {X : Nat → Int32} {d : Nat} (hd : 1 ≤ (d + 1)) {n : Nat} {v0 : Nat} {h : Hp} {o : Hp} (hf : f_X8_next_70 n v0 h = some o) : Run X (d + 1) 137 70 [some (.ref v0), none, none] [] h (none, o) := by
  unfold f_X8_next_70 at hf
  refine rs_aload_n i_X8_next_70 rfl ?_
  obtain ⟨c1, hf⟩ := ite_some hf
  refine rs_getI i_X8_next_71 (by decide) (by decide) c1 ?_
  refine rs_aload_n i_X8_next_74 rfl ?_
  refine rs_getI i_X8_next_75 (by decide) (by decide) c1 ?_
  by_cases c2 : (gI h v0 26) ≠ (gI h v0 10)
  · replace hf := (if_pos c2).symm.trans hf
    refine rs_icT i_X8_next_78 (ct_ne c2) (tg := 82) (by decide) ?_
    refine rs_aload_n i_X8_next_82 rfl ?_
    obtain ⟨a3, e3, hf⟩ := bind_some hf
    refine rs_getR i_X8_next_83 (by decide) (by decide) c1 e3 ?_
    refine rs_aload_n i_X8_next_86 rfl ?_
    refine rs_getI i_X8_next_87 (by decide) (by decide) c1 ?_
    obtain ⟨c4, hf⟩ := ite_some hf
    refine rs_iald i_X8_next_90 c4 ?_
    refine rs_istore_n i_X8_next_91 (Nat.le_of_ble_eq_true rfl) (lv' := [some (.ref v0), some (.int (gI h a3 (ix (gI h v0 26)))), none]) rfl ?_
    refine rs_iload_n i_X8_next_92 rfl ?_
    refine rs_bipush i_X8_next_93 (v := 97) (by decide) ?_
    refine rs_bipush i_X8_next_95 (v := 122) (by decide) ?_
    obtain ⟨o5, e5, hf⟩ := bind_some hf
    refine rs_inS i_X8_next_97 (by decide) m_X8_in rfl (As := [.int (gI h a3 (ix (gI h v0 26))), .int 97, .int 122]) (rest := []) rfl rfl (Nat.le_of_ble_eq_true rfl) (c_X8_in (by omega) e5) (st' := [.int o5.1]) rfl ?_
    by_cases c6 : o5.1 = 0
    · replace hf := (if_pos c6).symm.trans hf
      refine rs_ifT i_X8_next_100 (ct_eq c6) (tg := 217) (by decide) ?_
      refine rs_iload_n i_X8_next_217 rfl ?_
      refine rs_bipush i_X8_next_218 (v := 48) (by decide) ?_
      refine rs_bipush i_X8_next_220 (v := 57) (by decide) ?_
      obtain ⟨o7, e7, hf⟩ := bind_some hf
      refine rs_inS i_X8_next_222 (by decide) m_X8_in rfl (As := [.int (gI h a3 (ix (gI h v0 26))), .int 48, .int 57]) (rest := []) rfl rfl (Nat.le_of_ble_eq_true rfl) (c_X8_in (by omega) e7) (st' := [.int o7.1]) rfl ?_
      by_cases c8 : o7.1 = 0
      · replace hf := (if_pos c8).symm.trans hf
        refine rs_ifT i_X8_next_225 (ct_eq c8) (tg := 326) (by decide) ?_
        refine rs_iload_n i_X8_next_326 rfl ?_
        refine rs_bipush i_X8_next_327 (v := 40) (by decide) ?_
        by_cases c9 : (gI h a3 (ix (gI h v0 26))) = 40
        · replace hf := (if_pos c9).symm.trans hf
          refine rs_icT i_X8_next_329 (ct_eq c9) (tg := 374) (by decide) ?_
          exact r_X8_next_374 hd hf
        · replace hf := (if_neg c9).symm.trans hf
          refine rs_icF i_X8_next_329 (cf_eq c9) ?_
          refine rs_iload_n i_X8_next_332 rfl ?_
          refine rs_bipush i_X8_next_333 (v := 41) (by decide) ?_
          by_cases c10 : (gI h a3 (ix (gI h v0 26))) = 41
          · replace hf := (if_pos c10).symm.trans hf
            refine rs_icT i_X8_next_335 (ct_eq c10) (tg := 374) (by decide) ?_
            exact r_X8_next_374 hd hf
          · replace hf := (if_neg c10).symm.trans hf
            refine rs_icF i_X8_next_335 (cf_eq c10) ?_
            refine rs_iload_n i_X8_next_338 rfl ?_
            refine rs_bipush i_X8_next_339 (v := 59) (by decide) ?_
            by_cases c11 : (gI h a3 (ix (gI h v0 26))) = 59
            · replace hf := (if_pos c11).symm.trans hf
              refine rs_icT i_X8_next_341 (ct_eq c11) (tg := 374) (by decide) ?_
              exact r_X8_next_374 hd hf
            · replace hf := (if_neg c11).symm.trans hf
              refine rs_icF i_X8_next_341 (cf_eq c11) ?_
              refine rs_iload_n i_X8_next_344 rfl ?_
              refine rs_bipush i_X8_next_345 (v := 43) (by decide) ?_
              by_cases c12 : (gI h a3 (ix (gI h v0 26))) = 43
              · replace hf := (if_pos c12).symm.trans hf
                refine rs_icT i_X8_next_347 (ct_eq c12) (tg := 374) (by decide) ?_
                exact r_X8_next_374 hd hf
              · replace hf := (if_neg c12).symm.trans hf
                refine rs_icF i_X8_next_347 (cf_eq c12) ?_
                refine rs_iload_n i_X8_next_350 rfl ?_
                refine rs_bipush i_X8_next_351 (v := 45) (by decide) ?_
                by_cases c13 : (gI h a3 (ix (gI h v0 26))) = 45
                · replace hf := (if_pos c13).symm.trans hf
                  refine rs_icT i_X8_next_353 (ct_eq c13) (tg := 374) (by decide) ?_
                  exact r_X8_next_374 hd hf
                · replace hf := (if_neg c13).symm.trans hf
                  refine rs_icF i_X8_next_353 (cf_eq c13) ?_
                  refine rs_iload_n i_X8_next_356 rfl ?_
                  refine rs_bipush i_X8_next_357 (v := 42) (by decide) ?_
                  by_cases c14 : (gI h a3 (ix (gI h v0 26))) = 42
                  · replace hf := (if_pos c14).symm.trans hf
                    refine rs_icT i_X8_next_359 (ct_eq c14) (tg := 374) (by decide) ?_
                    exact r_X8_next_374 hd hf
                  · replace hf := (if_neg c14).symm.trans hf
                    refine rs_icF i_X8_next_359 (cf_eq c14) ?_
                    refine rs_iload_n i_X8_next_362 rfl ?_
                    refine rs_bipush i_X8_next_363 (v := 60) (by decide) ?_
                    by_cases c15 : (gI h a3 (ix (gI h v0 26))) = 60
                    · replace hf := (if_pos c15).symm.trans hf
                      refine rs_icT i_X8_next_365 (ct_eq c15) (tg := 374) (by decide) ?_
                      exact r_X8_next_374 hd hf
                    · replace hf := (if_neg c15).symm.trans hf
                      refine rs_icF i_X8_next_365 (cf_eq c15) ?_
                      refine rs_iload_n i_X8_next_368 rfl ?_
                      refine rs_bipush i_X8_next_369 (v := 61) (by decide) ?_
                      by_cases c16 : (gI h a3 (ix (gI h v0 26))) ≠ 61
                      · replace hf := (if_pos c16).symm.trans hf
                        refine rs_icT i_X8_next_371 (ct_ne c16) (tg := 378) (by decide) ?_
                        refine rs_iconst i_X8_next_378 (v := 0) (by decide) ?_
                        exact r_X8_next_379 hd hf
                      · replace hf := (if_neg c16).symm.trans hf
                        refine rs_icF i_X8_next_371 (cf_ne c16) ?_
                        exact r_X8_next_374 hd hf
      · replace hf := (if_neg c8).symm.trans hf
        refine rs_ifF i_X8_next_225 (cf_eq c8) ?_
        refine rs_iconst i_X8_next_228 (v := 0) (by decide) ?_
        refine rs_istore_n i_X8_next_229 (Nat.le_of_ble_eq_true rfl) (lv' := [some (.ref v0), some (.int (gI h a3 (ix (gI h v0 26)))), some (.int 0)]) rfl ?_
        exact r_X8_next_230 hd _ _ _ _ _ _ hf
    · replace hf := (if_neg c6).symm.trans hf
      refine rs_ifF i_X8_next_100 (cf_eq c6) ?_
      exact r_X8_next_103 hd _ _ _ _ _ hf
  · replace hf := (if_neg c2).symm.trans hf
    refine rs_icF i_X8_next_78 (cf_ne c2) ?_
    have hf := Option.some.inj hf
    subst hf
    exact rs_vret i_X8_next_81 m_X8_next rfl
def f_X8_next_65 (n : Nat) (v0 : Nat) (h : Hp) : Option Hp :=
  if okO h v0 8 then
  f_X8_next_70 n v0 (hsi h v0 29 0)
  else none
set_option maxRecDepth 100000 in
set_option maxHeartbeats 4000000 in
theorem r_X8_next_65 {X : Nat → Int32} {d : Nat} (hd : 1 ≤ (d + 1)) {n : Nat} {v0 : Nat} {h : Hp} {o : Hp} (hf : f_X8_next_65 n v0 h = some o) : Run X (d + 1) 137 65 [some (.ref v0), none, none] [] h (none, o) := by
  unfold f_X8_next_65 at hf
  refine rs_aload_n i_X8_next_65 rfl ?_
  refine rs_iconst i_X8_next_66 (v := 0) (by decide) ?_
  obtain ⟨c1, hf⟩ := ite_some hf
  refine rs_putI i_X8_next_67 (by decide) c1 ?_
  exact r_X8_next_70 hd hf
def f_X8_next_60 (n : Nat) (v0 : Nat) (h : Hp) : Option Hp :=
  if okO h v0 8 then
  f_X8_next_65 n v0 (hsi h v0 28 0)
  else none
set_option maxRecDepth 100000 in
set_option maxHeartbeats 4000000 in
theorem r_X8_next_60 {X : Nat → Int32} {d : Nat} (hd : 1 ≤ (d + 1)) {n : Nat} {v0 : Nat} {h : Hp} {o : Hp} (hf : f_X8_next_60 n v0 h = some o) : Run X (d + 1) 137 60 [some (.ref v0), none, none] [] h (none, o) := by
  unfold f_X8_next_60 at hf
  refine rs_aload_n i_X8_next_60 rfl ?_
  refine rs_iconst i_X8_next_61 (v := 0) (by decide) ?_
  obtain ⟨c1, hf⟩ := ite_some hf
  refine rs_putI i_X8_next_62 (by decide) c1 ?_
  exact r_X8_next_65 hd hf
def f_X8_next_52 (n : Nat) (v0 : Nat) (h : Hp) : Option Hp :=
  if okO h v0 8 then
  f_X8_next_60 n v0 (hsi h v0 27 (gI h v0 26))
  else none
set_option maxRecDepth 100000 in
set_option maxHeartbeats 4000000 in
theorem r_X8_next_52 {X : Nat → Int32} {d : Nat} (hd : 1 ≤ (d + 1)) {n : Nat} {v0 : Nat} {h : Hp} {o : Hp} (hf : f_X8_next_52 n v0 h = some o) : Run X (d + 1) 137 52 [some (.ref v0), none, none] [] h (none, o) := by
  unfold f_X8_next_52 at hf
  refine rs_aload_n i_X8_next_52 rfl ?_
  refine rs_aload_n i_X8_next_53 rfl ?_
  obtain ⟨c1, hf⟩ := ite_some hf
  refine rs_getI i_X8_next_54 (by decide) (by decide) c1 ?_
  refine rs_putI i_X8_next_57 (by decide) c1 ?_
  exact r_X8_next_60 hd hf
def f_X8_next_39 (n : Nat) (K0 : Nat → Hp → Option Hp) (v0 : Nat) (h : Hp) : Option Hp :=
  if okO h v0 8 then
  K0 v0 (hsi h v0 26 ((gI h v0 26) + 1))
  else none
set_option maxRecDepth 100000 in
set_option maxHeartbeats 4000000 in
theorem r_X8_next_39 {X : Nat → Int32} {d : Nat} (hd : 1 ≤ (d + 1)) {n : Nat} {K0 : Nat → Hp → Option Hp} (HK0 : ∀ (v0 : Nat) (h : Hp) (o : Hp), K0 v0 h = some o → Run X (d + 1) 137 0 [some (.ref v0), none, none] [] h (none, o)) {v0 : Nat} {h : Hp} {o : Hp} (hf : f_X8_next_39 n K0 v0 h = some o) : Run X (d + 1) 137 39 [some (.ref v0), none, none] [] h (none, o) := by
  unfold f_X8_next_39 at hf
  refine rs_aload_n i_X8_next_39 rfl ?_
  refine rs_dup i_X8_next_40 rfl ?_
  obtain ⟨c1, hf⟩ := ite_some hf
  refine rs_getI i_X8_next_41 (by decide) (by decide) c1 ?_
  refine rs_iconst i_X8_next_44 (v := 1) (by decide) ?_
  refine rs_iadd i_X8_next_45 ?_
  refine rs_putI i_X8_next_46 (by decide) c1 ?_
  refine rs_goto i_X8_next_49 (tg := 0) (by decide) ?_
  exact HK0 _ _ _ hf
def f_X8_next_0 (n : Nat) : Nat → Nat → Hp → Option Hp
  | 0, _, _ => none
  | m + 1, v0, h =>
    if okO h v0 8 then
    if (gI h v0 10) ≤ (gI h v0 26) then
      f_X8_next_52 n v0 h
    else
      (gR h v0 9).bind fun a3 =>
      if okI h a3 (gI h v0 26) then
      if (gI h a3 (ix (gI h v0 26))) = 32 then
        f_X8_next_39 n (f_X8_next_0 n m) v0 h
      else
        if (gI h a3 (ix (gI h v0 26))) ≠ 10 then
          f_X8_next_52 n v0 h
        else
          f_X8_next_39 n (f_X8_next_0 n m) v0 h
      else none
    else none
set_option maxRecDepth 100000 in
set_option maxHeartbeats 4000000 in
theorem r_X8_next_0 {X : Nat → Int32} {d : Nat} (hd : 1 ≤ (d + 1)) {n : Nat} : ∀ (m : Nat) (v0 : Nat) (h : Hp) (o : Hp), f_X8_next_0 n m v0 h = some o → Run X (d + 1) 137 0 [some (.ref v0), none, none] [] h (none, o) := by
  intro m
  induction m with
  | zero => intro v0 h o hf; cases hf
  | succ m ih =>
    intro v0 h o hf
    rw [f_X8_next_0] at hf
    refine rs_aload_n i_X8_next_0 rfl ?_
    obtain ⟨c1, hf⟩ := ite_some hf
    refine rs_getI i_X8_next_1 (by decide) (by decide) c1 ?_
    refine rs_aload_n i_X8_next_4 rfl ?_
    refine rs_getI i_X8_next_5 (by decide) (by decide) c1 ?_
    by_cases c2 : (gI h v0 10) ≤ (gI h v0 26)
    · replace hf := (if_pos c2).symm.trans hf
      refine rs_icT i_X8_next_8 (ct_ge c2) (tg := 52) (by decide) ?_
      exact r_X8_next_52 hd hf
    · replace hf := (if_neg c2).symm.trans hf
      refine rs_icF i_X8_next_8 (cf_ge c2) ?_
      refine rs_aload_n i_X8_next_11 rfl ?_
      obtain ⟨a3, e3, hf⟩ := bind_some hf
      refine rs_getR i_X8_next_12 (by decide) (by decide) c1 e3 ?_
      refine rs_aload_n i_X8_next_15 rfl ?_
      refine rs_getI i_X8_next_16 (by decide) (by decide) c1 ?_
      obtain ⟨c4, hf⟩ := ite_some hf
      refine rs_iald i_X8_next_19 c4 ?_
      refine rs_bipush i_X8_next_20 (v := 32) (by decide) ?_
      by_cases c5 : (gI h a3 (ix (gI h v0 26))) = 32
      · replace hf := (if_pos c5).symm.trans hf
        refine rs_icT i_X8_next_22 (ct_eq c5) (tg := 39) (by decide) ?_
        exact r_X8_next_39 hd ih hf
      · replace hf := (if_neg c5).symm.trans hf
        refine rs_icF i_X8_next_22 (cf_eq c5) ?_
        refine rs_aload_n i_X8_next_25 rfl ?_
        refine rs_getR i_X8_next_26 (by decide) (by decide) c1 e3 ?_
        refine rs_aload_n i_X8_next_29 rfl ?_
        refine rs_getI i_X8_next_30 (by decide) (by decide) c1 ?_
        refine rs_iald i_X8_next_33 c4 ?_
        refine rs_bipush i_X8_next_34 (v := 10) (by decide) ?_
        by_cases c6 : (gI h a3 (ix (gI h v0 26))) ≠ 10
        · replace hf := (if_pos c6).symm.trans hf
          refine rs_icT i_X8_next_36 (ct_ne c6) (tg := 52) (by decide) ?_
          exact r_X8_next_52 hd hf
        · replace hf := (if_neg c6).symm.trans hf
          refine rs_icF i_X8_next_36 (cf_ne c6) ?_
          exact r_X8_next_39 hd ih hf
def f_X8_next (n : Nat) (v0 : Nat) (h : Hp) : Option Hp := f_X8_next_0 n n v0 h
theorem c_X8_next {X : Nat → Int32} {d : Nat} (hd : 1 ≤ d) {n : Nat} {v0 : Nat} {h : Hp} {o : Hp} (hf : f_X8_next n v0 h = some o) : Calls X d 137 [.ref v0] h (none, o) := by
  obtain ⟨d, rfl⟩ : ∃ z, d = z + 1 := ⟨d - 1, by omega⟩
  exact ⟨_, rfl, r_X8_next_0 hd _ _ _ _ hf⟩
theorem i_X8_opensOne_0 : fetch 142 0 = some (.aload_n 0, 1, 0, 0, 0, 0) := by decide +kernel
theorem i_X8_opensOne_1 : fetch 142 1 = some (.getfield 165, 4, 8, 33, 0, 1042) := by decide +kernel
theorem i_X8_opensOne_4 : fetch 142 4 = some (.iconst 5, 5, 0, 0, 0, 0) := by decide +kernel
theorem i_X8_opensOne_5 : fetch 142 5 = some (.if_icmp .ne 5, 8, 0, 0, 0, 0) := by decide +kernel
theorem i_X8_opensOne_8 : fetch 142 8 = some (.iconst 0, 9, 0, 0, 0, 0) := by decide +kernel
theorem i_X8_opensOne_9 : fetch 142 9 = some (.ireturn, 10, 0, 0, 0, 0) := by decide +kernel
theorem i_X8_opensOne_10 : fetch 142 10 = some (.aload_n 0, 11, 0, 0, 0, 0) := by decide +kernel
theorem i_X8_opensOne_11 : fetch 142 11 = some (.dup, 12, 0, 0, 0, 0) := by decide +kernel
theorem i_X8_opensOne_12 : fetch 142 12 = some (.getfield 165, 15, 8, 33, 0, 1042) := by decide +kernel
theorem i_X8_opensOne_15 : fetch 142 15 = some (.iconst 1, 16, 0, 0, 0, 0) := by decide +kernel
theorem i_X8_opensOne_16 : fetch 142 16 = some (.iadd, 17, 0, 0, 0, 0) := by decide +kernel
theorem i_X8_opensOne_17 : fetch 142 17 = some (.putfield 165, 20, 8, 33, 0, 1042) := by decide +kernel
theorem i_X8_opensOne_20 : fetch 142 20 = some (.aload_n 0, 21, 0, 0, 0, 0) := by decide +kernel
theorem i_X8_opensOne_21 : fetch 142 21 = some (.iload_n 1, 22, 0, 0, 0, 0) := by decide +kernel
theorem i_X8_opensOne_22 : fetch 142 22 = some (.invokevirtual 172, 25, 141, 0, 0, 997) := by decide +kernel
theorem i_X8_opensOne_25 : fetch 142 25 = some (.iconst 1, 26, 0, 0, 0, 0) := by decide +kernel
theorem i_X8_opensOne_26 : fetch 142 26 = some (.ireturn, 27, 0, 0, 0, 0) := by decide +kernel
def f_X8_opensOne_20 (v0 : Nat) (v1 : Int32) (h : Hp) : Option (Int32 × Hp) :=
  if okO h v0 8 then
  (f_X8_holds v0 v1 h).bind fun o1 =>
  some (1, o1)
  else none
set_option maxRecDepth 100000 in
set_option maxHeartbeats 4000000 in
theorem r_X8_opensOne_20 {X : Nat → Int32} {d : Nat} (hd : 1 ≤ (d + 1)) {v0 : Nat} {v1 : Int32} {h : Hp} {o : (Int32 × Hp)} (hf : f_X8_opensOne_20 v0 v1 h = some o) : Run X (d + 1) 142 20 [some (.ref v0), some (.int v1)] [] h (some (.int o.1), o.2) := by
  unfold f_X8_opensOne_20 at hf
  refine rs_aload_n i_X8_opensOne_20 rfl ?_
  refine rs_iload_n i_X8_opensOne_21 rfl ?_
  obtain ⟨c2, hf⟩ := ite_some hf
  obtain ⟨o1, e1, hf⟩ := bind_some hf
  refine rs_inV i_X8_opensOne_22 m_X8_holds rfl (As := [.int v1]) (rest := []) rfl rfl (Nat.le_of_ble_eq_true rfl) c2 (c_X8_holds (by omega) e1) (st' := []) rfl ?_
  refine rs_iconst i_X8_opensOne_25 (v := 1) (by decide) ?_
  have hf := Option.some.inj hf
  subst hf
  exact rs_iret i_X8_opensOne_26 m_X8_opensOne (by decide)
def f_X8_opensOne_0 (v0 : Nat) (v1 : Int32) (h : Hp) : Option (Int32 × Hp) :=
  if okO h v0 8 then
  if (gI h v0 33) ≠ 5 then
    f_X8_opensOne_20 v0 v1 (hsi h v0 33 ((gI h v0 33) + 1))
  else
    some (0, h)
  else none
set_option maxRecDepth 100000 in
set_option maxHeartbeats 4000000 in
theorem r_X8_opensOne_0 {X : Nat → Int32} {d : Nat} (hd : 1 ≤ (d + 1)) {v0 : Nat} {v1 : Int32} {h : Hp} {o : (Int32 × Hp)} (hf : f_X8_opensOne_0 v0 v1 h = some o) : Run X (d + 1) 142 0 [some (.ref v0), some (.int v1)] [] h (some (.int o.1), o.2) := by
  unfold f_X8_opensOne_0 at hf
  refine rs_aload_n i_X8_opensOne_0 rfl ?_
  obtain ⟨c1, hf⟩ := ite_some hf
  refine rs_getI i_X8_opensOne_1 (by decide) (by decide) c1 ?_
  refine rs_iconst i_X8_opensOne_4 (v := 5) (by decide) ?_
  by_cases c2 : (gI h v0 33) ≠ 5
  · replace hf := (if_pos c2).symm.trans hf
    refine rs_icT i_X8_opensOne_5 (ct_ne c2) (tg := 10) (by decide) ?_
    refine rs_aload_n i_X8_opensOne_10 rfl ?_
    refine rs_dup i_X8_opensOne_11 rfl ?_
    refine rs_getI i_X8_opensOne_12 (by decide) (by decide) c1 ?_
    refine rs_iconst i_X8_opensOne_15 (v := 1) (by decide) ?_
    refine rs_iadd i_X8_opensOne_16 ?_
    refine rs_putI i_X8_opensOne_17 (by decide) c1 ?_
    exact r_X8_opensOne_20 hd hf
  · replace hf := (if_neg c2).symm.trans hf
    refine rs_icF i_X8_opensOne_5 (cf_ne c2) ?_
    refine rs_iconst i_X8_opensOne_8 (v := 0) (by decide) ?_
    have hf := Option.some.inj hf
    subst hf
    exact rs_iret i_X8_opensOne_9 m_X8_opensOne (by decide)
def f_X8_opensOne (v0 : Nat) (v1 : Int32) (h : Hp) : Option (Int32 × Hp) := f_X8_opensOne_0 v0 v1 h
theorem c_X8_opensOne {X : Nat → Int32} {d : Nat} (hd : 1 ≤ d) {v0 : Nat} {v1 : Int32} {h : Hp} {o : (Int32 × Hp)} (hf : f_X8_opensOne v0 v1 h = some o) : Calls X d 142 [.ref v0, .int v1] h (some (.int o.1), o.2) := by
  obtain ⟨d, rfl⟩ : ∃ z, d = z + 1 := ⟨d - 1, by omega⟩
  exact ⟨_, rfl, r_X8_opensOne_0 hd hf⟩
theorem i_X8_signOf_0 : fetch 144 0 = some (.aload_n 0, 1, 0, 0, 0, 0) := by decide +kernel
theorem i_X8_signOf_1 : fetch 144 1 = some (.getfield 146, 4, 8, 28, 0, 1037) := by decide +kernel
theorem i_X8_signOf_4 : fetch 144 4 = some (.iconst 4, 5, 0, 0, 0, 0) := by decide +kernel
theorem i_X8_signOf_5 : fetch 144 5 = some (.if_icmp .ne 8, 8, 0, 0, 0, 0) := by decide +kernel
theorem i_X8_signOf_8 : fetch 144 8 = some (.bipush 11, 10, 0, 0, 0, 0) := by decide +kernel
theorem i_X8_signOf_10 : fetch 144 10 = some (.goto 87, 13, 0, 0, 0, 0) := by decide +kernel
theorem i_X8_signOf_13 : fetch 144 13 = some (.aload_n 0, 14, 0, 0, 0, 0) := by decide +kernel
theorem i_X8_signOf_14 : fetch 144 14 = some (.getfield 146, 17, 8, 28, 0, 1037) := by decide +kernel
theorem i_X8_signOf_17 : fetch 144 17 = some (.iconst 5, 18, 0, 0, 0, 0) := by decide +kernel
theorem i_X8_signOf_18 : fetch 144 18 = some (.if_icmp .ne 8, 21, 0, 0, 0, 0) := by decide +kernel
theorem i_X8_signOf_21 : fetch 144 21 = some (.bipush 12, 23, 0, 0, 0, 0) := by decide +kernel
theorem i_X8_signOf_23 : fetch 144 23 = some (.goto 74, 26, 0, 0, 0, 0) := by decide +kernel
theorem i_X8_signOf_26 : fetch 144 26 = some (.aload_n 0, 27, 0, 0, 0, 0) := by decide +kernel
theorem i_X8_signOf_27 : fetch 144 27 = some (.getfield 146, 30, 8, 28, 0, 1037) := by decide +kernel
theorem i_X8_signOf_30 : fetch 144 30 = some (.bipush 60, 32, 0, 0, 0, 0) := by decide +kernel
theorem i_X8_signOf_32 : fetch 144 32 = some (.if_icmp .ne 8, 35, 0, 0, 0, 0) := by decide +kernel
theorem i_X8_signOf_35 : fetch 144 35 = some (.bipush 14, 37, 0, 0, 0, 0) := by decide +kernel
theorem i_X8_signOf_37 : fetch 144 37 = some (.goto 60, 40, 0, 0, 0, 0) := by decide +kernel
theorem i_X8_signOf_40 : fetch 144 40 = some (.aload_n 0, 41, 0, 0, 0, 0) := by decide +kernel
theorem i_X8_signOf_41 : fetch 144 41 = some (.getfield 146, 44, 8, 28, 0, 1037) := by decide +kernel
theorem i_X8_signOf_44 : fetch 144 44 = some (.bipush 61, 46, 0, 0, 0, 0) := by decide +kernel
theorem i_X8_signOf_46 : fetch 144 46 = some (.if_icmp .ne 8, 49, 0, 0, 0, 0) := by decide +kernel
theorem i_X8_signOf_49 : fetch 144 49 = some (.bipush 15, 51, 0, 0, 0, 0) := by decide +kernel
theorem i_X8_signOf_51 : fetch 144 51 = some (.goto 46, 54, 0, 0, 0, 0) := by decide +kernel
theorem i_X8_signOf_54 : fetch 144 54 = some (.aload_n 0, 55, 0, 0, 0, 0) := by decide +kernel
theorem i_X8_signOf_55 : fetch 144 55 = some (.getfield 146, 58, 8, 28, 0, 1037) := by decide +kernel
theorem i_X8_signOf_58 : fetch 144 58 = some (.bipush 43, 60, 0, 0, 0, 0) := by decide +kernel
theorem i_X8_signOf_60 : fetch 144 60 = some (.if_icmp .ne 8, 63, 0, 0, 0, 0) := by decide +kernel
theorem i_X8_signOf_63 : fetch 144 63 = some (.bipush 16, 65, 0, 0, 0, 0) := by decide +kernel
theorem i_X8_signOf_65 : fetch 144 65 = some (.goto 32, 68, 0, 0, 0, 0) := by decide +kernel
theorem i_X8_signOf_68 : fetch 144 68 = some (.aload_n 0, 69, 0, 0, 0, 0) := by decide +kernel
theorem i_X8_signOf_69 : fetch 144 69 = some (.getfield 146, 72, 8, 28, 0, 1037) := by decide +kernel
theorem i_X8_signOf_72 : fetch 144 72 = some (.bipush 45, 74, 0, 0, 0, 0) := by decide +kernel
theorem i_X8_signOf_74 : fetch 144 74 = some (.if_icmp .ne 8, 77, 0, 0, 0, 0) := by decide +kernel
theorem i_X8_signOf_77 : fetch 144 77 = some (.bipush 17, 79, 0, 0, 0, 0) := by decide +kernel
theorem i_X8_signOf_79 : fetch 144 79 = some (.goto 18, 82, 0, 0, 0, 0) := by decide +kernel
theorem i_X8_signOf_82 : fetch 144 82 = some (.aload_n 0, 83, 0, 0, 0, 0) := by decide +kernel
theorem i_X8_signOf_83 : fetch 144 83 = some (.getfield 146, 86, 8, 28, 0, 1037) := by decide +kernel
theorem i_X8_signOf_86 : fetch 144 86 = some (.bipush 42, 88, 0, 0, 0, 0) := by decide +kernel
theorem i_X8_signOf_88 : fetch 144 88 = some (.if_icmp .ne 8, 91, 0, 0, 0, 0) := by decide +kernel
theorem i_X8_signOf_91 : fetch 144 91 = some (.bipush 18, 93, 0, 0, 0, 0) := by decide +kernel
theorem i_X8_signOf_93 : fetch 144 93 = some (.goto 4, 96, 0, 0, 0, 0) := by decide +kernel
theorem i_X8_signOf_96 : fetch 144 96 = some (.iconst (-1), 97, 0, 0, 0, 0) := by decide +kernel
theorem i_X8_signOf_97 : fetch 144 97 = some (.ireturn, 98, 0, 0, 0, 0) := by decide +kernel
def f_X8_signOf_0 (v0 : Nat) (h : Hp) : Option (Int32 × Hp) :=
  if okO h v0 8 then
  if (gI h v0 28) ≠ 4 then
    if (gI h v0 28) ≠ 5 then
      if (gI h v0 28) ≠ 60 then
        if (gI h v0 28) ≠ 61 then
          if (gI h v0 28) ≠ 43 then
            if (gI h v0 28) ≠ 45 then
              if (gI h v0 28) ≠ 42 then
                some ((-1), h)
              else
                some (18, h)
            else
              some (17, h)
          else
            some (16, h)
        else
          some (15, h)
      else
        some (14, h)
    else
      some (12, h)
  else
    some (11, h)
  else none
set_option maxRecDepth 100000 in
set_option maxHeartbeats 4000000 in
theorem r_X8_signOf_0 {X : Nat → Int32} {d : Nat} (hd : 0 ≤ d) {v0 : Nat} {h : Hp} {o : (Int32 × Hp)} (hf : f_X8_signOf_0 v0 h = some o) : Run X d 144 0 [some (.ref v0)] [] h (some (.int o.1), o.2) := by
  unfold f_X8_signOf_0 at hf
  refine rs_aload_n i_X8_signOf_0 rfl ?_
  obtain ⟨c1, hf⟩ := ite_some hf
  refine rs_getI i_X8_signOf_1 (by decide) (by decide) c1 ?_
  refine rs_iconst i_X8_signOf_4 (v := 4) (by decide) ?_
  by_cases c2 : (gI h v0 28) ≠ 4
  · replace hf := (if_pos c2).symm.trans hf
    refine rs_icT i_X8_signOf_5 (ct_ne c2) (tg := 13) (by decide) ?_
    refine rs_aload_n i_X8_signOf_13 rfl ?_
    refine rs_getI i_X8_signOf_14 (by decide) (by decide) c1 ?_
    refine rs_iconst i_X8_signOf_17 (v := 5) (by decide) ?_
    by_cases c3 : (gI h v0 28) ≠ 5
    · replace hf := (if_pos c3).symm.trans hf
      refine rs_icT i_X8_signOf_18 (ct_ne c3) (tg := 26) (by decide) ?_
      refine rs_aload_n i_X8_signOf_26 rfl ?_
      refine rs_getI i_X8_signOf_27 (by decide) (by decide) c1 ?_
      refine rs_bipush i_X8_signOf_30 (v := 60) (by decide) ?_
      by_cases c4 : (gI h v0 28) ≠ 60
      · replace hf := (if_pos c4).symm.trans hf
        refine rs_icT i_X8_signOf_32 (ct_ne c4) (tg := 40) (by decide) ?_
        refine rs_aload_n i_X8_signOf_40 rfl ?_
        refine rs_getI i_X8_signOf_41 (by decide) (by decide) c1 ?_
        refine rs_bipush i_X8_signOf_44 (v := 61) (by decide) ?_
        by_cases c5 : (gI h v0 28) ≠ 61
        · replace hf := (if_pos c5).symm.trans hf
          refine rs_icT i_X8_signOf_46 (ct_ne c5) (tg := 54) (by decide) ?_
          refine rs_aload_n i_X8_signOf_54 rfl ?_
          refine rs_getI i_X8_signOf_55 (by decide) (by decide) c1 ?_
          refine rs_bipush i_X8_signOf_58 (v := 43) (by decide) ?_
          by_cases c6 : (gI h v0 28) ≠ 43
          · replace hf := (if_pos c6).symm.trans hf
            refine rs_icT i_X8_signOf_60 (ct_ne c6) (tg := 68) (by decide) ?_
            refine rs_aload_n i_X8_signOf_68 rfl ?_
            refine rs_getI i_X8_signOf_69 (by decide) (by decide) c1 ?_
            refine rs_bipush i_X8_signOf_72 (v := 45) (by decide) ?_
            by_cases c7 : (gI h v0 28) ≠ 45
            · replace hf := (if_pos c7).symm.trans hf
              refine rs_icT i_X8_signOf_74 (ct_ne c7) (tg := 82) (by decide) ?_
              refine rs_aload_n i_X8_signOf_82 rfl ?_
              refine rs_getI i_X8_signOf_83 (by decide) (by decide) c1 ?_
              refine rs_bipush i_X8_signOf_86 (v := 42) (by decide) ?_
              by_cases c8 : (gI h v0 28) ≠ 42
              · replace hf := (if_pos c8).symm.trans hf
                refine rs_icT i_X8_signOf_88 (ct_ne c8) (tg := 96) (by decide) ?_
                refine rs_iconst i_X8_signOf_96 (v := (-1)) (by decide) ?_
                have hf := Option.some.inj hf
                subst hf
                exact rs_iret i_X8_signOf_97 m_X8_signOf rfl
              · replace hf := (if_neg c8).symm.trans hf
                refine rs_icF i_X8_signOf_88 (cf_ne c8) ?_
                refine rs_bipush i_X8_signOf_91 (v := 18) (by decide) ?_
                refine rs_goto i_X8_signOf_93 (tg := 97) (by decide) ?_
                have hf := Option.some.inj hf
                subst hf
                exact rs_iret i_X8_signOf_97 m_X8_signOf rfl
            · replace hf := (if_neg c7).symm.trans hf
              refine rs_icF i_X8_signOf_74 (cf_ne c7) ?_
              refine rs_bipush i_X8_signOf_77 (v := 17) (by decide) ?_
              refine rs_goto i_X8_signOf_79 (tg := 97) (by decide) ?_
              have hf := Option.some.inj hf
              subst hf
              exact rs_iret i_X8_signOf_97 m_X8_signOf rfl
          · replace hf := (if_neg c6).symm.trans hf
            refine rs_icF i_X8_signOf_60 (cf_ne c6) ?_
            refine rs_bipush i_X8_signOf_63 (v := 16) (by decide) ?_
            refine rs_goto i_X8_signOf_65 (tg := 97) (by decide) ?_
            have hf := Option.some.inj hf
            subst hf
            exact rs_iret i_X8_signOf_97 m_X8_signOf rfl
        · replace hf := (if_neg c5).symm.trans hf
          refine rs_icF i_X8_signOf_46 (cf_ne c5) ?_
          refine rs_bipush i_X8_signOf_49 (v := 15) (by decide) ?_
          refine rs_goto i_X8_signOf_51 (tg := 97) (by decide) ?_
          have hf := Option.some.inj hf
          subst hf
          exact rs_iret i_X8_signOf_97 m_X8_signOf rfl
      · replace hf := (if_neg c4).symm.trans hf
        refine rs_icF i_X8_signOf_32 (cf_ne c4) ?_
        refine rs_bipush i_X8_signOf_35 (v := 14) (by decide) ?_
        refine rs_goto i_X8_signOf_37 (tg := 97) (by decide) ?_
        have hf := Option.some.inj hf
        subst hf
        exact rs_iret i_X8_signOf_97 m_X8_signOf rfl
    · replace hf := (if_neg c3).symm.trans hf
      refine rs_icF i_X8_signOf_18 (cf_ne c3) ?_
      refine rs_bipush i_X8_signOf_21 (v := 12) (by decide) ?_
      refine rs_goto i_X8_signOf_23 (tg := 97) (by decide) ?_
      have hf := Option.some.inj hf
      subst hf
      exact rs_iret i_X8_signOf_97 m_X8_signOf rfl
  · replace hf := (if_neg c2).symm.trans hf
    refine rs_icF i_X8_signOf_5 (cf_ne c2) ?_
    refine rs_bipush i_X8_signOf_8 (v := 11) (by decide) ?_
    refine rs_goto i_X8_signOf_10 (tg := 97) (by decide) ?_
    have hf := Option.some.inj hf
    subst hf
    exact rs_iret i_X8_signOf_97 m_X8_signOf rfl
def f_X8_signOf (v0 : Nat) (h : Hp) : Option (Int32 × Hp) := f_X8_signOf_0 v0 h
theorem c_X8_signOf {X : Nat → Int32} {d : Nat} (hd : 0 ≤ d) {v0 : Nat} {h : Hp} {o : (Int32 × Hp)} (hf : f_X8_signOf v0 h = some o) : Calls X d 144 [.ref v0] h (some (.int o.1), o.2) := by
  exact ⟨_, rfl, r_X8_signOf_0 hd hf⟩
theorem i_X8_eRead_0 : fetch 145 0 = some (.aload_n 0, 1, 0, 0, 0, 0) := by decide +kernel
theorem i_X8_eRead_1 : fetch 145 1 = some (.iconst 0, 2, 0, 0, 0, 0) := by decide +kernel
theorem i_X8_eRead_2 : fetch 145 2 = some (.putfield 159, 5, 8, 32, 0, 1041) := by decide +kernel
theorem i_X8_eRead_5 : fetch 145 5 = some (.aload_n 0, 6, 0, 0, 0, 0) := by decide +kernel
theorem i_X8_eRead_6 : fetch 145 6 = some (.iconst 0, 7, 0, 0, 0, 0) := by decide +kernel
theorem i_X8_eRead_7 : fetch 145 7 = some (.putfield 165, 10, 8, 33, 0, 1042) := by decide +kernel
theorem i_X8_eRead_10 : fetch 145 10 = some (.iconst 1, 11, 0, 0, 0, 0) := by decide +kernel
theorem i_X8_eRead_11 : fetch 145 11 = some (.istore_n 1, 12, 0, 0, 0, 0) := by decide +kernel
theorem i_X8_eRead_12 : fetch 145 12 = some (.iconst 1, 13, 0, 0, 0, 0) := by decide +kernel
theorem i_X8_eRead_13 : fetch 145 13 = some (.istore_n 2, 14, 0, 0, 0, 0) := by decide +kernel
theorem i_X8_eRead_14 : fetch 145 14 = some (.aload_n 0, 15, 0, 0, 0, 0) := by decide +kernel
theorem i_X8_eRead_15 : fetch 145 15 = some (.invokevirtual 178, 18, 137, 0, 0, 966) := by decide +kernel
theorem i_X8_eRead_18 : fetch 145 18 = some (.iload_n 1, 19, 0, 0, 0, 0) := by decide +kernel
theorem i_X8_eRead_19 : fetch 145 19 = some (.ifCond .eq 131, 22, 0, 0, 0, 0) := by decide +kernel
theorem i_X8_eRead_22 : fetch 145 22 = some (.aload_n 0, 23, 0, 0, 0, 0) := by decide +kernel
theorem i_X8_eRead_23 : fetch 145 23 = some (.getfield 146, 26, 8, 28, 0, 1037) := by decide +kernel
theorem i_X8_eRead_26 : fetch 145 26 = some (.iconst 1, 27, 0, 0, 0, 0) := by decide +kernel
theorem i_X8_eRead_27 : fetch 145 27 = some (.if_icmp .eq 11, 30, 0, 0, 0, 0) := by decide +kernel
theorem i_X8_eRead_30 : fetch 145 30 = some (.aload_n 0, 31, 0, 0, 0, 0) := by decide +kernel
theorem i_X8_eRead_31 : fetch 145 31 = some (.getfield 146, 34, 8, 28, 0, 1037) := by decide +kernel
theorem i_X8_eRead_34 : fetch 145 34 = some (.iconst 2, 35, 0, 0, 0, 0) := by decide +kernel
theorem i_X8_eRead_35 : fetch 145 35 = some (.if_icmp .ne 40, 38, 0, 0, 0, 0) := by decide +kernel
theorem i_X8_eRead_38 : fetch 145 38 = some (.aload_n 0, 39, 0, 0, 0, 0) := by decide +kernel
theorem i_X8_eRead_39 : fetch 145 39 = some (.aload_n 0, 40, 0, 0, 0, 0) := by decide +kernel
theorem i_X8_eRead_40 : fetch 145 40 = some (.getfield 146, 43, 8, 28, 0, 1037) := by decide +kernel
theorem i_X8_eRead_43 : fetch 145 43 = some (.iconst 1, 44, 0, 0, 0, 0) := by decide +kernel
theorem i_X8_eRead_44 : fetch 145 44 = some (.if_icmp .ne 13, 47, 0, 0, 0, 0) := by decide +kernel
theorem i_X8_eRead_47 : fetch 145 47 = some (.ldc 181, 49, 0, 0, 100000, 981) := by decide +kernel
theorem i_X8_eRead_49 : fetch 145 49 = some (.aload_n 0, 50, 0, 0, 0, 0) := by decide +kernel
theorem i_X8_eRead_50 : fetch 145 50 = some (.getfield 149, 53, 8, 29, 0, 1038) := by decide +kernel
theorem i_X8_eRead_53 : fetch 145 53 = some (.iadd, 54, 0, 0, 0, 0) := by decide +kernel
theorem i_X8_eRead_54 : fetch 145 54 = some (.goto 7, 57, 0, 0, 0, 0) := by decide +kernel
theorem i_X8_eRead_57 : fetch 145 57 = some (.aload_n 0, 58, 0, 0, 0, 0) := by decide +kernel
theorem i_X8_eRead_58 : fetch 145 58 = some (.getfield 149, 61, 8, 29, 0, 1038) := by decide +kernel
theorem i_X8_eRead_61 : fetch 145 61 = some (.invokevirtual 168, 64, 139, 0, 0, 982) := by decide +kernel
theorem i_X8_eRead_64 : fetch 145 64 = some (.aload_n 0, 65, 0, 0, 0, 0) := by decide +kernel
theorem i_X8_eRead_65 : fetch 145 65 = some (.bipush 7, 67, 0, 0, 0, 0) := by decide +kernel
theorem i_X8_eRead_67 : fetch 145 67 = some (.invokevirtual 175, 70, 140, 0, 0, 986) := by decide +kernel
theorem i_X8_eRead_70 : fetch 145 70 = some (.iconst 0, 71, 0, 0, 0, 0) := by decide +kernel
theorem i_X8_eRead_71 : fetch 145 71 = some (.istore_n 1, 72, 0, 0, 0, 0) := by decide +kernel
theorem i_X8_eRead_72 : fetch 145 72 = some (.goto (-58), 75, 0, 0, 0, 0) := by decide +kernel
theorem i_X8_eRead_75 : fetch 145 75 = some (.aload_n 0, 76, 0, 0, 0, 0) := by decide +kernel
theorem i_X8_eRead_76 : fetch 145 76 = some (.getfield 146, 79, 8, 28, 0, 1037) := by decide +kernel
theorem i_X8_eRead_79 : fetch 145 79 = some (.bipush 6, 81, 0, 0, 0, 0) := by decide +kernel
theorem i_X8_eRead_81 : fetch 145 81 = some (.if_icmp .ne 18, 84, 0, 0, 0, 0) := by decide +kernel
theorem i_X8_eRead_84 : fetch 145 84 = some (.iload_n 2, 85, 0, 0, 0, 0) := by decide +kernel
theorem i_X8_eRead_85 : fetch 145 85 = some (.ifCond .eq 14, 88, 0, 0, 0, 0) := by decide +kernel
theorem i_X8_eRead_88 : fetch 145 88 = some (.aload_n 0, 89, 0, 0, 0, 0) := by decide +kernel
theorem i_X8_eRead_89 : fetch 145 89 = some (.bipush 13, 91, 0, 0, 0, 0) := by decide +kernel
theorem i_X8_eRead_91 : fetch 145 91 = some (.invokevirtual 182, 94, 142, 0, 0, 993) := by decide +kernel
theorem i_X8_eRead_94 : fetch 145 94 = some (.ifCond .ne (-80), 97, 0, 0, 0, 0) := by decide +kernel
theorem i_X8_eRead_97 : fetch 145 97 = some (.iconst 0, 98, 0, 0, 0, 0) := by decide +kernel
theorem i_X8_eRead_98 : fetch 145 98 = some (.ireturn, 99, 0, 0, 0, 0) := by decide +kernel
theorem i_X8_eRead_99 : fetch 145 99 = some (.aload_n 0, 100, 0, 0, 0, 0) := by decide +kernel
theorem i_X8_eRead_100 : fetch 145 100 = some (.getfield 146, 103, 8, 28, 0, 1037) := by decide +kernel
theorem i_X8_eRead_103 : fetch 145 103 = some (.bipush 45, 105, 0, 0, 0, 0) := by decide +kernel
theorem i_X8_eRead_105 : fetch 145 105 = some (.if_icmp .ne 19, 108, 0, 0, 0, 0) := by decide +kernel
theorem i_X8_eRead_108 : fetch 145 108 = some (.aload_n 0, 109, 0, 0, 0, 0) := by decide +kernel
theorem i_X8_eRead_109 : fetch 145 109 = some (.bipush 19, 111, 0, 0, 0, 0) := by decide +kernel
theorem i_X8_eRead_111 : fetch 145 111 = some (.invokevirtual 182, 114, 142, 0, 0, 993) := by decide +kernel
theorem i_X8_eRead_114 : fetch 145 114 = some (.ifCond .ne 5, 117, 0, 0, 0, 0) := by decide +kernel
theorem i_X8_eRead_117 : fetch 145 117 = some (.iconst 0, 118, 0, 0, 0, 0) := by decide +kernel
theorem i_X8_eRead_118 : fetch 145 118 = some (.ireturn, 119, 0, 0, 0, 0) := by decide +kernel
theorem i_X8_eRead_119 : fetch 145 119 = some (.iconst 0, 120, 0, 0, 0, 0) := by decide +kernel
theorem i_X8_eRead_120 : fetch 145 120 = some (.istore_n 2, 121, 0, 0, 0, 0) := by decide +kernel
theorem i_X8_eRead_121 : fetch 145 121 = some (.goto (-107), 124, 0, 0, 0, 0) := by decide +kernel
theorem i_X8_eRead_124 : fetch 145 124 = some (.aload_n 0, 125, 0, 0, 0, 0) := by decide +kernel
theorem i_X8_eRead_125 : fetch 145 125 = some (.getfield 146, 128, 8, 28, 0, 1037) := by decide +kernel
theorem i_X8_eRead_128 : fetch 145 128 = some (.bipush 40, 130, 0, 0, 0, 0) := by decide +kernel
theorem i_X8_eRead_130 : fetch 145 130 = some (.if_icmp .ne 18, 133, 0, 0, 0, 0) := by decide +kernel
theorem i_X8_eRead_133 : fetch 145 133 = some (.aload_n 0, 134, 0, 0, 0, 0) := by decide +kernel
theorem i_X8_eRead_134 : fetch 145 134 = some (.iconst 0, 135, 0, 0, 0, 0) := by decide +kernel
theorem i_X8_eRead_135 : fetch 145 135 = some (.invokevirtual 182, 138, 142, 0, 0, 993) := by decide +kernel
theorem i_X8_eRead_138 : fetch 145 138 = some (.ifCond .ne 5, 141, 0, 0, 0, 0) := by decide +kernel
theorem i_X8_eRead_141 : fetch 145 141 = some (.iconst 0, 142, 0, 0, 0, 0) := by decide +kernel
theorem i_X8_eRead_142 : fetch 145 142 = some (.ireturn, 143, 0, 0, 0, 0) := by decide +kernel
theorem i_X8_eRead_143 : fetch 145 143 = some (.iconst 1, 144, 0, 0, 0, 0) := by decide +kernel
theorem i_X8_eRead_144 : fetch 145 144 = some (.istore_n 2, 145, 0, 0, 0, 0) := by decide +kernel
theorem i_X8_eRead_145 : fetch 145 145 = some (.goto (-131), 148, 0, 0, 0, 0) := by decide +kernel
theorem i_X8_eRead_148 : fetch 145 148 = some (.iconst 0, 149, 0, 0, 0, 0) := by decide +kernel
theorem i_X8_eRead_149 : fetch 145 149 = some (.ireturn, 150, 0, 0, 0, 0) := by decide +kernel
theorem i_X8_eRead_150 : fetch 145 150 = some (.aload_n 0, 151, 0, 0, 0, 0) := by decide +kernel
theorem i_X8_eRead_151 : fetch 145 151 = some (.getfield 146, 154, 8, 28, 0, 1037) := by decide +kernel
theorem i_X8_eRead_154 : fetch 145 154 = some (.bipush 59, 156, 0, 0, 0, 0) := by decide +kernel
theorem i_X8_eRead_156 : fetch 145 156 = some (.if_icmp .ne 21, 159, 0, 0, 0, 0) := by decide +kernel
theorem i_X8_eRead_159 : fetch 145 159 = some (.aload_n 0, 160, 0, 0, 0, 0) := by decide +kernel
theorem i_X8_eRead_160 : fetch 145 160 = some (.iconst 1, 161, 0, 0, 0, 0) := by decide +kernel
theorem i_X8_eRead_161 : fetch 145 161 = some (.invokevirtual 175, 164, 140, 0, 0, 986) := by decide +kernel
theorem i_X8_eRead_164 : fetch 145 164 = some (.aload_n 0, 165, 0, 0, 0, 0) := by decide +kernel
theorem i_X8_eRead_165 : fetch 145 165 = some (.getfield 159, 168, 8, 32, 0, 1041) := by decide +kernel
theorem i_X8_eRead_168 : fetch 145 168 = some (.ifCond .ne 7, 171, 0, 0, 0, 0) := by decide +kernel
theorem i_X8_eRead_171 : fetch 145 171 = some (.iconst 1, 172, 0, 0, 0, 0) := by decide +kernel
theorem i_X8_eRead_172 : fetch 145 172 = some (.goto 4, 175, 0, 0, 0, 0) := by decide +kernel
theorem i_X8_eRead_175 : fetch 145 175 = some (.iconst 0, 176, 0, 0, 0, 0) := by decide +kernel
theorem i_X8_eRead_176 : fetch 145 176 = some (.ireturn, 177, 0, 0, 0, 0) := by decide +kernel
theorem i_X8_eRead_177 : fetch 145 177 = some (.aload_n 0, 178, 0, 0, 0, 0) := by decide +kernel
theorem i_X8_eRead_178 : fetch 145 178 = some (.getfield 146, 181, 8, 28, 0, 1037) := by decide +kernel
theorem i_X8_eRead_181 : fetch 145 181 = some (.bipush 41, 183, 0, 0, 0, 0) := by decide +kernel
theorem i_X8_eRead_183 : fetch 145 183 = some (.if_icmp .ne 46, 186, 0, 0, 0, 0) := by decide +kernel
theorem i_X8_eRead_186 : fetch 145 186 = some (.aload_n 0, 187, 0, 0, 0, 0) := by decide +kernel
theorem i_X8_eRead_187 : fetch 145 187 = some (.iconst 1, 188, 0, 0, 0, 0) := by decide +kernel
theorem i_X8_eRead_188 : fetch 145 188 = some (.invokevirtual 175, 191, 140, 0, 0, 986) := by decide +kernel
theorem i_X8_eRead_191 : fetch 145 191 = some (.aload_n 0, 192, 0, 0, 0, 0) := by decide +kernel
theorem i_X8_eRead_192 : fetch 145 192 = some (.getfield 159, 195, 8, 32, 0, 1041) := by decide +kernel
theorem i_X8_eRead_195 : fetch 145 195 = some (.ifCond .ne 5, 198, 0, 0, 0, 0) := by decide +kernel
theorem i_X8_eRead_198 : fetch 145 198 = some (.iconst 0, 199, 0, 0, 0, 0) := by decide +kernel
theorem i_X8_eRead_199 : fetch 145 199 = some (.ireturn, 200, 0, 0, 0, 0) := by decide +kernel
theorem i_X8_eRead_200 : fetch 145 200 = some (.aload_n 0, 201, 0, 0, 0, 0) := by decide +kernel
theorem i_X8_eRead_201 : fetch 145 201 = some (.dup, 202, 0, 0, 0, 0) := by decide +kernel
theorem i_X8_eRead_202 : fetch 145 202 = some (.getfield 159, 205, 8, 32, 0, 1041) := by decide +kernel
theorem i_X8_eRead_205 : fetch 145 205 = some (.iconst 1, 206, 0, 0, 0, 0) := by decide +kernel
theorem i_X8_eRead_206 : fetch 145 206 = some (.isub, 207, 0, 0, 0, 0) := by decide +kernel
theorem i_X8_eRead_207 : fetch 145 207 = some (.putfield 159, 210, 8, 32, 0, 1041) := by decide +kernel
theorem i_X8_eRead_210 : fetch 145 210 = some (.aload_n 0, 211, 0, 0, 0, 0) := by decide +kernel
theorem i_X8_eRead_211 : fetch 145 211 = some (.dup, 212, 0, 0, 0, 0) := by decide +kernel
theorem i_X8_eRead_212 : fetch 145 212 = some (.getfield 165, 215, 8, 33, 0, 1042) := by decide +kernel
theorem i_X8_eRead_215 : fetch 145 215 = some (.iconst 1, 216, 0, 0, 0, 0) := by decide +kernel
theorem i_X8_eRead_216 : fetch 145 216 = some (.isub, 217, 0, 0, 0, 0) := by decide +kernel
theorem i_X8_eRead_217 : fetch 145 217 = some (.putfield 165, 220, 8, 33, 0, 1042) := by decide +kernel
theorem i_X8_eRead_220 : fetch 145 220 = some (.aload_n 0, 221, 0, 0, 0, 0) := by decide +kernel
theorem i_X8_eRead_221 : fetch 145 221 = some (.bipush 7, 223, 0, 0, 0, 0) := by decide +kernel
theorem i_X8_eRead_223 : fetch 145 223 = some (.invokevirtual 175, 226, 140, 0, 0, 986) := by decide +kernel
theorem i_X8_eRead_226 : fetch 145 226 = some (.goto (-212), 229, 0, 0, 0, 0) := by decide +kernel
theorem i_X8_eRead_229 : fetch 145 229 = some (.aload_n 0, 230, 0, 0, 0, 0) := by decide +kernel
theorem i_X8_eRead_230 : fetch 145 230 = some (.invokevirtual 185, 233, 144, 0, 0, 1001) := by decide +kernel
theorem i_X8_eRead_233 : fetch 145 233 = some (.istore_n 3, 234, 0, 0, 0, 0) := by decide +kernel
theorem i_X8_eRead_234 : fetch 145 234 = some (.iload_n 3, 235, 0, 0, 0, 0) := by decide +kernel
theorem i_X8_eRead_235 : fetch 145 235 = some (.iconst (-1), 236, 0, 0, 0, 0) := by decide +kernel
theorem i_X8_eRead_236 : fetch 145 236 = some (.if_icmp .eq 11, 239, 0, 0, 0, 0) := by decide +kernel
theorem i_X8_eRead_239 : fetch 145 239 = some (.aload_n 0, 240, 0, 0, 0, 0) := by decide +kernel
theorem i_X8_eRead_240 : fetch 145 240 = some (.iload_n 3, 241, 0, 0, 0, 0) := by decide +kernel
theorem i_X8_eRead_241 : fetch 145 241 = some (.invokevirtual 188, 244, 143, 0, 0, 1005) := by decide +kernel
theorem i_X8_eRead_244 : fetch 145 244 = some (.ifCond .ne 5, 247, 0, 0, 0, 0) := by decide +kernel
theorem i_X8_eRead_247 : fetch 145 247 = some (.iconst 0, 248, 0, 0, 0, 0) := by decide +kernel
theorem i_X8_eRead_248 : fetch 145 248 = some (.ireturn, 249, 0, 0, 0, 0) := by decide +kernel
theorem i_X8_eRead_249 : fetch 145 249 = some (.iconst 1, 250, 0, 0, 0, 0) := by decide +kernel
theorem i_X8_eRead_250 : fetch 145 250 = some (.istore_n 1, 251, 0, 0, 0, 0) := by decide +kernel
theorem i_X8_eRead_251 : fetch 145 251 = some (.iload_n 3, 252, 0, 0, 0, 0) := by decide +kernel
theorem i_X8_eRead_252 : fetch 145 252 = some (.bipush 12, 254, 0, 0, 0, 0) := by decide +kernel
theorem i_X8_eRead_254 : fetch 145 254 = some (.if_icmp .gt 7, 257, 0, 0, 0, 0) := by decide +kernel
theorem i_X8_eRead_257 : fetch 145 257 = some (.iconst 1, 258, 0, 0, 0, 0) := by decide +kernel
theorem i_X8_eRead_258 : fetch 145 258 = some (.goto 4, 261, 0, 0, 0, 0) := by decide +kernel
theorem i_X8_eRead_261 : fetch 145 261 = some (.iconst 0, 262, 0, 0, 0, 0) := by decide +kernel
theorem i_X8_eRead_262 : fetch 145 262 = some (.istore_n 2, 263, 0, 0, 0, 0) := by decide +kernel
theorem i_X8_eRead_263 : fetch 145 263 = some (.goto (-249), 266, 0, 0, 0, 0) := by decide +kernel
def f_X8_eRead_262 (n : Nat) (K14 : Nat → Int32 → Int32 → Hp → Option (Int32 × Hp)) (v0 : Nat) (v1 : Int32) (s0 : Int32) (h : Hp) : Option (Int32 × Hp) :=
  K14 v0 v1 s0 h
set_option maxRecDepth 100000 in
set_option maxHeartbeats 4000000 in
theorem r_X8_eRead_262 {X : Nat → Int32} {d : Nat} (hd : 3 ≤ (d + 1)) {n : Nat} {K14 : Nat → Int32 → Int32 → Hp → Option (Int32 × Hp)} (HK14 : ∀ (v0 : Nat) (v1 : Int32) (v2 : Int32) (w3 : Option Value) (h : Hp) (o : (Int32 × Hp)), K14 v0 v1 v2 h = some o → Run X (d + 1) 145 14 [some (.ref v0), some (.int v1), some (.int v2), w3] [] h (some (.int o.1), o.2)) {v0 : Nat} {v1 : Int32} {s0 : Int32} {d2 : Int32} {d3 : Int32} {h : Hp} {o : (Int32 × Hp)} (hf : f_X8_eRead_262 n K14 v0 v1 s0 h = some o) : Run X (d + 1) 145 262 [some (.ref v0), some (.int v1), some (.int d2), some (.int d3)] [.int s0] h (some (.int o.1), o.2) := by
  unfold f_X8_eRead_262 at hf
  refine rs_istore_n i_X8_eRead_262 (Nat.le_of_ble_eq_true rfl) (lv' := [some (.ref v0), some (.int v1), some (.int s0), some (.int d3)]) rfl ?_
  refine rs_goto i_X8_eRead_263 (tg := 14) (by decide) ?_
  exact HK14 _ _ _ _ _ _ hf
def f_X8_eRead_220 (n : Nat) (K14 : Nat → Int32 → Int32 → Hp → Option (Int32 × Hp)) (v0 : Nat) (v1 : Int32) (v2 : Int32) (h : Hp) : Option (Int32 × Hp) :=
  if okO h v0 8 then
  (f_X8_unwinds n v0 7 h).bind fun o1 =>
  K14 v0 v1 v2 o1
  else none
set_option maxRecDepth 100000 in
set_option maxHeartbeats 4000000 in
theorem r_X8_eRead_220 {X : Nat → Int32} {d : Nat} (hd : 3 ≤ (d + 1)) {n : Nat} {K14 : Nat → Int32 → Int32 → Hp → Option (Int32 × Hp)} (HK14 : ∀ (v0 : Nat) (v1 : Int32) (v2 : Int32) (w3 : Option Value) (h : Hp) (o : (Int32 × Hp)), K14 v0 v1 v2 h = some o → Run X (d + 1) 145 14 [some (.ref v0), some (.int v1), some (.int v2), w3] [] h (some (.int o.1), o.2)) {v0 : Nat} {v1 : Int32} {v2 : Int32} {w3 : Option Value} {h : Hp} {o : (Int32 × Hp)} (hf : f_X8_eRead_220 n K14 v0 v1 v2 h = some o) : Run X (d + 1) 145 220 [some (.ref v0), some (.int v1), some (.int v2), w3] [] h (some (.int o.1), o.2) := by
  unfold f_X8_eRead_220 at hf
  refine rs_aload_n i_X8_eRead_220 rfl ?_
  refine rs_bipush i_X8_eRead_221 (v := 7) (by decide) ?_
  obtain ⟨c2, hf⟩ := ite_some hf
  obtain ⟨o1, e1, hf⟩ := bind_some hf
  refine rs_inV i_X8_eRead_223 m_X8_unwinds rfl (As := [.int 7]) (rest := []) rfl rfl (Nat.le_of_ble_eq_true rfl) c2 (c_X8_unwinds (by omega) e1) (st' := []) rfl ?_
  refine rs_goto i_X8_eRead_226 (tg := 14) (by decide) ?_
  exact HK14 _ _ _ _ _ _ hf
def f_X8_eRead_210 (n : Nat) (K14 : Nat → Int32 → Int32 → Hp → Option (Int32 × Hp)) (v0 : Nat) (v1 : Int32) (v2 : Int32) (h : Hp) : Option (Int32 × Hp) :=
  if okO h v0 8 then
  f_X8_eRead_220 n K14 v0 v1 v2 (hsi h v0 33 ((gI h v0 33) - 1))
  else none
set_option maxRecDepth 100000 in
set_option maxHeartbeats 4000000 in
theorem r_X8_eRead_210 {X : Nat → Int32} {d : Nat} (hd : 3 ≤ (d + 1)) {n : Nat} {K14 : Nat → Int32 → Int32 → Hp → Option (Int32 × Hp)} (HK14 : ∀ (v0 : Nat) (v1 : Int32) (v2 : Int32) (w3 : Option Value) (h : Hp) (o : (Int32 × Hp)), K14 v0 v1 v2 h = some o → Run X (d + 1) 145 14 [some (.ref v0), some (.int v1), some (.int v2), w3] [] h (some (.int o.1), o.2)) {v0 : Nat} {v1 : Int32} {v2 : Int32} {w3 : Option Value} {h : Hp} {o : (Int32 × Hp)} (hf : f_X8_eRead_210 n K14 v0 v1 v2 h = some o) : Run X (d + 1) 145 210 [some (.ref v0), some (.int v1), some (.int v2), w3] [] h (some (.int o.1), o.2) := by
  unfold f_X8_eRead_210 at hf
  refine rs_aload_n i_X8_eRead_210 rfl ?_
  refine rs_dup i_X8_eRead_211 rfl ?_
  obtain ⟨c1, hf⟩ := ite_some hf
  refine rs_getI i_X8_eRead_212 (by decide) (by decide) c1 ?_
  refine rs_iconst i_X8_eRead_215 (v := 1) (by decide) ?_
  refine rs_isub i_X8_eRead_216 ?_
  refine rs_putI i_X8_eRead_217 (by decide) c1 ?_
  exact r_X8_eRead_220 hd HK14 hf
def f_X8_eRead_99 (n : Nat) (K14 : Nat → Int32 → Int32 → Hp → Option (Int32 × Hp)) (v0 : Nat) (v1 : Int32) (h : Hp) : Option (Int32 × Hp) :=
  if okO h v0 8 then
  if (gI h v0 28) ≠ 45 then
    if (gI h v0 28) ≠ 40 then
      some (0, h)
    else
      (f_X8_opensOne v0 0 h).bind fun o4 =>
      if o4.1 ≠ 0 then
        K14 v0 v1 1 o4.2
      else
        some (0, o4.2)
  else
    (f_X8_opensOne v0 19 h).bind fun o6 =>
    if o6.1 ≠ 0 then
      K14 v0 v1 0 o6.2
    else
      some (0, o6.2)
  else none
set_option maxRecDepth 100000 in
set_option maxHeartbeats 4000000 in
theorem r_X8_eRead_99 {X : Nat → Int32} {d : Nat} (hd : 3 ≤ (d + 1)) {n : Nat} {K14 : Nat → Int32 → Int32 → Hp → Option (Int32 × Hp)} (HK14 : ∀ (v0 : Nat) (v1 : Int32) (v2 : Int32) (w3 : Option Value) (h : Hp) (o : (Int32 × Hp)), K14 v0 v1 v2 h = some o → Run X (d + 1) 145 14 [some (.ref v0), some (.int v1), some (.int v2), w3] [] h (some (.int o.1), o.2)) {v0 : Nat} {v1 : Int32} {d2 : Int32} {w3 : Option Value} {h : Hp} {o : (Int32 × Hp)} (hf : f_X8_eRead_99 n K14 v0 v1 h = some o) : Run X (d + 1) 145 99 [some (.ref v0), some (.int v1), some (.int d2), w3] [] h (some (.int o.1), o.2) := by
  unfold f_X8_eRead_99 at hf
  refine rs_aload_n i_X8_eRead_99 rfl ?_
  obtain ⟨c1, hf⟩ := ite_some hf
  refine rs_getI i_X8_eRead_100 (by decide) (by decide) c1 ?_
  refine rs_bipush i_X8_eRead_103 (v := 45) (by decide) ?_
  by_cases c2 : (gI h v0 28) ≠ 45
  · replace hf := (if_pos c2).symm.trans hf
    refine rs_icT i_X8_eRead_105 (ct_ne c2) (tg := 124) (by decide) ?_
    refine rs_aload_n i_X8_eRead_124 rfl ?_
    refine rs_getI i_X8_eRead_125 (by decide) (by decide) c1 ?_
    refine rs_bipush i_X8_eRead_128 (v := 40) (by decide) ?_
    by_cases c3 : (gI h v0 28) ≠ 40
    · replace hf := (if_pos c3).symm.trans hf
      refine rs_icT i_X8_eRead_130 (ct_ne c3) (tg := 148) (by decide) ?_
      refine rs_iconst i_X8_eRead_148 (v := 0) (by decide) ?_
      have hf := Option.some.inj hf
      subst hf
      exact rs_iret i_X8_eRead_149 m_X8_eRead (by decide)
    · replace hf := (if_neg c3).symm.trans hf
      refine rs_icF i_X8_eRead_130 (cf_ne c3) ?_
      refine rs_aload_n i_X8_eRead_133 rfl ?_
      refine rs_iconst i_X8_eRead_134 (v := 0) (by decide) ?_
      obtain ⟨o4, e4, hf⟩ := bind_some hf
      refine rs_inV i_X8_eRead_135 m_X8_opensOne rfl (As := [.int 0]) (rest := []) rfl rfl (Nat.le_of_ble_eq_true rfl) c1 (c_X8_opensOne (by omega) e4) (st' := [.int o4.1]) rfl ?_
      by_cases c5 : o4.1 ≠ 0
      · replace hf := (if_pos c5).symm.trans hf
        refine rs_ifT i_X8_eRead_138 (ct_ne c5) (tg := 143) (by decide) ?_
        refine rs_iconst i_X8_eRead_143 (v := 1) (by decide) ?_
        refine rs_istore_n i_X8_eRead_144 (Nat.le_of_ble_eq_true rfl) (lv' := [some (.ref v0), some (.int v1), some (.int 1), w3]) rfl ?_
        refine rs_goto i_X8_eRead_145 (tg := 14) (by decide) ?_
        exact HK14 _ _ _ _ _ _ hf
      · replace hf := (if_neg c5).symm.trans hf
        refine rs_ifF i_X8_eRead_138 (cf_ne c5) ?_
        refine rs_iconst i_X8_eRead_141 (v := 0) (by decide) ?_
        have hf := Option.some.inj hf
        subst hf
        exact rs_iret i_X8_eRead_142 m_X8_eRead (by decide)
  · replace hf := (if_neg c2).symm.trans hf
    refine rs_icF i_X8_eRead_105 (cf_ne c2) ?_
    refine rs_aload_n i_X8_eRead_108 rfl ?_
    refine rs_bipush i_X8_eRead_109 (v := 19) (by decide) ?_
    obtain ⟨o6, e6, hf⟩ := bind_some hf
    refine rs_inV i_X8_eRead_111 m_X8_opensOne rfl (As := [.int 19]) (rest := []) rfl rfl (Nat.le_of_ble_eq_true rfl) c1 (c_X8_opensOne (by omega) e6) (st' := [.int o6.1]) rfl ?_
    by_cases c7 : o6.1 ≠ 0
    · replace hf := (if_pos c7).symm.trans hf
      refine rs_ifT i_X8_eRead_114 (ct_ne c7) (tg := 119) (by decide) ?_
      refine rs_iconst i_X8_eRead_119 (v := 0) (by decide) ?_
      refine rs_istore_n i_X8_eRead_120 (Nat.le_of_ble_eq_true rfl) (lv' := [some (.ref v0), some (.int v1), some (.int 0), w3]) rfl ?_
      refine rs_goto i_X8_eRead_121 (tg := 14) (by decide) ?_
      exact HK14 _ _ _ _ _ _ hf
    · replace hf := (if_neg c7).symm.trans hf
      refine rs_ifF i_X8_eRead_114 (cf_ne c7) ?_
      refine rs_iconst i_X8_eRead_117 (v := 0) (by decide) ?_
      have hf := Option.some.inj hf
      subst hf
      exact rs_iret i_X8_eRead_118 m_X8_eRead (by decide)
def f_X8_eRead_61 (n : Nat) (K14 : Nat → Int32 → Int32 → Hp → Option (Int32 × Hp)) (v0 : Nat) (v2 : Int32) (s0 : Nat) (s1 : Int32) (h : Hp) : Option (Int32 × Hp) :=
  if okO h s0 8 then
  (f_X8_puts s0 s1 h).bind fun o1 =>
  if okO o1 v0 8 then
  (f_X8_unwinds n v0 7 o1).bind fun o3 =>
  K14 v0 0 v2 o3
  else none
  else none
set_option maxRecDepth 100000 in
set_option maxHeartbeats 4000000 in
theorem r_X8_eRead_61 {X : Nat → Int32} {d : Nat} (hd : 3 ≤ (d + 1)) {n : Nat} {K14 : Nat → Int32 → Int32 → Hp → Option (Int32 × Hp)} (HK14 : ∀ (v0 : Nat) (v1 : Int32) (v2 : Int32) (w3 : Option Value) (h : Hp) (o : (Int32 × Hp)), K14 v0 v1 v2 h = some o → Run X (d + 1) 145 14 [some (.ref v0), some (.int v1), some (.int v2), w3] [] h (some (.int o.1), o.2)) {v0 : Nat} {v2 : Int32} {s0 : Nat} {s1 : Int32} {d1 : Int32} {w3 : Option Value} {h : Hp} {o : (Int32 × Hp)} (hf : f_X8_eRead_61 n K14 v0 v2 s0 s1 h = some o) : Run X (d + 1) 145 61 [some (.ref v0), some (.int d1), some (.int v2), w3] [.int s1, .ref s0] h (some (.int o.1), o.2) := by
  unfold f_X8_eRead_61 at hf
  obtain ⟨c2, hf⟩ := ite_some hf
  obtain ⟨o1, e1, hf⟩ := bind_some hf
  refine rs_inV i_X8_eRead_61 m_X8_puts rfl (As := [.int s1]) (rest := []) rfl rfl (Nat.le_of_ble_eq_true rfl) c2 (c_X8_puts (by omega) e1) (st' := []) rfl ?_
  refine rs_aload_n i_X8_eRead_64 rfl ?_
  refine rs_bipush i_X8_eRead_65 (v := 7) (by decide) ?_
  obtain ⟨c4, hf⟩ := ite_some hf
  obtain ⟨o3, e3, hf⟩ := bind_some hf
  refine rs_inV i_X8_eRead_67 m_X8_unwinds rfl (As := [.int 7]) (rest := []) rfl rfl (Nat.le_of_ble_eq_true rfl) c4 (c_X8_unwinds (by omega) e3) (st' := []) rfl ?_
  refine rs_iconst i_X8_eRead_70 (v := 0) (by decide) ?_
  refine rs_istore_n i_X8_eRead_71 (Nat.le_of_ble_eq_true rfl) (lv' := [some (.ref v0), some (.int 0), some (.int v2), w3]) rfl ?_
  refine rs_goto i_X8_eRead_72 (tg := 14) (by decide) ?_
  exact HK14 _ _ _ _ _ _ hf
def f_X8_eRead_38 (n : Nat) (K14 : Nat → Int32 → Int32 → Hp → Option (Int32 × Hp)) (v0 : Nat) (v2 : Int32) (h : Hp) : Option (Int32 × Hp) :=
  if okO h v0 8 then
  if (gI h v0 28) ≠ 1 then
    f_X8_eRead_61 n K14 v0 v2 v0 (gI h v0 29) h
  else
    f_X8_eRead_61 n K14 v0 v2 v0 (100000 + (gI h v0 29)) h
  else none
set_option maxRecDepth 100000 in
set_option maxHeartbeats 4000000 in
theorem r_X8_eRead_38 {X : Nat → Int32} {d : Nat} (hd : 3 ≤ (d + 1)) {n : Nat} {K14 : Nat → Int32 → Int32 → Hp → Option (Int32 × Hp)} (HK14 : ∀ (v0 : Nat) (v1 : Int32) (v2 : Int32) (w3 : Option Value) (h : Hp) (o : (Int32 × Hp)), K14 v0 v1 v2 h = some o → Run X (d + 1) 145 14 [some (.ref v0), some (.int v1), some (.int v2), w3] [] h (some (.int o.1), o.2)) {v0 : Nat} {v2 : Int32} {d1 : Int32} {w3 : Option Value} {h : Hp} {o : (Int32 × Hp)} (hf : f_X8_eRead_38 n K14 v0 v2 h = some o) : Run X (d + 1) 145 38 [some (.ref v0), some (.int d1), some (.int v2), w3] [] h (some (.int o.1), o.2) := by
  unfold f_X8_eRead_38 at hf
  refine rs_aload_n i_X8_eRead_38 rfl ?_
  refine rs_aload_n i_X8_eRead_39 rfl ?_
  obtain ⟨c1, hf⟩ := ite_some hf
  refine rs_getI i_X8_eRead_40 (by decide) (by decide) c1 ?_
  refine rs_iconst i_X8_eRead_43 (v := 1) (by decide) ?_
  by_cases c2 : (gI h v0 28) ≠ 1
  · replace hf := (if_pos c2).symm.trans hf
    refine rs_icT i_X8_eRead_44 (ct_ne c2) (tg := 57) (by decide) ?_
    refine rs_aload_n i_X8_eRead_57 rfl ?_
    refine rs_getI i_X8_eRead_58 (by decide) (by decide) c1 ?_
    exact r_X8_eRead_61 hd HK14 hf
  · replace hf := (if_neg c2).symm.trans hf
    refine rs_icF i_X8_eRead_44 (cf_ne c2) ?_
    refine rs_ldc i_X8_eRead_47 (v := 100000) (by decide) ?_
    refine rs_aload_n i_X8_eRead_49 rfl ?_
    refine rs_getI i_X8_eRead_50 (by decide) (by decide) c1 ?_
    refine rs_iadd i_X8_eRead_53 ?_
    refine rs_goto i_X8_eRead_54 (tg := 61) (by decide) ?_
    exact r_X8_eRead_61 hd HK14 hf
def f_X8_eRead_14 (n : Nat) : Nat → Nat → Int32 → Int32 → Hp → Option (Int32 × Hp)
  | 0, _, _, _, _ => none
  | m + 1, v0, v1, v2, h =>
    if okO h v0 8 then
    (f_X8_next n v0 h).bind fun o1 =>
    if v1 = 0 then
      if okO o1 v0 8 then
      if (gI o1 v0 28) ≠ 59 then
        if (gI o1 v0 28) ≠ 41 then
          (f_X8_signOf v0 o1).bind fun o7 =>
          if o7.1 = (-1) then
            some (0, o7.2)
          else
            if okO o7.2 v0 8 then
            (f_X8_between n v0 o7.1 o7.2).bind fun o9 =>
            if o9.1 ≠ 0 then
              if 12 < o7.1 then
                f_X8_eRead_262 n (f_X8_eRead_14 n m) v0 1 0 o9.2
              else
                f_X8_eRead_262 n (f_X8_eRead_14 n m) v0 1 1 o9.2
            else
              some (0, o9.2)
            else none
        else
          (f_X8_unwinds n v0 1 o1).bind fun o13 =>
          if okO o13 v0 8 then
          if (gI o13 v0 32) ≠ 0 then
            f_X8_eRead_210 n (f_X8_eRead_14 n m) v0 v1 v2 (hsi o13 v0 32 ((gI o13 v0 32) - 1))
          else
            some (0, o13)
          else none
      else
        (f_X8_unwinds n v0 1 o1).bind fun o16 =>
        if okO o16 v0 8 then
        if (gI o16 v0 32) ≠ 0 then
          some (0, o16)
        else
          some (1, o16)
        else none
      else none
    else
      if okO o1 v0 8 then
      if (gI o1 v0 28) = 1 then
        f_X8_eRead_38 n (f_X8_eRead_14 n m) v0 v2 o1
      else
        if (gI o1 v0 28) ≠ 2 then
          if (gI o1 v0 28) ≠ 6 then
            f_X8_eRead_99 n (f_X8_eRead_14 n m) v0 v1 o1
          else
            if v2 = 0 then
              f_X8_eRead_99 n (f_X8_eRead_14 n m) v0 v1 o1
            else
              (f_X8_opensOne v0 13 o1).bind fun o24 =>
              if o24.1 ≠ 0 then
                (f_X8_eRead_14 n m) v0 v1 v2 o24.2
              else
                some (0, o24.2)
        else
          f_X8_eRead_38 n (f_X8_eRead_14 n m) v0 v2 o1
      else none
    else none
set_option maxRecDepth 100000 in
set_option maxHeartbeats 4000000 in
theorem r_X8_eRead_14 {X : Nat → Int32} {d : Nat} (hd : 3 ≤ (d + 1)) {n : Nat} : ∀ (m : Nat) (v0 : Nat) (v1 : Int32) (v2 : Int32) (w3 : Option Value) (h : Hp) (o : (Int32 × Hp)), f_X8_eRead_14 n m v0 v1 v2 h = some o → Run X (d + 1) 145 14 [some (.ref v0), some (.int v1), some (.int v2), w3] [] h (some (.int o.1), o.2) := by
  intro m
  induction m with
  | zero => intro v0 v1 v2 w3 h o hf; cases hf
  | succ m ih =>
    intro v0 v1 v2 w3 h o hf
    rw [f_X8_eRead_14] at hf
    refine rs_aload_n i_X8_eRead_14 rfl ?_
    obtain ⟨c2, hf⟩ := ite_some hf
    obtain ⟨o1, e1, hf⟩ := bind_some hf
    refine rs_inV i_X8_eRead_15 m_X8_next rfl (As := []) (rest := []) rfl rfl (Nat.le_of_ble_eq_true rfl) c2 (c_X8_next (by omega) e1) (st' := []) rfl ?_
    refine rs_iload_n i_X8_eRead_18 rfl ?_
    by_cases c3 : v1 = 0
    · replace hf := (if_pos c3).symm.trans hf
      refine rs_ifT i_X8_eRead_19 (ct_eq c3) (tg := 150) (by decide) ?_
      refine rs_aload_n i_X8_eRead_150 rfl ?_
      obtain ⟨c4, hf⟩ := ite_some hf
      refine rs_getI i_X8_eRead_151 (by decide) (by decide) c4 ?_
      refine rs_bipush i_X8_eRead_154 (v := 59) (by decide) ?_
      by_cases c5 : (gI o1 v0 28) ≠ 59
      · replace hf := (if_pos c5).symm.trans hf
        refine rs_icT i_X8_eRead_156 (ct_ne c5) (tg := 177) (by decide) ?_
        refine rs_aload_n i_X8_eRead_177 rfl ?_
        refine rs_getI i_X8_eRead_178 (by decide) (by decide) c4 ?_
        refine rs_bipush i_X8_eRead_181 (v := 41) (by decide) ?_
        by_cases c6 : (gI o1 v0 28) ≠ 41
        · replace hf := (if_pos c6).symm.trans hf
          refine rs_icT i_X8_eRead_183 (ct_ne c6) (tg := 229) (by decide) ?_
          refine rs_aload_n i_X8_eRead_229 rfl ?_
          obtain ⟨o7, e7, hf⟩ := bind_some hf
          refine rs_inV i_X8_eRead_230 m_X8_signOf rfl (As := []) (rest := []) rfl rfl (Nat.le_of_ble_eq_true rfl) c4 (c_X8_signOf (by omega) e7) (st' := [.int o7.1]) rfl ?_
          refine rs_istore_n i_X8_eRead_233 (Nat.le_of_ble_eq_true rfl) (lv' := [some (.ref v0), some (.int v1), some (.int v2), some (.int o7.1)]) rfl ?_
          refine rs_iload_n i_X8_eRead_234 rfl ?_
          refine rs_iconst i_X8_eRead_235 (v := (-1)) (by decide) ?_
          by_cases c8 : o7.1 = (-1)
          · replace hf := (if_pos c8).symm.trans hf
            refine rs_icT i_X8_eRead_236 (ct_eq c8) (tg := 247) (by decide) ?_
            refine rs_iconst i_X8_eRead_247 (v := 0) (by decide) ?_
            have hf := Option.some.inj hf
            subst hf
            exact rs_iret i_X8_eRead_248 m_X8_eRead (by decide)
          · replace hf := (if_neg c8).symm.trans hf
            refine rs_icF i_X8_eRead_236 (cf_eq c8) ?_
            refine rs_aload_n i_X8_eRead_239 rfl ?_
            refine rs_iload_n i_X8_eRead_240 rfl ?_
            obtain ⟨c10, hf⟩ := ite_some hf
            obtain ⟨o9, e9, hf⟩ := bind_some hf
            refine rs_inV i_X8_eRead_241 m_X8_between rfl (As := [.int o7.1]) (rest := []) rfl rfl (Nat.le_of_ble_eq_true rfl) c10 (c_X8_between (by omega) e9) (st' := [.int o9.1]) rfl ?_
            by_cases c11 : o9.1 ≠ 0
            · replace hf := (if_pos c11).symm.trans hf
              refine rs_ifT i_X8_eRead_244 (ct_ne c11) (tg := 249) (by decide) ?_
              refine rs_iconst i_X8_eRead_249 (v := 1) (by decide) ?_
              refine rs_istore_n i_X8_eRead_250 (Nat.le_of_ble_eq_true rfl) (lv' := [some (.ref v0), some (.int 1), some (.int v2), some (.int o7.1)]) rfl ?_
              refine rs_iload_n i_X8_eRead_251 rfl ?_
              refine rs_bipush i_X8_eRead_252 (v := 12) (by decide) ?_
              by_cases c12 : 12 < o7.1
              · replace hf := (if_pos c12).symm.trans hf
                refine rs_icT i_X8_eRead_254 (ct_gt c12) (tg := 261) (by decide) ?_
                refine rs_iconst i_X8_eRead_261 (v := 0) (by decide) ?_
                exact r_X8_eRead_262 hd ih hf
              · replace hf := (if_neg c12).symm.trans hf
                refine rs_icF i_X8_eRead_254 (cf_gt c12) ?_
                refine rs_iconst i_X8_eRead_257 (v := 1) (by decide) ?_
                refine rs_goto i_X8_eRead_258 (tg := 262) (by decide) ?_
                exact r_X8_eRead_262 hd ih hf
            · replace hf := (if_neg c11).symm.trans hf
              refine rs_ifF i_X8_eRead_244 (cf_ne c11) ?_
              refine rs_iconst i_X8_eRead_247 (v := 0) (by decide) ?_
              have hf := Option.some.inj hf
              subst hf
              exact rs_iret i_X8_eRead_248 m_X8_eRead (by decide)
        · replace hf := (if_neg c6).symm.trans hf
          refine rs_icF i_X8_eRead_183 (cf_ne c6) ?_
          refine rs_aload_n i_X8_eRead_186 rfl ?_
          refine rs_iconst i_X8_eRead_187 (v := 1) (by decide) ?_
          obtain ⟨o13, e13, hf⟩ := bind_some hf
          refine rs_inV i_X8_eRead_188 m_X8_unwinds rfl (As := [.int 1]) (rest := []) rfl rfl (Nat.le_of_ble_eq_true rfl) c4 (c_X8_unwinds (by omega) e13) (st' := []) rfl ?_
          refine rs_aload_n i_X8_eRead_191 rfl ?_
          obtain ⟨c14, hf⟩ := ite_some hf
          refine rs_getI i_X8_eRead_192 (by decide) (by decide) c14 ?_
          by_cases c15 : (gI o13 v0 32) ≠ 0
          · replace hf := (if_pos c15).symm.trans hf
            refine rs_ifT i_X8_eRead_195 (ct_ne c15) (tg := 200) (by decide) ?_
            refine rs_aload_n i_X8_eRead_200 rfl ?_
            refine rs_dup i_X8_eRead_201 rfl ?_
            refine rs_getI i_X8_eRead_202 (by decide) (by decide) c14 ?_
            refine rs_iconst i_X8_eRead_205 (v := 1) (by decide) ?_
            refine rs_isub i_X8_eRead_206 ?_
            refine rs_putI i_X8_eRead_207 (by decide) c14 ?_
            exact r_X8_eRead_210 hd ih hf
          · replace hf := (if_neg c15).symm.trans hf
            refine rs_ifF i_X8_eRead_195 (cf_ne c15) ?_
            refine rs_iconst i_X8_eRead_198 (v := 0) (by decide) ?_
            have hf := Option.some.inj hf
            subst hf
            exact rs_iret i_X8_eRead_199 m_X8_eRead (by decide)
      · replace hf := (if_neg c5).symm.trans hf
        refine rs_icF i_X8_eRead_156 (cf_ne c5) ?_
        refine rs_aload_n i_X8_eRead_159 rfl ?_
        refine rs_iconst i_X8_eRead_160 (v := 1) (by decide) ?_
        obtain ⟨o16, e16, hf⟩ := bind_some hf
        refine rs_inV i_X8_eRead_161 m_X8_unwinds rfl (As := [.int 1]) (rest := []) rfl rfl (Nat.le_of_ble_eq_true rfl) c4 (c_X8_unwinds (by omega) e16) (st' := []) rfl ?_
        refine rs_aload_n i_X8_eRead_164 rfl ?_
        obtain ⟨c17, hf⟩ := ite_some hf
        refine rs_getI i_X8_eRead_165 (by decide) (by decide) c17 ?_
        by_cases c18 : (gI o16 v0 32) ≠ 0
        · replace hf := (if_pos c18).symm.trans hf
          refine rs_ifT i_X8_eRead_168 (ct_ne c18) (tg := 175) (by decide) ?_
          refine rs_iconst i_X8_eRead_175 (v := 0) (by decide) ?_
          have hf := Option.some.inj hf
          subst hf
          exact rs_iret i_X8_eRead_176 m_X8_eRead (by decide)
        · replace hf := (if_neg c18).symm.trans hf
          refine rs_ifF i_X8_eRead_168 (cf_ne c18) ?_
          refine rs_iconst i_X8_eRead_171 (v := 1) (by decide) ?_
          refine rs_goto i_X8_eRead_172 (tg := 176) (by decide) ?_
          have hf := Option.some.inj hf
          subst hf
          exact rs_iret i_X8_eRead_176 m_X8_eRead (by decide)
    · replace hf := (if_neg c3).symm.trans hf
      refine rs_ifF i_X8_eRead_19 (cf_eq c3) ?_
      refine rs_aload_n i_X8_eRead_22 rfl ?_
      obtain ⟨c19, hf⟩ := ite_some hf
      refine rs_getI i_X8_eRead_23 (by decide) (by decide) c19 ?_
      refine rs_iconst i_X8_eRead_26 (v := 1) (by decide) ?_
      by_cases c20 : (gI o1 v0 28) = 1
      · replace hf := (if_pos c20).symm.trans hf
        refine rs_icT i_X8_eRead_27 (ct_eq c20) (tg := 38) (by decide) ?_
        exact r_X8_eRead_38 hd ih hf
      · replace hf := (if_neg c20).symm.trans hf
        refine rs_icF i_X8_eRead_27 (cf_eq c20) ?_
        refine rs_aload_n i_X8_eRead_30 rfl ?_
        refine rs_getI i_X8_eRead_31 (by decide) (by decide) c19 ?_
        refine rs_iconst i_X8_eRead_34 (v := 2) (by decide) ?_
        by_cases c21 : (gI o1 v0 28) ≠ 2
        · replace hf := (if_pos c21).symm.trans hf
          refine rs_icT i_X8_eRead_35 (ct_ne c21) (tg := 75) (by decide) ?_
          refine rs_aload_n i_X8_eRead_75 rfl ?_
          refine rs_getI i_X8_eRead_76 (by decide) (by decide) c19 ?_
          refine rs_bipush i_X8_eRead_79 (v := 6) (by decide) ?_
          by_cases c22 : (gI o1 v0 28) ≠ 6
          · replace hf := (if_pos c22).symm.trans hf
            refine rs_icT i_X8_eRead_81 (ct_ne c22) (tg := 99) (by decide) ?_
            exact r_X8_eRead_99 hd ih hf
          · replace hf := (if_neg c22).symm.trans hf
            refine rs_icF i_X8_eRead_81 (cf_ne c22) ?_
            refine rs_iload_n i_X8_eRead_84 rfl ?_
            by_cases c23 : v2 = 0
            · replace hf := (if_pos c23).symm.trans hf
              refine rs_ifT i_X8_eRead_85 (ct_eq c23) (tg := 99) (by decide) ?_
              exact r_X8_eRead_99 hd ih hf
            · replace hf := (if_neg c23).symm.trans hf
              refine rs_ifF i_X8_eRead_85 (cf_eq c23) ?_
              refine rs_aload_n i_X8_eRead_88 rfl ?_
              refine rs_bipush i_X8_eRead_89 (v := 13) (by decide) ?_
              obtain ⟨o24, e24, hf⟩ := bind_some hf
              refine rs_inV i_X8_eRead_91 m_X8_opensOne rfl (As := [.int 13]) (rest := []) rfl rfl (Nat.le_of_ble_eq_true rfl) c19 (c_X8_opensOne (by omega) e24) (st' := [.int o24.1]) rfl ?_
              by_cases c25 : o24.1 ≠ 0
              · replace hf := (if_pos c25).symm.trans hf
                refine rs_ifT i_X8_eRead_94 (ct_ne c25) (tg := 14) (by decide) ?_
                exact ih _ _ _ _ _ _ hf
              · replace hf := (if_neg c25).symm.trans hf
                refine rs_ifF i_X8_eRead_94 (cf_ne c25) ?_
                refine rs_iconst i_X8_eRead_97 (v := 0) (by decide) ?_
                have hf := Option.some.inj hf
                subst hf
                exact rs_iret i_X8_eRead_98 m_X8_eRead (by decide)
        · replace hf := (if_neg c21).symm.trans hf
          refine rs_icF i_X8_eRead_35 (cf_ne c21) ?_
          exact r_X8_eRead_38 hd ih hf
def f_X8_eRead_5 (n : Nat) (v0 : Nat) (h : Hp) : Option (Int32 × Hp) :=
  if okO h v0 8 then
  f_X8_eRead_14 n n v0 1 1 (hsi h v0 33 0)
  else none
set_option maxRecDepth 100000 in
set_option maxHeartbeats 4000000 in
theorem r_X8_eRead_5 {X : Nat → Int32} {d : Nat} (hd : 3 ≤ (d + 1)) {n : Nat} {v0 : Nat} {h : Hp} {o : (Int32 × Hp)} (hf : f_X8_eRead_5 n v0 h = some o) : Run X (d + 1) 145 5 [some (.ref v0), none, none, none] [] h (some (.int o.1), o.2) := by
  unfold f_X8_eRead_5 at hf
  refine rs_aload_n i_X8_eRead_5 rfl ?_
  refine rs_iconst i_X8_eRead_6 (v := 0) (by decide) ?_
  obtain ⟨c1, hf⟩ := ite_some hf
  refine rs_putI i_X8_eRead_7 (by decide) c1 ?_
  refine rs_iconst i_X8_eRead_10 (v := 1) (by decide) ?_
  refine rs_istore_n i_X8_eRead_11 (Nat.le_of_ble_eq_true rfl) (lv' := [some (.ref v0), some (.int 1), none, none]) rfl ?_
  refine rs_iconst i_X8_eRead_12 (v := 1) (by decide) ?_
  refine rs_istore_n i_X8_eRead_13 (Nat.le_of_ble_eq_true rfl) (lv' := [some (.ref v0), some (.int 1), some (.int 1), none]) rfl ?_
  exact r_X8_eRead_14 hd _ _ _ _ _ _ _ hf
def f_X8_eRead_0 (n : Nat) (v0 : Nat) (h : Hp) : Option (Int32 × Hp) :=
  if okO h v0 8 then
  f_X8_eRead_5 n v0 (hsi h v0 32 0)
  else none
set_option maxRecDepth 100000 in
set_option maxHeartbeats 4000000 in
theorem r_X8_eRead_0 {X : Nat → Int32} {d : Nat} (hd : 3 ≤ (d + 1)) {n : Nat} {v0 : Nat} {h : Hp} {o : (Int32 × Hp)} (hf : f_X8_eRead_0 n v0 h = some o) : Run X (d + 1) 145 0 [some (.ref v0), none, none, none] [] h (some (.int o.1), o.2) := by
  unfold f_X8_eRead_0 at hf
  refine rs_aload_n i_X8_eRead_0 rfl ?_
  refine rs_iconst i_X8_eRead_1 (v := 0) (by decide) ?_
  obtain ⟨c1, hf⟩ := ite_some hf
  refine rs_putI i_X8_eRead_2 (by decide) c1 ?_
  exact r_X8_eRead_5 hd hf
def f_X8_eRead (n : Nat) (v0 : Nat) (h : Hp) : Option (Int32 × Hp) := f_X8_eRead_0 n v0 h
theorem c_X8_eRead {X : Nat → Int32} {d : Nat} (hd : 3 ≤ d) {n : Nat} {v0 : Nat} {h : Hp} {o : (Int32 × Hp)} (hf : f_X8_eRead n v0 h = some o) : Calls X d 145 [.ref v0] h (some (.int o.1), o.2) := by
  obtain ⟨d, rfl⟩ : ∃ z, d = z + 1 := ⟨d - 1, by omega⟩
  exact ⟨_, rfl, r_X8_eRead_0 hd hf⟩
theorem i_X8_text_0 : fetch 146 0 = some (.aload_n 0, 1, 0, 0, 0, 0) := by decide +kernel
theorem i_X8_text_1 : fetch 146 1 = some (.getfield 132, 4, 8, 13, 0, 1022) := by decide +kernel
theorem i_X8_text_4 : fetch 146 4 = some (.bipush 6, 6, 0, 0, 0, 0) := by decide +kernel
theorem i_X8_text_6 : fetch 146 6 = some (.if_icmp .ne 6, 9, 0, 0, 0, 0) := by decide +kernel
theorem i_X8_text_9 : fetch 146 9 = some (.bipush (-4), 11, 0, 0, 0, 0) := by decide +kernel
theorem i_X8_text_11 : fetch 146 11 = some (.ireturn, 12, 0, 0, 0, 0) := by decide +kernel
theorem i_X8_text_12 : fetch 146 12 = some (.aload_n 0, 13, 0, 0, 0, 0) := by decide +kernel
theorem i_X8_text_13 : fetch 146 13 = some (.iconst 0, 14, 0, 0, 0, 0) := by decide +kernel
theorem i_X8_text_14 : fetch 146 14 = some (.putfield 140, 17, 8, 26, 0, 1035) := by decide +kernel
theorem i_X8_text_17 : fetch 146 17 = some (.aload_n 0, 18, 0, 0, 0, 0) := by decide +kernel
theorem i_X8_text_18 : fetch 146 18 = some (.iconst 0, 19, 0, 0, 0, 0) := by decide +kernel
theorem i_X8_text_19 : fetch 146 19 = some (.putfield 156, 22, 8, 34, 0, 1043) := by decide +kernel
theorem i_X8_text_22 : fetch 146 22 = some (.iconst 1, 23, 0, 0, 0, 0) := by decide +kernel
theorem i_X8_text_23 : fetch 146 23 = some (.istore_n 1, 24, 0, 0, 0, 0) := by decide +kernel
theorem i_X8_text_24 : fetch 146 24 = some (.iconst 0, 25, 0, 0, 0, 0) := by decide +kernel
theorem i_X8_text_25 : fetch 146 25 = some (.istore_n 2, 26, 0, 0, 0, 0) := by decide +kernel
theorem i_X8_text_26 : fetch 146 26 = some (.iload_n 2, 27, 0, 0, 0, 0) := by decide +kernel
theorem i_X8_text_27 : fetch 146 27 = some (.iconst 3, 28, 0, 0, 0, 0) := by decide +kernel
theorem i_X8_text_28 : fetch 146 28 = some (.if_icmp .ge 73, 31, 0, 0, 0, 0) := by decide +kernel
theorem i_X8_text_31 : fetch 146 31 = some (.iload_n 1, 32, 0, 0, 0, 0) := by decide +kernel
theorem i_X8_text_32 : fetch 146 32 = some (.ifCond .eq 69, 35, 0, 0, 0, 0) := by decide +kernel
theorem i_X8_text_35 : fetch 146 35 = some (.aload_n 0, 36, 0, 0, 0, 0) := by decide +kernel
theorem i_X8_text_36 : fetch 146 36 = some (.invokevirtual 178, 39, 137, 0, 0, 966) := by decide +kernel
theorem i_X8_text_39 : fetch 146 39 = some (.aload_n 0, 40, 0, 0, 0, 0) := by decide +kernel
theorem i_X8_text_40 : fetch 146 40 = some (.getfield 146, 43, 8, 28, 0, 1037) := by decide +kernel
theorem i_X8_text_43 : fetch 146 43 = some (.iconst 3, 44, 0, 0, 0, 0) := by decide +kernel
theorem i_X8_text_44 : fetch 146 44 = some (.if_icmp .ne 15, 47, 0, 0, 0, 0) := by decide +kernel
theorem i_X8_text_47 : fetch 146 47 = some (.aload_n 0, 48, 0, 0, 0, 0) := by decide +kernel
theorem i_X8_text_48 : fetch 146 48 = some (.getfield 149, 51, 8, 29, 0, 1038) := by decide +kernel
theorem i_X8_text_51 : fetch 146 51 = some (.iload_n 2, 52, 0, 0, 0, 0) := by decide +kernel
theorem i_X8_text_52 : fetch 146 52 = some (.if_icmp .ne 7, 55, 0, 0, 0, 0) := by decide +kernel
theorem i_X8_text_55 : fetch 146 55 = some (.iconst 1, 56, 0, 0, 0, 0) := by decide +kernel
theorem i_X8_text_56 : fetch 146 56 = some (.goto 4, 59, 0, 0, 0, 0) := by decide +kernel
theorem i_X8_text_59 : fetch 146 59 = some (.iconst 0, 60, 0, 0, 0, 0) := by decide +kernel
theorem i_X8_text_60 : fetch 146 60 = some (.istore_n 1, 61, 0, 0, 0, 0) := by decide +kernel
theorem i_X8_text_61 : fetch 146 61 = some (.aload_n 0, 62, 0, 0, 0, 0) := by decide +kernel
theorem i_X8_text_62 : fetch 146 62 = some (.getfield 42, 65, 8, 12, 0, 1021) := by decide +kernel
theorem i_X8_text_65 : fetch 146 65 = some (.iconst 4, 66, 0, 0, 0, 0) := by decide +kernel
theorem i_X8_text_66 : fetch 146 66 = some (.aload_n 0, 67, 0, 0, 0, 0) := by decide +kernel
theorem i_X8_text_67 : fetch 146 67 = some (.getfield 132, 70, 8, 13, 0, 1022) := by decide +kernel
theorem i_X8_text_70 : fetch 146 70 = some (.imul, 71, 0, 0, 0, 0) := by decide +kernel
theorem i_X8_text_71 : fetch 146 71 = some (.iload_n 2, 72, 0, 0, 0, 0) := by decide +kernel
theorem i_X8_text_72 : fetch 146 72 = some (.iadd, 73, 0, 0, 0, 0) := by decide +kernel
theorem i_X8_text_73 : fetch 146 73 = some (.aload_n 0, 74, 0, 0, 0, 0) := by decide +kernel
theorem i_X8_text_74 : fetch 146 74 = some (.getfield 156, 77, 8, 34, 0, 1043) := by decide +kernel
theorem i_X8_text_77 : fetch 146 77 = some (.iastore, 78, 0, 0, 0, 0) := by decide +kernel
theorem i_X8_text_78 : fetch 146 78 = some (.iload_n 1, 79, 0, 0, 0, 0) := by decide +kernel
theorem i_X8_text_79 : fetch 146 79 = some (.ifCond .eq 14, 82, 0, 0, 0, 0) := by decide +kernel
theorem i_X8_text_82 : fetch 146 82 = some (.aload_n 0, 83, 0, 0, 0, 0) := by decide +kernel
theorem i_X8_text_83 : fetch 146 83 = some (.invokevirtual 191, 86, 145, 0, 0, 977) := by decide +kernel
theorem i_X8_text_86 : fetch 146 86 = some (.ifCond .eq 7, 89, 0, 0, 0, 0) := by decide +kernel
theorem i_X8_text_89 : fetch 146 89 = some (.iconst 1, 90, 0, 0, 0, 0) := by decide +kernel
theorem i_X8_text_90 : fetch 146 90 = some (.goto 4, 93, 0, 0, 0, 0) := by decide +kernel
theorem i_X8_text_93 : fetch 146 93 = some (.iconst 0, 94, 0, 0, 0, 0) := by decide +kernel
theorem i_X8_text_94 : fetch 146 94 = some (.istore_n 1, 95, 0, 0, 0, 0) := by decide +kernel
theorem i_X8_text_95 : fetch 146 95 = some (.iinc 2 1, 98, 0, 0, 0, 0) := by decide +kernel
theorem i_X8_text_98 : fetch 146 98 = some (.goto (-72), 101, 0, 0, 0, 0) := by decide +kernel
theorem i_X8_text_101 : fetch 146 101 = some (.iload_n 1, 102, 0, 0, 0, 0) := by decide +kernel
theorem i_X8_text_102 : fetch 146 102 = some (.ifCond .eq 20, 105, 0, 0, 0, 0) := by decide +kernel
theorem i_X8_text_105 : fetch 146 105 = some (.aload_n 0, 106, 0, 0, 0, 0) := by decide +kernel
theorem i_X8_text_106 : fetch 146 106 = some (.invokevirtual 178, 109, 137, 0, 0, 966) := by decide +kernel
theorem i_X8_text_109 : fetch 146 109 = some (.aload_n 0, 110, 0, 0, 0, 0) := by decide +kernel
theorem i_X8_text_110 : fetch 146 110 = some (.getfield 146, 113, 8, 28, 0, 1037) := by decide +kernel
theorem i_X8_text_113 : fetch 146 113 = some (.ifCond .ne 7, 116, 0, 0, 0, 0) := by decide +kernel
theorem i_X8_text_116 : fetch 146 116 = some (.iconst 1, 117, 0, 0, 0, 0) := by decide +kernel
theorem i_X8_text_117 : fetch 146 117 = some (.goto 4, 120, 0, 0, 0, 0) := by decide +kernel
theorem i_X8_text_120 : fetch 146 120 = some (.iconst 0, 121, 0, 0, 0, 0) := by decide +kernel
theorem i_X8_text_121 : fetch 146 121 = some (.istore_n 1, 122, 0, 0, 0, 0) := by decide +kernel
theorem i_X8_text_122 : fetch 146 122 = some (.aload_n 0, 123, 0, 0, 0, 0) := by decide +kernel
theorem i_X8_text_123 : fetch 146 123 = some (.getfield 42, 126, 8, 12, 0, 1021) := by decide +kernel
theorem i_X8_text_126 : fetch 146 126 = some (.iconst 4, 127, 0, 0, 0, 0) := by decide +kernel
theorem i_X8_text_127 : fetch 146 127 = some (.aload_n 0, 128, 0, 0, 0, 0) := by decide +kernel
theorem i_X8_text_128 : fetch 146 128 = some (.getfield 132, 131, 8, 13, 0, 1022) := by decide +kernel
theorem i_X8_text_131 : fetch 146 131 = some (.imul, 132, 0, 0, 0, 0) := by decide +kernel
theorem i_X8_text_132 : fetch 146 132 = some (.iconst 3, 133, 0, 0, 0, 0) := by decide +kernel
theorem i_X8_text_133 : fetch 146 133 = some (.iadd, 134, 0, 0, 0, 0) := by decide +kernel
theorem i_X8_text_134 : fetch 146 134 = some (.aload_n 0, 135, 0, 0, 0, 0) := by decide +kernel
theorem i_X8_text_135 : fetch 146 135 = some (.getfield 156, 138, 8, 34, 0, 1043) := by decide +kernel
theorem i_X8_text_138 : fetch 146 138 = some (.iastore, 139, 0, 0, 0, 0) := by decide +kernel
theorem i_X8_text_139 : fetch 146 139 = some (.aload_n 0, 140, 0, 0, 0, 0) := by decide +kernel
theorem i_X8_text_140 : fetch 146 140 = some (.iconst 0, 141, 0, 0, 0, 0) := by decide +kernel
theorem i_X8_text_141 : fetch 146 141 = some (.putfield 105, 144, 8, 10, 0, 1019) := by decide +kernel
theorem i_X8_text_144 : fetch 146 144 = some (.iload_n 1, 145, 0, 0, 0, 0) := by decide +kernel
theorem i_X8_text_145 : fetch 146 145 = some (.ifCond .ne 11, 148, 0, 0, 0, 0) := by decide +kernel
theorem i_X8_text_148 : fetch 146 148 = some (.bipush (-100), 150, 0, 0, 0, 0) := by decide +kernel
theorem i_X8_text_150 : fetch 146 150 = some (.aload_n 0, 151, 0, 0, 0, 0) := by decide +kernel
theorem i_X8_text_151 : fetch 146 151 = some (.getfield 143, 154, 8, 27, 0, 1036) := by decide +kernel
theorem i_X8_text_154 : fetch 146 154 = some (.isub, 155, 0, 0, 0, 0) := by decide +kernel
theorem i_X8_text_155 : fetch 146 155 = some (.ireturn, 156, 0, 0, 0, 0) := by decide +kernel
theorem i_X8_text_156 : fetch 146 156 = some (.aload_n 0, 157, 0, 0, 0, 0) := by decide +kernel
theorem i_X8_text_157 : fetch 146 157 = some (.dup, 158, 0, 0, 0, 0) := by decide +kernel
theorem i_X8_text_158 : fetch 146 158 = some (.getfield 132, 161, 8, 13, 0, 1022) := by decide +kernel
theorem i_X8_text_161 : fetch 146 161 = some (.iconst 1, 162, 0, 0, 0, 0) := by decide +kernel
theorem i_X8_text_162 : fetch 146 162 = some (.iadd, 163, 0, 0, 0, 0) := by decide +kernel
theorem i_X8_text_163 : fetch 146 163 = some (.putfield 132, 166, 8, 13, 0, 1022) := by decide +kernel
theorem i_X8_text_166 : fetch 146 166 = some (.aload_n 0, 167, 0, 0, 0, 0) := by decide +kernel
theorem i_X8_text_167 : fetch 146 167 = some (.getfield 132, 170, 8, 13, 0, 1022) := by decide +kernel
theorem i_X8_text_170 : fetch 146 170 = some (.iconst 1, 171, 0, 0, 0, 0) := by decide +kernel
theorem i_X8_text_171 : fetch 146 171 = some (.isub, 172, 0, 0, 0, 0) := by decide +kernel
theorem i_X8_text_172 : fetch 146 172 = some (.ireturn, 173, 0, 0, 0, 0) := by decide +kernel
def f_X8_text_166 (n : Nat) (v0 : Nat) (h : Hp) : Option (Int32 × Hp) :=
  if okO h v0 8 then
  some (((gI h v0 13) - 1), h)
  else none
set_option maxRecDepth 100000 in
set_option maxHeartbeats 4000000 in
theorem r_X8_text_166 {X : Nat → Int32} {d : Nat} (hd : 4 ≤ (d + 1)) {n : Nat} {v0 : Nat} {d1 : Int32} {d2 : Int32} {h : Hp} {o : (Int32 × Hp)} (hf : f_X8_text_166 n v0 h = some o) : Run X (d + 1) 146 166 [some (.ref v0), some (.int d1), some (.int d2)] [] h (some (.int o.1), o.2) := by
  unfold f_X8_text_166 at hf
  refine rs_aload_n i_X8_text_166 rfl ?_
  obtain ⟨c1, hf⟩ := ite_some hf
  refine rs_getI i_X8_text_167 (by decide) (by decide) c1 ?_
  refine rs_iconst i_X8_text_170 (v := 1) (by decide) ?_
  refine rs_isub i_X8_text_171 ?_
  have hf := Option.some.inj hf
  subst hf
  exact rs_iret i_X8_text_172 m_X8_text rfl
def f_X8_text_144 (n : Nat) (v0 : Nat) (v1 : Int32) (h : Hp) : Option (Int32 × Hp) :=
  if v1 ≠ 0 then
    if okO h v0 8 then
    f_X8_text_166 n v0 (hsi h v0 13 ((gI h v0 13) + 1))
    else none
  else
    if okO h v0 8 then
    some (((-100) - (gI h v0 27)), h)
    else none
set_option maxRecDepth 100000 in
set_option maxHeartbeats 4000000 in
theorem r_X8_text_144 {X : Nat → Int32} {d : Nat} (hd : 4 ≤ (d + 1)) {n : Nat} {v0 : Nat} {v1 : Int32} {d2 : Int32} {h : Hp} {o : (Int32 × Hp)} (hf : f_X8_text_144 n v0 v1 h = some o) : Run X (d + 1) 146 144 [some (.ref v0), some (.int v1), some (.int d2)] [] h (some (.int o.1), o.2) := by
  unfold f_X8_text_144 at hf
  refine rs_iload_n i_X8_text_144 rfl ?_
  by_cases c1 : v1 ≠ 0
  · replace hf := (if_pos c1).symm.trans hf
    refine rs_ifT i_X8_text_145 (ct_ne c1) (tg := 156) (by decide) ?_
    refine rs_aload_n i_X8_text_156 rfl ?_
    refine rs_dup i_X8_text_157 rfl ?_
    obtain ⟨c2, hf⟩ := ite_some hf
    refine rs_getI i_X8_text_158 (by decide) (by decide) c2 ?_
    refine rs_iconst i_X8_text_161 (v := 1) (by decide) ?_
    refine rs_iadd i_X8_text_162 ?_
    refine rs_putI i_X8_text_163 (by decide) c2 ?_
    exact r_X8_text_166 hd hf
  · replace hf := (if_neg c1).symm.trans hf
    refine rs_ifF i_X8_text_145 (cf_ne c1) ?_
    refine rs_bipush i_X8_text_148 (v := (-100)) (by decide) ?_
    refine rs_aload_n i_X8_text_150 rfl ?_
    obtain ⟨c3, hf⟩ := ite_some hf
    refine rs_getI i_X8_text_151 (by decide) (by decide) c3 ?_
    refine rs_isub i_X8_text_154 ?_
    have hf := Option.some.inj hf
    subst hf
    exact rs_iret i_X8_text_155 m_X8_text rfl
def f_X8_text_139 (n : Nat) (v0 : Nat) (v1 : Int32) (h : Hp) : Option (Int32 × Hp) :=
  if okO h v0 8 then
  f_X8_text_144 n v0 v1 (hsi h v0 10 0)
  else none
set_option maxRecDepth 100000 in
set_option maxHeartbeats 4000000 in
theorem r_X8_text_139 {X : Nat → Int32} {d : Nat} (hd : 4 ≤ (d + 1)) {n : Nat} {v0 : Nat} {v1 : Int32} {d2 : Int32} {h : Hp} {o : (Int32 × Hp)} (hf : f_X8_text_139 n v0 v1 h = some o) : Run X (d + 1) 146 139 [some (.ref v0), some (.int v1), some (.int d2)] [] h (some (.int o.1), o.2) := by
  unfold f_X8_text_139 at hf
  refine rs_aload_n i_X8_text_139 rfl ?_
  refine rs_iconst i_X8_text_140 (v := 0) (by decide) ?_
  obtain ⟨c1, hf⟩ := ite_some hf
  refine rs_putI i_X8_text_141 (by decide) c1 ?_
  exact r_X8_text_144 hd hf
def f_X8_text_122 (n : Nat) (v0 : Nat) (v1 : Int32) (h : Hp) : Option (Int32 × Hp) :=
  if okO h v0 8 then
  (gR h v0 12).bind fun a2 =>
  if okI h a2 ((4 * (gI h v0 13)) + 3) then
  f_X8_text_139 n v0 v1 (hsi h a2 (ix ((4 * (gI h v0 13)) + 3)) (gI h v0 34))
  else none
  else none
set_option maxRecDepth 100000 in
set_option maxHeartbeats 4000000 in
theorem r_X8_text_122 {X : Nat → Int32} {d : Nat} (hd : 4 ≤ (d + 1)) {n : Nat} {v0 : Nat} {v1 : Int32} {d2 : Int32} {h : Hp} {o : (Int32 × Hp)} (hf : f_X8_text_122 n v0 v1 h = some o) : Run X (d + 1) 146 122 [some (.ref v0), some (.int v1), some (.int d2)] [] h (some (.int o.1), o.2) := by
  unfold f_X8_text_122 at hf
  refine rs_aload_n i_X8_text_122 rfl ?_
  obtain ⟨c1, hf⟩ := ite_some hf
  obtain ⟨a2, e2, hf⟩ := bind_some hf
  refine rs_getR i_X8_text_123 (by decide) (by decide) c1 e2 ?_
  refine rs_iconst i_X8_text_126 (v := 4) (by decide) ?_
  refine rs_aload_n i_X8_text_127 rfl ?_
  refine rs_getI i_X8_text_128 (by decide) (by decide) c1 ?_
  refine rs_imul i_X8_text_131 ?_
  refine rs_iconst i_X8_text_132 (v := 3) (by decide) ?_
  refine rs_iadd i_X8_text_133 ?_
  refine rs_aload_n i_X8_text_134 rfl ?_
  refine rs_getI i_X8_text_135 (by decide) (by decide) c1 ?_
  obtain ⟨c3, hf⟩ := ite_some hf
  refine rs_iast i_X8_text_138 c3 ?_
  exact r_X8_text_139 hd hf
def f_X8_text_121 (n : Nat) (v0 : Nat) (s0 : Int32) (h : Hp) : Option (Int32 × Hp) :=
  f_X8_text_122 n v0 s0 h
set_option maxRecDepth 100000 in
set_option maxHeartbeats 4000000 in
theorem r_X8_text_121 {X : Nat → Int32} {d : Nat} (hd : 4 ≤ (d + 1)) {n : Nat} {v0 : Nat} {s0 : Int32} {d1 : Int32} {d2 : Int32} {h : Hp} {o : (Int32 × Hp)} (hf : f_X8_text_121 n v0 s0 h = some o) : Run X (d + 1) 146 121 [some (.ref v0), some (.int d1), some (.int d2)] [.int s0] h (some (.int o.1), o.2) := by
  unfold f_X8_text_121 at hf
  refine rs_istore_n i_X8_text_121 (Nat.le_of_ble_eq_true rfl) (lv' := [some (.ref v0), some (.int s0), some (.int d2)]) rfl ?_
  exact r_X8_text_122 hd hf
def f_X8_text_101 (n : Nat) (v0 : Nat) (v1 : Int32) (h : Hp) : Option (Int32 × Hp) :=
  if v1 = 0 then
    f_X8_text_122 n v0 v1 h
  else
    if okO h v0 8 then
    (f_X8_next n v0 h).bind fun o2 =>
    if okO o2 v0 8 then
    if (gI o2 v0 28) ≠ 0 then
      f_X8_text_121 n v0 0 o2
    else
      f_X8_text_121 n v0 1 o2
    else none
    else none
set_option maxRecDepth 100000 in
set_option maxHeartbeats 4000000 in
theorem r_X8_text_101 {X : Nat → Int32} {d : Nat} (hd : 4 ≤ (d + 1)) {n : Nat} {v0 : Nat} {v1 : Int32} {d2 : Int32} {h : Hp} {o : (Int32 × Hp)} (hf : f_X8_text_101 n v0 v1 h = some o) : Run X (d + 1) 146 101 [some (.ref v0), some (.int v1), some (.int d2)] [] h (some (.int o.1), o.2) := by
  unfold f_X8_text_101 at hf
  refine rs_iload_n i_X8_text_101 rfl ?_
  by_cases c1 : v1 = 0
  · replace hf := (if_pos c1).symm.trans hf
    refine rs_ifT i_X8_text_102 (ct_eq c1) (tg := 122) (by decide) ?_
    exact r_X8_text_122 hd hf
  · replace hf := (if_neg c1).symm.trans hf
    refine rs_ifF i_X8_text_102 (cf_eq c1) ?_
    refine rs_aload_n i_X8_text_105 rfl ?_
    obtain ⟨c3, hf⟩ := ite_some hf
    obtain ⟨o2, e2, hf⟩ := bind_some hf
    refine rs_inV i_X8_text_106 m_X8_next rfl (As := []) (rest := []) rfl rfl (Nat.le_of_ble_eq_true rfl) c3 (c_X8_next (by omega) e2) (st' := []) rfl ?_
    refine rs_aload_n i_X8_text_109 rfl ?_
    obtain ⟨c4, hf⟩ := ite_some hf
    refine rs_getI i_X8_text_110 (by decide) (by decide) c4 ?_
    by_cases c5 : (gI o2 v0 28) ≠ 0
    · replace hf := (if_pos c5).symm.trans hf
      refine rs_ifT i_X8_text_113 (ct_ne c5) (tg := 120) (by decide) ?_
      refine rs_iconst i_X8_text_120 (v := 0) (by decide) ?_
      exact r_X8_text_121 hd hf
    · replace hf := (if_neg c5).symm.trans hf
      refine rs_ifF i_X8_text_113 (cf_ne c5) ?_
      refine rs_iconst i_X8_text_116 (v := 1) (by decide) ?_
      refine rs_goto i_X8_text_117 (tg := 121) (by decide) ?_
      exact r_X8_text_121 hd hf
def f_X8_text_94 (n : Nat) (K26 : Nat → Int32 → Int32 → Hp → Option (Int32 × Hp)) (v0 : Nat) (v2 : Int32) (s0 : Int32) (h : Hp) : Option (Int32 × Hp) :=
  K26 v0 s0 (v2 + 1) h
set_option maxRecDepth 100000 in
set_option maxHeartbeats 4000000 in
theorem r_X8_text_94 {X : Nat → Int32} {d : Nat} (hd : 4 ≤ (d + 1)) {n : Nat} {K26 : Nat → Int32 → Int32 → Hp → Option (Int32 × Hp)} (HK26 : ∀ (v0 : Nat) (v1 : Int32) (v2 : Int32) (h : Hp) (o : (Int32 × Hp)), K26 v0 v1 v2 h = some o → Run X (d + 1) 146 26 [some (.ref v0), some (.int v1), some (.int v2)] [] h (some (.int o.1), o.2)) {v0 : Nat} {v2 : Int32} {s0 : Int32} {d1 : Int32} {h : Hp} {o : (Int32 × Hp)} (hf : f_X8_text_94 n K26 v0 v2 s0 h = some o) : Run X (d + 1) 146 94 [some (.ref v0), some (.int d1), some (.int v2)] [.int s0] h (some (.int o.1), o.2) := by
  unfold f_X8_text_94 at hf
  refine rs_istore_n i_X8_text_94 (Nat.le_of_ble_eq_true rfl) (lv' := [some (.ref v0), some (.int s0), some (.int v2)]) rfl ?_
  refine rs_iinc i_X8_text_95 rfl (v := v2 + 1) rfl (Nat.le_of_ble_eq_true rfl) (lv' := [some (.ref v0), some (.int s0), some (.int (v2 + 1))]) rfl ?_
  refine rs_goto i_X8_text_98 (tg := 26) (by decide) ?_
  exact HK26 _ _ _ _ _ hf
def f_X8_text_93 (n : Nat) (K26 : Nat → Int32 → Int32 → Hp → Option (Int32 × Hp)) (v0 : Nat) (v2 : Int32) (h : Hp) : Option (Int32 × Hp) :=
  f_X8_text_94 n K26 v0 v2 0 h
set_option maxRecDepth 100000 in
set_option maxHeartbeats 4000000 in
theorem r_X8_text_93 {X : Nat → Int32} {d : Nat} (hd : 4 ≤ (d + 1)) {n : Nat} {K26 : Nat → Int32 → Int32 → Hp → Option (Int32 × Hp)} (HK26 : ∀ (v0 : Nat) (v1 : Int32) (v2 : Int32) (h : Hp) (o : (Int32 × Hp)), K26 v0 v1 v2 h = some o → Run X (d + 1) 146 26 [some (.ref v0), some (.int v1), some (.int v2)] [] h (some (.int o.1), o.2)) {v0 : Nat} {v2 : Int32} {d1 : Int32} {h : Hp} {o : (Int32 × Hp)} (hf : f_X8_text_93 n K26 v0 v2 h = some o) : Run X (d + 1) 146 93 [some (.ref v0), some (.int d1), some (.int v2)] [] h (some (.int o.1), o.2) := by
  unfold f_X8_text_93 at hf
  refine rs_iconst i_X8_text_93 (v := 0) (by decide) ?_
  exact r_X8_text_94 hd HK26 hf
def f_X8_text_78 (n : Nat) (K26 : Nat → Int32 → Int32 → Hp → Option (Int32 × Hp)) (v0 : Nat) (v1 : Int32) (v2 : Int32) (h : Hp) : Option (Int32 × Hp) :=
  if v1 = 0 then
    f_X8_text_93 n K26 v0 v2 h
  else
    if okO h v0 8 then
    (f_X8_eRead n v0 h).bind fun o2 =>
    if o2.1 = 0 then
      f_X8_text_93 n K26 v0 v2 o2.2
    else
      f_X8_text_94 n K26 v0 v2 1 o2.2
    else none
set_option maxRecDepth 100000 in
set_option maxHeartbeats 4000000 in
theorem r_X8_text_78 {X : Nat → Int32} {d : Nat} (hd : 4 ≤ (d + 1)) {n : Nat} {K26 : Nat → Int32 → Int32 → Hp → Option (Int32 × Hp)} (HK26 : ∀ (v0 : Nat) (v1 : Int32) (v2 : Int32) (h : Hp) (o : (Int32 × Hp)), K26 v0 v1 v2 h = some o → Run X (d + 1) 146 26 [some (.ref v0), some (.int v1), some (.int v2)] [] h (some (.int o.1), o.2)) {v0 : Nat} {v1 : Int32} {v2 : Int32} {h : Hp} {o : (Int32 × Hp)} (hf : f_X8_text_78 n K26 v0 v1 v2 h = some o) : Run X (d + 1) 146 78 [some (.ref v0), some (.int v1), some (.int v2)] [] h (some (.int o.1), o.2) := by
  unfold f_X8_text_78 at hf
  refine rs_iload_n i_X8_text_78 rfl ?_
  by_cases c1 : v1 = 0
  · replace hf := (if_pos c1).symm.trans hf
    refine rs_ifT i_X8_text_79 (ct_eq c1) (tg := 93) (by decide) ?_
    exact r_X8_text_93 hd HK26 hf
  · replace hf := (if_neg c1).symm.trans hf
    refine rs_ifF i_X8_text_79 (cf_eq c1) ?_
    refine rs_aload_n i_X8_text_82 rfl ?_
    obtain ⟨c3, hf⟩ := ite_some hf
    obtain ⟨o2, e2, hf⟩ := bind_some hf
    refine rs_inV i_X8_text_83 m_X8_eRead rfl (As := []) (rest := []) rfl rfl (Nat.le_of_ble_eq_true rfl) c3 (c_X8_eRead (by omega) e2) (st' := [.int o2.1]) rfl ?_
    by_cases c4 : o2.1 = 0
    · replace hf := (if_pos c4).symm.trans hf
      refine rs_ifT i_X8_text_86 (ct_eq c4) (tg := 93) (by decide) ?_
      exact r_X8_text_93 hd HK26 hf
    · replace hf := (if_neg c4).symm.trans hf
      refine rs_ifF i_X8_text_86 (cf_eq c4) ?_
      refine rs_iconst i_X8_text_89 (v := 1) (by decide) ?_
      refine rs_goto i_X8_text_90 (tg := 94) (by decide) ?_
      exact r_X8_text_94 hd HK26 hf
def f_X8_text_60 (n : Nat) (K26 : Nat → Int32 → Int32 → Hp → Option (Int32 × Hp)) (v0 : Nat) (v2 : Int32) (s0 : Int32) (h : Hp) : Option (Int32 × Hp) :=
  if okO h v0 8 then
  (gR h v0 12).bind fun a2 =>
  if okI h a2 ((4 * (gI h v0 13)) + v2) then
  f_X8_text_78 n K26 v0 s0 v2 (hsi h a2 (ix ((4 * (gI h v0 13)) + v2)) (gI h v0 34))
  else none
  else none
set_option maxRecDepth 100000 in
set_option maxHeartbeats 4000000 in
theorem r_X8_text_60 {X : Nat → Int32} {d : Nat} (hd : 4 ≤ (d + 1)) {n : Nat} {K26 : Nat → Int32 → Int32 → Hp → Option (Int32 × Hp)} (HK26 : ∀ (v0 : Nat) (v1 : Int32) (v2 : Int32) (h : Hp) (o : (Int32 × Hp)), K26 v0 v1 v2 h = some o → Run X (d + 1) 146 26 [some (.ref v0), some (.int v1), some (.int v2)] [] h (some (.int o.1), o.2)) {v0 : Nat} {v2 : Int32} {s0 : Int32} {d1 : Int32} {h : Hp} {o : (Int32 × Hp)} (hf : f_X8_text_60 n K26 v0 v2 s0 h = some o) : Run X (d + 1) 146 60 [some (.ref v0), some (.int d1), some (.int v2)] [.int s0] h (some (.int o.1), o.2) := by
  unfold f_X8_text_60 at hf
  refine rs_istore_n i_X8_text_60 (Nat.le_of_ble_eq_true rfl) (lv' := [some (.ref v0), some (.int s0), some (.int v2)]) rfl ?_
  refine rs_aload_n i_X8_text_61 rfl ?_
  obtain ⟨c1, hf⟩ := ite_some hf
  obtain ⟨a2, e2, hf⟩ := bind_some hf
  refine rs_getR i_X8_text_62 (by decide) (by decide) c1 e2 ?_
  refine rs_iconst i_X8_text_65 (v := 4) (by decide) ?_
  refine rs_aload_n i_X8_text_66 rfl ?_
  refine rs_getI i_X8_text_67 (by decide) (by decide) c1 ?_
  refine rs_imul i_X8_text_70 ?_
  refine rs_iload_n i_X8_text_71 rfl ?_
  refine rs_iadd i_X8_text_72 ?_
  refine rs_aload_n i_X8_text_73 rfl ?_
  refine rs_getI i_X8_text_74 (by decide) (by decide) c1 ?_
  obtain ⟨c3, hf⟩ := ite_some hf
  refine rs_iast i_X8_text_77 c3 ?_
  exact r_X8_text_78 hd HK26 hf
def f_X8_text_59 (n : Nat) (K26 : Nat → Int32 → Int32 → Hp → Option (Int32 × Hp)) (v0 : Nat) (v2 : Int32) (h : Hp) : Option (Int32 × Hp) :=
  f_X8_text_60 n K26 v0 v2 0 h
set_option maxRecDepth 100000 in
set_option maxHeartbeats 4000000 in
theorem r_X8_text_59 {X : Nat → Int32} {d : Nat} (hd : 4 ≤ (d + 1)) {n : Nat} {K26 : Nat → Int32 → Int32 → Hp → Option (Int32 × Hp)} (HK26 : ∀ (v0 : Nat) (v1 : Int32) (v2 : Int32) (h : Hp) (o : (Int32 × Hp)), K26 v0 v1 v2 h = some o → Run X (d + 1) 146 26 [some (.ref v0), some (.int v1), some (.int v2)] [] h (some (.int o.1), o.2)) {v0 : Nat} {v2 : Int32} {d1 : Int32} {h : Hp} {o : (Int32 × Hp)} (hf : f_X8_text_59 n K26 v0 v2 h = some o) : Run X (d + 1) 146 59 [some (.ref v0), some (.int d1), some (.int v2)] [] h (some (.int o.1), o.2) := by
  unfold f_X8_text_59 at hf
  refine rs_iconst i_X8_text_59 (v := 0) (by decide) ?_
  exact r_X8_text_60 hd HK26 hf
def f_X8_text_26 (n : Nat) : Nat → Nat → Int32 → Int32 → Hp → Option (Int32 × Hp)
  | 0, _, _, _, _ => none
  | m + 1, v0, v1, v2, h =>
    if 3 ≤ v2 then
      f_X8_text_101 n v0 v1 h
    else
      if v1 = 0 then
        f_X8_text_101 n v0 v1 h
      else
        if okO h v0 8 then
        (f_X8_next n v0 h).bind fun o3 =>
        if okO o3 v0 8 then
        if (gI o3 v0 28) ≠ 3 then
          f_X8_text_59 n (f_X8_text_26 n m) v0 v2 o3
        else
          if (gI o3 v0 29) ≠ v2 then
            f_X8_text_59 n (f_X8_text_26 n m) v0 v2 o3
          else
            f_X8_text_60 n (f_X8_text_26 n m) v0 v2 1 o3
        else none
        else none
set_option maxRecDepth 100000 in
set_option maxHeartbeats 4000000 in
theorem r_X8_text_26 {X : Nat → Int32} {d : Nat} (hd : 4 ≤ (d + 1)) {n : Nat} : ∀ (m : Nat) (v0 : Nat) (v1 : Int32) (v2 : Int32) (h : Hp) (o : (Int32 × Hp)), f_X8_text_26 n m v0 v1 v2 h = some o → Run X (d + 1) 146 26 [some (.ref v0), some (.int v1), some (.int v2)] [] h (some (.int o.1), o.2) := by
  intro m
  induction m with
  | zero => intro v0 v1 v2 h o hf; cases hf
  | succ m ih =>
    intro v0 v1 v2 h o hf
    rw [f_X8_text_26] at hf
    refine rs_iload_n i_X8_text_26 rfl ?_
    refine rs_iconst i_X8_text_27 (v := 3) (by decide) ?_
    by_cases c1 : 3 ≤ v2
    · replace hf := (if_pos c1).symm.trans hf
      refine rs_icT i_X8_text_28 (ct_ge c1) (tg := 101) (by decide) ?_
      exact r_X8_text_101 hd hf
    · replace hf := (if_neg c1).symm.trans hf
      refine rs_icF i_X8_text_28 (cf_ge c1) ?_
      refine rs_iload_n i_X8_text_31 rfl ?_
      by_cases c2 : v1 = 0
      · replace hf := (if_pos c2).symm.trans hf
        refine rs_ifT i_X8_text_32 (ct_eq c2) (tg := 101) (by decide) ?_
        exact r_X8_text_101 hd hf
      · replace hf := (if_neg c2).symm.trans hf
        refine rs_ifF i_X8_text_32 (cf_eq c2) ?_
        refine rs_aload_n i_X8_text_35 rfl ?_
        obtain ⟨c4, hf⟩ := ite_some hf
        obtain ⟨o3, e3, hf⟩ := bind_some hf
        refine rs_inV i_X8_text_36 m_X8_next rfl (As := []) (rest := []) rfl rfl (Nat.le_of_ble_eq_true rfl) c4 (c_X8_next (by omega) e3) (st' := []) rfl ?_
        refine rs_aload_n i_X8_text_39 rfl ?_
        obtain ⟨c5, hf⟩ := ite_some hf
        refine rs_getI i_X8_text_40 (by decide) (by decide) c5 ?_
        refine rs_iconst i_X8_text_43 (v := 3) (by decide) ?_
        by_cases c6 : (gI o3 v0 28) ≠ 3
        · replace hf := (if_pos c6).symm.trans hf
          refine rs_icT i_X8_text_44 (ct_ne c6) (tg := 59) (by decide) ?_
          exact r_X8_text_59 hd ih hf
        · replace hf := (if_neg c6).symm.trans hf
          refine rs_icF i_X8_text_44 (cf_ne c6) ?_
          refine rs_aload_n i_X8_text_47 rfl ?_
          refine rs_getI i_X8_text_48 (by decide) (by decide) c5 ?_
          refine rs_iload_n i_X8_text_51 rfl ?_
          by_cases c7 : (gI o3 v0 29) ≠ v2
          · replace hf := (if_pos c7).symm.trans hf
            refine rs_icT i_X8_text_52 (ct_ne c7) (tg := 59) (by decide) ?_
            exact r_X8_text_59 hd ih hf
          · replace hf := (if_neg c7).symm.trans hf
            refine rs_icF i_X8_text_52 (cf_ne c7) ?_
            refine rs_iconst i_X8_text_55 (v := 1) (by decide) ?_
            refine rs_goto i_X8_text_56 (tg := 60) (by decide) ?_
            exact r_X8_text_60 hd ih hf
def f_X8_text_17 (n : Nat) (v0 : Nat) (h : Hp) : Option (Int32 × Hp) :=
  if okO h v0 8 then
  f_X8_text_26 n n v0 1 0 (hsi h v0 34 0)
  else none
set_option maxRecDepth 100000 in
set_option maxHeartbeats 4000000 in
theorem r_X8_text_17 {X : Nat → Int32} {d : Nat} (hd : 4 ≤ (d + 1)) {n : Nat} {v0 : Nat} {h : Hp} {o : (Int32 × Hp)} (hf : f_X8_text_17 n v0 h = some o) : Run X (d + 1) 146 17 [some (.ref v0), none, none] [] h (some (.int o.1), o.2) := by
  unfold f_X8_text_17 at hf
  refine rs_aload_n i_X8_text_17 rfl ?_
  refine rs_iconst i_X8_text_18 (v := 0) (by decide) ?_
  obtain ⟨c1, hf⟩ := ite_some hf
  refine rs_putI i_X8_text_19 (by decide) c1 ?_
  refine rs_iconst i_X8_text_22 (v := 1) (by decide) ?_
  refine rs_istore_n i_X8_text_23 (Nat.le_of_ble_eq_true rfl) (lv' := [some (.ref v0), some (.int 1), none]) rfl ?_
  refine rs_iconst i_X8_text_24 (v := 0) (by decide) ?_
  refine rs_istore_n i_X8_text_25 (Nat.le_of_ble_eq_true rfl) (lv' := [some (.ref v0), some (.int 1), some (.int 0)]) rfl ?_
  exact r_X8_text_26 hd _ _ _ _ _ _ hf
def f_X8_text_0 (n : Nat) (v0 : Nat) (h : Hp) : Option (Int32 × Hp) :=
  if okO h v0 8 then
  if (gI h v0 13) ≠ 6 then
    f_X8_text_17 n v0 (hsi h v0 26 0)
  else
    some ((-4), h)
  else none
set_option maxRecDepth 100000 in
set_option maxHeartbeats 4000000 in
theorem r_X8_text_0 {X : Nat → Int32} {d : Nat} (hd : 4 ≤ (d + 1)) {n : Nat} {v0 : Nat} {h : Hp} {o : (Int32 × Hp)} (hf : f_X8_text_0 n v0 h = some o) : Run X (d + 1) 146 0 [some (.ref v0), none, none] [] h (some (.int o.1), o.2) := by
  unfold f_X8_text_0 at hf
  refine rs_aload_n i_X8_text_0 rfl ?_
  obtain ⟨c1, hf⟩ := ite_some hf
  refine rs_getI i_X8_text_1 (by decide) (by decide) c1 ?_
  refine rs_bipush i_X8_text_4 (v := 6) (by decide) ?_
  by_cases c2 : (gI h v0 13) ≠ 6
  · replace hf := (if_pos c2).symm.trans hf
    refine rs_icT i_X8_text_6 (ct_ne c2) (tg := 12) (by decide) ?_
    refine rs_aload_n i_X8_text_12 rfl ?_
    refine rs_iconst i_X8_text_13 (v := 0) (by decide) ?_
    refine rs_putI i_X8_text_14 (by decide) c1 ?_
    exact r_X8_text_17 hd hf
  · replace hf := (if_neg c2).symm.trans hf
    refine rs_icF i_X8_text_6 (cf_ne c2) ?_
    refine rs_bipush i_X8_text_9 (v := (-4)) (by decide) ?_
    have hf := Option.some.inj hf
    subst hf
    exact rs_iret i_X8_text_11 m_X8_text rfl
def f_X8_text (n : Nat) (v0 : Nat) (h : Hp) : Option (Int32 × Hp) := f_X8_text_0 n v0 h
theorem c_X8_text {X : Nat → Int32} {d : Nat} (hd : 4 ≤ d) {n : Nat} {v0 : Nat} {h : Hp} {o : (Int32 × Hp)} (hf : f_X8_text n v0 h = some o) : Calls X d 146 [.ref v0] h (some (.int o.1), o.2) := by
  obtain ⟨d, rfl⟩ : ∃ z, d = z + 1 := ⟨d - 1, by omega⟩
  exact ⟨_, rfl, r_X8_text_0 hd hf⟩
theorem i_X8_init_0 : fetch 125 0 = some (.aload_n 0, 1, 0, 0, 0, 0) := by decide +kernel
theorem i_X8_init_1 : fetch 125 1 = some (.invokespecial 1, 4, 1000, 0, 0, 960) := by decide +kernel
theorem i_X8_init_4 : fetch 125 4 = some (.aload_n 0, 5, 0, 0, 0, 0) := by decide +kernel
theorem i_X8_init_5 : fetch 125 5 = some (.bipush 12, 7, 0, 0, 0, 0) := by decide +kernel
theorem i_X8_init_7 : fetch 125 7 = some (.newarray .int, 9, 9, 0, 0, 0) := by decide +kernel
theorem i_X8_init_9 : fetch 125 9 = some (.dup, 10, 0, 0, 0, 0) := by decide +kernel
theorem i_X8_init_10 : fetch 125 10 = some (.iconst 0, 11, 0, 0, 0, 0) := by decide +kernel
theorem i_X8_init_11 : fetch 125 11 = some (.ldc 7, 13, 0, 0, 60000, 961) := by decide +kernel
theorem i_X8_init_13 : fetch 125 13 = some (.iastore, 14, 0, 0, 0, 0) := by decide +kernel
theorem i_X8_init_14 : fetch 125 14 = some (.dup, 15, 0, 0, 0, 0) := by decide +kernel
theorem i_X8_init_15 : fetch 125 15 = some (.iconst 1, 16, 0, 0, 0, 0) := by decide +kernel
theorem i_X8_init_16 : fetch 125 16 = some (.ldc 7, 18, 0, 0, 60000, 961) := by decide +kernel
theorem i_X8_init_18 : fetch 125 18 = some (.iastore, 19, 0, 0, 0, 0) := by decide +kernel
theorem i_X8_init_19 : fetch 125 19 = some (.dup, 20, 0, 0, 0, 0) := by decide +kernel
theorem i_X8_init_20 : fetch 125 20 = some (.iconst 2, 21, 0, 0, 0, 0) := by decide +kernel
theorem i_X8_init_21 : fetch 125 21 = some (.ldc 7, 23, 0, 0, 60000, 961) := by decide +kernel
theorem i_X8_init_23 : fetch 125 23 = some (.iastore, 24, 0, 0, 0, 0) := by decide +kernel
theorem i_X8_init_24 : fetch 125 24 = some (.dup, 25, 0, 0, 0, 0) := by decide +kernel
theorem i_X8_init_25 : fetch 125 25 = some (.iconst 3, 26, 0, 0, 0, 0) := by decide +kernel
theorem i_X8_init_26 : fetch 125 26 = some (.ldc 7, 28, 0, 0, 60000, 961) := by decide +kernel
theorem i_X8_init_28 : fetch 125 28 = some (.iastore, 29, 0, 0, 0, 0) := by decide +kernel
theorem i_X8_init_29 : fetch 125 29 = some (.dup, 30, 0, 0, 0, 0) := by decide +kernel
theorem i_X8_init_30 : fetch 125 30 = some (.iconst 4, 31, 0, 0, 0, 0) := by decide +kernel
theorem i_X8_init_31 : fetch 125 31 = some (.ldc 7, 33, 0, 0, 60000, 961) := by decide +kernel
theorem i_X8_init_33 : fetch 125 33 = some (.iastore, 34, 0, 0, 0, 0) := by decide +kernel
theorem i_X8_init_34 : fetch 125 34 = some (.dup, 35, 0, 0, 0, 0) := by decide +kernel
theorem i_X8_init_35 : fetch 125 35 = some (.iconst 5, 36, 0, 0, 0, 0) := by decide +kernel
theorem i_X8_init_36 : fetch 125 36 = some (.ldc 7, 38, 0, 0, 60000, 961) := by decide +kernel
theorem i_X8_init_38 : fetch 125 38 = some (.iastore, 39, 0, 0, 0, 0) := by decide +kernel
theorem i_X8_init_39 : fetch 125 39 = some (.dup, 40, 0, 0, 0, 0) := by decide +kernel
theorem i_X8_init_40 : fetch 125 40 = some (.bipush 6, 42, 0, 0, 0, 0) := by decide +kernel
theorem i_X8_init_42 : fetch 125 42 = some (.ldc 7, 44, 0, 0, 60000, 961) := by decide +kernel
theorem i_X8_init_44 : fetch 125 44 = some (.iastore, 45, 0, 0, 0, 0) := by decide +kernel
theorem i_X8_init_45 : fetch 125 45 = some (.dup, 46, 0, 0, 0, 0) := by decide +kernel
theorem i_X8_init_46 : fetch 125 46 = some (.bipush 7, 48, 0, 0, 0, 0) := by decide +kernel
theorem i_X8_init_48 : fetch 125 48 = some (.ldc 7, 50, 0, 0, 60000, 961) := by decide +kernel
theorem i_X8_init_50 : fetch 125 50 = some (.iastore, 51, 0, 0, 0, 0) := by decide +kernel
theorem i_X8_init_51 : fetch 125 51 = some (.dup, 52, 0, 0, 0, 0) := by decide +kernel
theorem i_X8_init_52 : fetch 125 52 = some (.bipush 8, 54, 0, 0, 0, 0) := by decide +kernel
theorem i_X8_init_54 : fetch 125 54 = some (.ldc 7, 56, 0, 0, 60000, 961) := by decide +kernel
theorem i_X8_init_56 : fetch 125 56 = some (.iastore, 57, 0, 0, 0, 0) := by decide +kernel
theorem i_X8_init_57 : fetch 125 57 = some (.dup, 58, 0, 0, 0, 0) := by decide +kernel
theorem i_X8_init_58 : fetch 125 58 = some (.bipush 9, 60, 0, 0, 0, 0) := by decide +kernel
theorem i_X8_init_60 : fetch 125 60 = some (.ldc 7, 62, 0, 0, 60000, 961) := by decide +kernel
theorem i_X8_init_62 : fetch 125 62 = some (.iastore, 63, 0, 0, 0, 0) := by decide +kernel
theorem i_X8_init_63 : fetch 125 63 = some (.dup, 64, 0, 0, 0, 0) := by decide +kernel
theorem i_X8_init_64 : fetch 125 64 = some (.bipush 10, 66, 0, 0, 0, 0) := by decide +kernel
theorem i_X8_init_66 : fetch 125 66 = some (.ldc 7, 68, 0, 0, 60000, 961) := by decide +kernel
theorem i_X8_init_68 : fetch 125 68 = some (.iastore, 69, 0, 0, 0, 0) := by decide +kernel
theorem i_X8_init_69 : fetch 125 69 = some (.dup, 70, 0, 0, 0, 0) := by decide +kernel
theorem i_X8_init_70 : fetch 125 70 = some (.bipush 11, 72, 0, 0, 0, 0) := by decide +kernel
theorem i_X8_init_72 : fetch 125 72 = some (.ldc 7, 74, 0, 0, 60000, 961) := by decide +kernel
theorem i_X8_init_74 : fetch 125 74 = some (.iastore, 75, 0, 0, 0, 0) := by decide +kernel
theorem i_X8_init_75 : fetch 125 75 = some (.putfield 8, 78, 8, 0, 0, 1009) := by decide +kernel
theorem i_X8_init_78 : fetch 125 78 = some (.aload_n 0, 79, 0, 0, 0, 0) := by decide +kernel
theorem i_X8_init_79 : fetch 125 79 = some (.bipush 12, 81, 0, 0, 0, 0) := by decide +kernel
theorem i_X8_init_81 : fetch 125 81 = some (.newarray .int, 83, 9, 0, 0, 0) := by decide +kernel
theorem i_X8_init_83 : fetch 125 83 = some (.dup, 84, 0, 0, 0, 0) := by decide +kernel
theorem i_X8_init_84 : fetch 125 84 = some (.iconst 0, 85, 0, 0, 0, 0) := by decide +kernel
theorem i_X8_init_85 : fetch 125 85 = some (.bipush 100, 87, 0, 0, 0, 0) := by decide +kernel
theorem i_X8_init_87 : fetch 125 87 = some (.iastore, 88, 0, 0, 0, 0) := by decide +kernel
theorem i_X8_init_88 : fetch 125 88 = some (.dup, 89, 0, 0, 0, 0) := by decide +kernel
theorem i_X8_init_89 : fetch 125 89 = some (.iconst 1, 90, 0, 0, 0, 0) := by decide +kernel
theorem i_X8_init_90 : fetch 125 90 = some (.bipush 100, 92, 0, 0, 0, 0) := by decide +kernel
theorem i_X8_init_92 : fetch 125 92 = some (.iastore, 93, 0, 0, 0, 0) := by decide +kernel
theorem i_X8_init_93 : fetch 125 93 = some (.dup, 94, 0, 0, 0, 0) := by decide +kernel
theorem i_X8_init_94 : fetch 125 94 = some (.iconst 2, 95, 0, 0, 0, 0) := by decide +kernel
theorem i_X8_init_95 : fetch 125 95 = some (.bipush 100, 97, 0, 0, 0, 0) := by decide +kernel
theorem i_X8_init_97 : fetch 125 97 = some (.iastore, 98, 0, 0, 0, 0) := by decide +kernel
theorem i_X8_init_98 : fetch 125 98 = some (.dup, 99, 0, 0, 0, 0) := by decide +kernel
theorem i_X8_init_99 : fetch 125 99 = some (.iconst 3, 100, 0, 0, 0, 0) := by decide +kernel
theorem i_X8_init_100 : fetch 125 100 = some (.bipush 100, 102, 0, 0, 0, 0) := by decide +kernel
theorem i_X8_init_102 : fetch 125 102 = some (.iastore, 103, 0, 0, 0, 0) := by decide +kernel
theorem i_X8_init_103 : fetch 125 103 = some (.dup, 104, 0, 0, 0, 0) := by decide +kernel
theorem i_X8_init_104 : fetch 125 104 = some (.iconst 4, 105, 0, 0, 0, 0) := by decide +kernel
theorem i_X8_init_105 : fetch 125 105 = some (.bipush 100, 107, 0, 0, 0, 0) := by decide +kernel
theorem i_X8_init_107 : fetch 125 107 = some (.iastore, 108, 0, 0, 0, 0) := by decide +kernel
theorem i_X8_init_108 : fetch 125 108 = some (.dup, 109, 0, 0, 0, 0) := by decide +kernel
theorem i_X8_init_109 : fetch 125 109 = some (.iconst 5, 110, 0, 0, 0, 0) := by decide +kernel
theorem i_X8_init_110 : fetch 125 110 = some (.bipush 100, 112, 0, 0, 0, 0) := by decide +kernel
theorem i_X8_init_112 : fetch 125 112 = some (.iastore, 113, 0, 0, 0, 0) := by decide +kernel
theorem i_X8_init_113 : fetch 125 113 = some (.dup, 114, 0, 0, 0, 0) := by decide +kernel
theorem i_X8_init_114 : fetch 125 114 = some (.bipush 6, 116, 0, 0, 0, 0) := by decide +kernel
theorem i_X8_init_116 : fetch 125 116 = some (.bipush 100, 118, 0, 0, 0, 0) := by decide +kernel
theorem i_X8_init_118 : fetch 125 118 = some (.iastore, 119, 0, 0, 0, 0) := by decide +kernel
theorem i_X8_init_119 : fetch 125 119 = some (.dup, 120, 0, 0, 0, 0) := by decide +kernel
theorem i_X8_init_120 : fetch 125 120 = some (.bipush 7, 122, 0, 0, 0, 0) := by decide +kernel
theorem i_X8_init_122 : fetch 125 122 = some (.bipush 100, 124, 0, 0, 0, 0) := by decide +kernel
theorem i_X8_init_124 : fetch 125 124 = some (.iastore, 125, 0, 0, 0, 0) := by decide +kernel
theorem i_X8_init_125 : fetch 125 125 = some (.dup, 126, 0, 0, 0, 0) := by decide +kernel
theorem i_X8_init_126 : fetch 125 126 = some (.bipush 8, 128, 0, 0, 0, 0) := by decide +kernel
theorem i_X8_init_128 : fetch 125 128 = some (.bipush 100, 130, 0, 0, 0, 0) := by decide +kernel
theorem i_X8_init_130 : fetch 125 130 = some (.iastore, 131, 0, 0, 0, 0) := by decide +kernel
theorem i_X8_init_131 : fetch 125 131 = some (.dup, 132, 0, 0, 0, 0) := by decide +kernel
theorem i_X8_init_132 : fetch 125 132 = some (.bipush 9, 134, 0, 0, 0, 0) := by decide +kernel
theorem i_X8_init_134 : fetch 125 134 = some (.bipush 100, 136, 0, 0, 0, 0) := by decide +kernel
theorem i_X8_init_136 : fetch 125 136 = some (.iastore, 137, 0, 0, 0, 0) := by decide +kernel
theorem i_X8_init_137 : fetch 125 137 = some (.dup, 138, 0, 0, 0, 0) := by decide +kernel
theorem i_X8_init_138 : fetch 125 138 = some (.bipush 10, 140, 0, 0, 0, 0) := by decide +kernel
theorem i_X8_init_140 : fetch 125 140 = some (.bipush 100, 142, 0, 0, 0, 0) := by decide +kernel
theorem i_X8_init_142 : fetch 125 142 = some (.iastore, 143, 0, 0, 0, 0) := by decide +kernel
theorem i_X8_init_143 : fetch 125 143 = some (.dup, 144, 0, 0, 0, 0) := by decide +kernel
theorem i_X8_init_144 : fetch 125 144 = some (.bipush 11, 146, 0, 0, 0, 0) := by decide +kernel
theorem i_X8_init_146 : fetch 125 146 = some (.bipush 100, 148, 0, 0, 0, 0) := by decide +kernel
theorem i_X8_init_148 : fetch 125 148 = some (.iastore, 149, 0, 0, 0, 0) := by decide +kernel
theorem i_X8_init_149 : fetch 125 149 = some (.putfield 14, 152, 8, 1, 0, 1010) := by decide +kernel
theorem i_X8_init_152 : fetch 125 152 = some (.aload_n 0, 153, 0, 0, 0, 0) := by decide +kernel
theorem i_X8_init_153 : fetch 125 153 = some (.iconst 5, 154, 0, 0, 0, 0) := by decide +kernel
theorem i_X8_init_154 : fetch 125 154 = some (.putfield 17, 157, 8, 2, 0, 1011) := by decide +kernel
theorem i_X8_init_157 : fetch 125 157 = some (.aload_n 0, 158, 0, 0, 0, 0) := by decide +kernel
theorem i_X8_init_158 : fetch 125 158 = some (.iconst 2, 159, 0, 0, 0, 0) := by decide +kernel
theorem i_X8_init_159 : fetch 125 159 = some (.putfield 21, 162, 8, 3, 0, 1012) := by decide +kernel
theorem i_X8_init_162 : fetch 125 162 = some (.aload_n 0, 163, 0, 0, 0, 0) := by decide +kernel
theorem i_X8_init_163 : fetch 125 163 = some (.iconst 5, 164, 0, 0, 0, 0) := by decide +kernel
theorem i_X8_init_164 : fetch 125 164 = some (.putfield 24, 167, 8, 4, 0, 1013) := by decide +kernel
theorem i_X8_init_167 : fetch 125 167 = some (.aload_n 0, 168, 0, 0, 0, 0) := by decide +kernel
theorem i_X8_init_168 : fetch 125 168 = some (.bipush 12, 170, 0, 0, 0, 0) := by decide +kernel
theorem i_X8_init_170 : fetch 125 170 = some (.newarray .int, 172, 9, 0, 0, 0) := by decide +kernel
theorem i_X8_init_172 : fetch 125 172 = some (.putfield 27, 175, 8, 6, 0, 1015) := by decide +kernel
theorem i_X8_init_175 : fetch 125 175 = some (.aload_n 0, 176, 0, 0, 0, 0) := by decide +kernel
theorem i_X8_init_176 : fetch 125 176 = some (.bipush 12, 178, 0, 0, 0, 0) := by decide +kernel
theorem i_X8_init_178 : fetch 125 178 = some (.newarray .int, 180, 9, 0, 0, 0) := by decide +kernel
theorem i_X8_init_180 : fetch 125 180 = some (.putfield 30, 183, 8, 7, 0, 1016) := by decide +kernel
theorem i_X8_init_183 : fetch 125 183 = some (.aload_n 0, 184, 0, 0, 0, 0) := by decide +kernel
theorem i_X8_init_184 : fetch 125 184 = some (.bipush 12, 186, 0, 0, 0, 0) := by decide +kernel
theorem i_X8_init_186 : fetch 125 186 = some (.newarray .int, 188, 9, 0, 0, 0) := by decide +kernel
theorem i_X8_init_188 : fetch 125 188 = some (.putfield 33, 191, 8, 8, 0, 1017) := by decide +kernel
theorem i_X8_init_191 : fetch 125 191 = some (.aload_n 0, 192, 0, 0, 0, 0) := by decide +kernel
theorem i_X8_init_192 : fetch 125 192 = some (.sipush 160, 195, 0, 0, 0, 0) := by decide +kernel
theorem i_X8_init_195 : fetch 125 195 = some (.newarray .int, 197, 9, 0, 0, 0) := by decide +kernel
theorem i_X8_init_197 : fetch 125 197 = some (.putfield 36, 200, 8, 9, 0, 1018) := by decide +kernel
theorem i_X8_init_200 : fetch 125 200 = some (.aload_n 0, 201, 0, 0, 0, 0) := by decide +kernel
theorem i_X8_init_201 : fetch 125 201 = some (.sipush 1200, 204, 0, 0, 0, 0) := by decide +kernel
theorem i_X8_init_204 : fetch 125 204 = some (.newarray .int, 206, 9, 0, 0, 0) := by decide +kernel
theorem i_X8_init_206 : fetch 125 206 = some (.putfield 39, 209, 8, 11, 0, 1020) := by decide +kernel
theorem i_X8_init_209 : fetch 125 209 = some (.aload_n 0, 210, 0, 0, 0, 0) := by decide +kernel
theorem i_X8_init_210 : fetch 125 210 = some (.bipush 24, 212, 0, 0, 0, 0) := by decide +kernel
theorem i_X8_init_212 : fetch 125 212 = some (.newarray .int, 214, 9, 0, 0, 0) := by decide +kernel
theorem i_X8_init_214 : fetch 125 214 = some (.putfield 42, 217, 8, 12, 0, 1021) := by decide +kernel
theorem i_X8_init_217 : fetch 125 217 = some (.aload_n 0, 218, 0, 0, 0, 0) := by decide +kernel
theorem i_X8_init_218 : fetch 125 218 = some (.bipush 12, 220, 0, 0, 0, 0) := by decide +kernel
theorem i_X8_init_220 : fetch 125 220 = some (.newarray .int, 222, 9, 0, 0, 0) := by decide +kernel
theorem i_X8_init_222 : fetch 125 222 = some (.putfield 45, 225, 8, 20, 0, 1029) := by decide +kernel
theorem i_X8_init_225 : fetch 125 225 = some (.aload_n 0, 226, 0, 0, 0, 0) := by decide +kernel
theorem i_X8_init_226 : fetch 125 226 = some (.bipush 12, 228, 0, 0, 0, 0) := by decide +kernel
theorem i_X8_init_228 : fetch 125 228 = some (.newarray .int, 230, 9, 0, 0, 0) := by decide +kernel
theorem i_X8_init_230 : fetch 125 230 = some (.putfield 48, 233, 8, 21, 0, 1030) := by decide +kernel
theorem i_X8_init_233 : fetch 125 233 = some (.aload_n 0, 234, 0, 0, 0, 0) := by decide +kernel
theorem i_X8_init_234 : fetch 125 234 = some (.iconst 4, 235, 0, 0, 0, 0) := by decide +kernel
theorem i_X8_init_235 : fetch 125 235 = some (.newarray .int, 237, 9, 0, 0, 0) := by decide +kernel
theorem i_X8_init_237 : fetch 125 237 = some (.dup, 238, 0, 0, 0, 0) := by decide +kernel
theorem i_X8_init_238 : fetch 125 238 = some (.iconst 0, 239, 0, 0, 0, 0) := by decide +kernel
theorem i_X8_init_239 : fetch 125 239 = some (.iconst (-1), 240, 0, 0, 0, 0) := by decide +kernel
theorem i_X8_init_240 : fetch 125 240 = some (.iastore, 241, 0, 0, 0, 0) := by decide +kernel
theorem i_X8_init_241 : fetch 125 241 = some (.dup, 242, 0, 0, 0, 0) := by decide +kernel
theorem i_X8_init_242 : fetch 125 242 = some (.iconst 1, 243, 0, 0, 0, 0) := by decide +kernel
theorem i_X8_init_243 : fetch 125 243 = some (.iconst (-1), 244, 0, 0, 0, 0) := by decide +kernel
theorem i_X8_init_244 : fetch 125 244 = some (.iastore, 245, 0, 0, 0, 0) := by decide +kernel
theorem i_X8_init_245 : fetch 125 245 = some (.dup, 246, 0, 0, 0, 0) := by decide +kernel
theorem i_X8_init_246 : fetch 125 246 = some (.iconst 2, 247, 0, 0, 0, 0) := by decide +kernel
theorem i_X8_init_247 : fetch 125 247 = some (.iconst (-1), 248, 0, 0, 0, 0) := by decide +kernel
theorem i_X8_init_248 : fetch 125 248 = some (.iastore, 249, 0, 0, 0, 0) := by decide +kernel
theorem i_X8_init_249 : fetch 125 249 = some (.dup, 250, 0, 0, 0, 0) := by decide +kernel
theorem i_X8_init_250 : fetch 125 250 = some (.iconst 3, 251, 0, 0, 0, 0) := by decide +kernel
theorem i_X8_init_251 : fetch 125 251 = some (.iconst (-1), 252, 0, 0, 0, 0) := by decide +kernel
theorem i_X8_init_252 : fetch 125 252 = some (.iastore, 253, 0, 0, 0, 0) := by decide +kernel
theorem i_X8_init_253 : fetch 125 253 = some (.putfield 51, 256, 8, 22, 0, 1031) := by decide +kernel
theorem i_X8_init_256 : fetch 125 256 = some (.aload_n 0, 257, 0, 0, 0, 0) := by decide +kernel
theorem i_X8_init_257 : fetch 125 257 = some (.iconst 4, 258, 0, 0, 0, 0) := by decide +kernel
theorem i_X8_init_258 : fetch 125 258 = some (.newarray .int, 260, 9, 0, 0, 0) := by decide +kernel
theorem i_X8_init_260 : fetch 125 260 = some (.putfield 54, 263, 8, 23, 0, 1032) := by decide +kernel
theorem i_X8_init_263 : fetch 125 263 = some (.aload_n 0, 264, 0, 0, 0, 0) := by decide +kernel
theorem i_X8_init_264 : fetch 125 264 = some (.sipush 160, 267, 0, 0, 0, 0) := by decide +kernel
theorem i_X8_init_267 : fetch 125 267 = some (.newarray .int, 269, 9, 0, 0, 0) := by decide +kernel
theorem i_X8_init_269 : fetch 125 269 = some (.putfield 57, 272, 8, 24, 0, 1033) := by decide +kernel
theorem i_X8_init_272 : fetch 125 272 = some (.aload_n 0, 273, 0, 0, 0, 0) := by decide +kernel
theorem i_X8_init_273 : fetch 125 273 = some (.bipush 83, 275, 0, 0, 0, 0) := by decide +kernel
theorem i_X8_init_275 : fetch 125 275 = some (.newarray .int, 277, 9, 0, 0, 0) := by decide +kernel
theorem i_X8_init_277 : fetch 125 277 = some (.dup, 278, 0, 0, 0, 0) := by decide +kernel
theorem i_X8_init_278 : fetch 125 278 = some (.iconst 0, 279, 0, 0, 0, 0) := by decide +kernel
theorem i_X8_init_279 : fetch 125 279 = some (.bipush 100, 281, 0, 0, 0, 0) := by decide +kernel
theorem i_X8_init_281 : fetch 125 281 = some (.iastore, 282, 0, 0, 0, 0) := by decide +kernel
theorem i_X8_init_282 : fetch 125 282 = some (.dup, 283, 0, 0, 0, 0) := by decide +kernel
theorem i_X8_init_283 : fetch 125 283 = some (.iconst 1, 284, 0, 0, 0, 0) := by decide +kernel
theorem i_X8_init_284 : fetch 125 284 = some (.bipush 114, 286, 0, 0, 0, 0) := by decide +kernel
theorem i_X8_init_286 : fetch 125 286 = some (.iastore, 287, 0, 0, 0, 0) := by decide +kernel
theorem i_X8_init_287 : fetch 125 287 = some (.dup, 288, 0, 0, 0, 0) := by decide +kernel
theorem i_X8_init_288 : fetch 125 288 = some (.iconst 2, 289, 0, 0, 0, 0) := by decide +kernel
theorem i_X8_init_289 : fetch 125 289 = some (.bipush 97, 291, 0, 0, 0, 0) := by decide +kernel
theorem i_X8_init_291 : fetch 125 291 = some (.iastore, 292, 0, 0, 0, 0) := by decide +kernel
theorem i_X8_init_292 : fetch 125 292 = some (.dup, 293, 0, 0, 0, 0) := by decide +kernel
theorem i_X8_init_293 : fetch 125 293 = some (.iconst 3, 294, 0, 0, 0, 0) := by decide +kernel
theorem i_X8_init_294 : fetch 125 294 = some (.bipush 119, 296, 0, 0, 0, 0) := by decide +kernel
theorem i_X8_init_296 : fetch 125 296 = some (.iastore, 297, 0, 0, 0, 0) := by decide +kernel
theorem i_X8_init_297 : fetch 125 297 = some (.dup, 298, 0, 0, 0, 0) := by decide +kernel
theorem i_X8_init_298 : fetch 125 298 = some (.iconst 4, 299, 0, 0, 0, 0) := by decide +kernel
theorem i_X8_init_299 : fetch 125 299 = some (.bipush 32, 301, 0, 0, 0, 0) := by decide +kernel
theorem i_X8_init_301 : fetch 125 301 = some (.iastore, 302, 0, 0, 0, 0) := by decide +kernel
theorem i_X8_init_302 : fetch 125 302 = some (.dup, 303, 0, 0, 0, 0) := by decide +kernel
theorem i_X8_init_303 : fetch 125 303 = some (.iconst 5, 304, 0, 0, 0, 0) := by decide +kernel
theorem i_X8_init_304 : fetch 125 304 = some (.bipush 50, 306, 0, 0, 0, 0) := by decide +kernel
theorem i_X8_init_306 : fetch 125 306 = some (.iastore, 307, 0, 0, 0, 0) := by decide +kernel
theorem i_X8_init_307 : fetch 125 307 = some (.dup, 308, 0, 0, 0, 0) := by decide +kernel
theorem i_X8_init_308 : fetch 125 308 = some (.bipush 6, 310, 0, 0, 0, 0) := by decide +kernel
theorem i_X8_init_310 : fetch 125 310 = some (.bipush 48, 312, 0, 0, 0, 0) := by decide +kernel
theorem i_X8_init_312 : fetch 125 312 = some (.iastore, 313, 0, 0, 0, 0) := by decide +kernel
theorem i_X8_init_313 : fetch 125 313 = some (.dup, 314, 0, 0, 0, 0) := by decide +kernel
theorem i_X8_init_314 : fetch 125 314 = some (.bipush 7, 316, 0, 0, 0, 0) := by decide +kernel
theorem i_X8_init_316 : fetch 125 316 = some (.bipush 32, 318, 0, 0, 0, 0) := by decide +kernel
theorem i_X8_init_318 : fetch 125 318 = some (.iastore, 319, 0, 0, 0, 0) := by decide +kernel
theorem i_X8_init_319 : fetch 125 319 = some (.dup, 320, 0, 0, 0, 0) := by decide +kernel
theorem i_X8_init_320 : fetch 125 320 = some (.bipush 8, 322, 0, 0, 0, 0) := by decide +kernel
theorem i_X8_init_322 : fetch 125 322 = some (.bipush 43, 324, 0, 0, 0, 0) := by decide +kernel
theorem i_X8_init_324 : fetch 125 324 = some (.iastore, 325, 0, 0, 0, 0) := by decide +kernel
theorem i_X8_init_325 : fetch 125 325 = some (.dup, 326, 0, 0, 0, 0) := by decide +kernel
theorem i_X8_init_326 : fetch 125 326 = some (.bipush 9, 328, 0, 0, 0, 0) := by decide +kernel
theorem i_X8_init_328 : fetch 125 328 = some (.bipush 32, 330, 0, 0, 0, 0) := by decide +kernel
theorem i_X8_init_330 : fetch 125 330 = some (.iastore, 331, 0, 0, 0, 0) := by decide +kernel
theorem i_X8_init_331 : fetch 125 331 = some (.dup, 332, 0, 0, 0, 0) := by decide +kernel
theorem i_X8_init_332 : fetch 125 332 = some (.bipush 10, 334, 0, 0, 0, 0) := by decide +kernel
theorem i_X8_init_334 : fetch 125 334 = some (.bipush 119, 336, 0, 0, 0, 0) := by decide +kernel
theorem i_X8_init_336 : fetch 125 336 = some (.iastore, 337, 0, 0, 0, 0) := by decide +kernel
theorem i_X8_init_337 : fetch 125 337 = some (.dup, 338, 0, 0, 0, 0) := by decide +kernel
theorem i_X8_init_338 : fetch 125 338 = some (.bipush 11, 340, 0, 0, 0, 0) := by decide +kernel
theorem i_X8_init_340 : fetch 125 340 = some (.bipush 101, 342, 0, 0, 0, 0) := by decide +kernel
theorem i_X8_init_342 : fetch 125 342 = some (.iastore, 343, 0, 0, 0, 0) := by decide +kernel
theorem i_X8_init_343 : fetch 125 343 = some (.dup, 344, 0, 0, 0, 0) := by decide +kernel
theorem i_X8_init_344 : fetch 125 344 = some (.bipush 12, 346, 0, 0, 0, 0) := by decide +kernel
theorem i_X8_init_346 : fetch 125 346 = some (.bipush 116, 348, 0, 0, 0, 0) := by decide +kernel
theorem i_X8_init_348 : fetch 125 348 = some (.iastore, 349, 0, 0, 0, 0) := by decide +kernel
theorem i_X8_init_349 : fetch 125 349 = some (.dup, 350, 0, 0, 0, 0) := by decide +kernel
theorem i_X8_init_350 : fetch 125 350 = some (.bipush 13, 352, 0, 0, 0, 0) := by decide +kernel
theorem i_X8_init_352 : fetch 125 352 = some (.bipush 32, 354, 0, 0, 0, 0) := by decide +kernel
theorem i_X8_init_354 : fetch 125 354 = some (.iastore, 355, 0, 0, 0, 0) := by decide +kernel
theorem i_X8_init_355 : fetch 125 355 = some (.dup, 356, 0, 0, 0, 0) := by decide +kernel
theorem i_X8_init_356 : fetch 125 356 = some (.bipush 14, 358, 0, 0, 0, 0) := by decide +kernel
theorem i_X8_init_358 : fetch 125 358 = some (.bipush 42, 360, 0, 0, 0, 0) := by decide +kernel
theorem i_X8_init_360 : fetch 125 360 = some (.iastore, 361, 0, 0, 0, 0) := by decide +kernel
theorem i_X8_init_361 : fetch 125 361 = some (.dup, 362, 0, 0, 0, 0) := by decide +kernel
theorem i_X8_init_362 : fetch 125 362 = some (.bipush 15, 364, 0, 0, 0, 0) := by decide +kernel
theorem i_X8_init_364 : fetch 125 364 = some (.bipush 32, 366, 0, 0, 0, 0) := by decide +kernel
theorem i_X8_init_366 : fetch 125 366 = some (.iastore, 367, 0, 0, 0, 0) := by decide +kernel
theorem i_X8_init_367 : fetch 125 367 = some (.dup, 368, 0, 0, 0, 0) := by decide +kernel
theorem i_X8_init_368 : fetch 125 368 = some (.bipush 16, 370, 0, 0, 0, 0) := by decide +kernel
theorem i_X8_init_370 : fetch 125 370 = some (.bipush 50, 372, 0, 0, 0, 0) := by decide +kernel
theorem i_X8_init_372 : fetch 125 372 = some (.iastore, 373, 0, 0, 0, 0) := by decide +kernel
theorem i_X8_init_373 : fetch 125 373 = some (.dup, 374, 0, 0, 0, 0) := by decide +kernel
theorem i_X8_init_374 : fetch 125 374 = some (.bipush 17, 376, 0, 0, 0, 0) := by decide +kernel
theorem i_X8_init_376 : fetch 125 376 = some (.bipush 32, 378, 0, 0, 0, 0) := by decide +kernel
theorem i_X8_init_378 : fetch 125 378 = some (.iastore, 379, 0, 0, 0, 0) := by decide +kernel
theorem i_X8_init_379 : fetch 125 379 = some (.dup, 380, 0, 0, 0, 0) := by decide +kernel
theorem i_X8_init_380 : fetch 125 380 = some (.bipush 18, 382, 0, 0, 0, 0) := by decide +kernel
theorem i_X8_init_382 : fetch 125 382 = some (.bipush 45, 384, 0, 0, 0, 0) := by decide +kernel
theorem i_X8_init_384 : fetch 125 384 = some (.iastore, 385, 0, 0, 0, 0) := by decide +kernel
theorem i_X8_init_385 : fetch 125 385 = some (.dup, 386, 0, 0, 0, 0) := by decide +kernel
theorem i_X8_init_386 : fetch 125 386 = some (.bipush 19, 388, 0, 0, 0, 0) := by decide +kernel
theorem i_X8_init_388 : fetch 125 388 = some (.bipush 32, 390, 0, 0, 0, 0) := by decide +kernel
theorem i_X8_init_390 : fetch 125 390 = some (.iastore, 391, 0, 0, 0, 0) := by decide +kernel
theorem i_X8_init_391 : fetch 125 391 = some (.dup, 392, 0, 0, 0, 0) := by decide +kernel
theorem i_X8_init_392 : fetch 125 392 = some (.bipush 20, 394, 0, 0, 0, 0) := by decide +kernel
theorem i_X8_init_394 : fetch 125 394 = some (.bipush 115, 396, 0, 0, 0, 0) := by decide +kernel
theorem i_X8_init_396 : fetch 125 396 = some (.iastore, 397, 0, 0, 0, 0) := by decide +kernel
theorem i_X8_init_397 : fetch 125 397 = some (.dup, 398, 0, 0, 0, 0) := by decide +kernel
theorem i_X8_init_398 : fetch 125 398 = some (.bipush 21, 400, 0, 0, 0, 0) := by decide +kernel
theorem i_X8_init_400 : fetch 125 400 = some (.bipush 116, 402, 0, 0, 0, 0) := by decide +kernel
theorem i_X8_init_402 : fetch 125 402 = some (.iastore, 403, 0, 0, 0, 0) := by decide +kernel
theorem i_X8_init_403 : fetch 125 403 = some (.dup, 404, 0, 0, 0, 0) := by decide +kernel
theorem i_X8_init_404 : fetch 125 404 = some (.bipush 22, 406, 0, 0, 0, 0) := by decide +kernel
theorem i_X8_init_406 : fetch 125 406 = some (.bipush 105, 408, 0, 0, 0, 0) := by decide +kernel
theorem i_X8_init_408 : fetch 125 408 = some (.iastore, 409, 0, 0, 0, 0) := by decide +kernel
theorem i_X8_init_409 : fetch 125 409 = some (.dup, 410, 0, 0, 0, 0) := by decide +kernel
theorem i_X8_init_410 : fetch 125 410 = some (.bipush 23, 412, 0, 0, 0, 0) := by decide +kernel
theorem i_X8_init_412 : fetch 125 412 = some (.bipush 102, 414, 0, 0, 0, 0) := by decide +kernel
theorem i_X8_init_414 : fetch 125 414 = some (.iastore, 415, 0, 0, 0, 0) := by decide +kernel
theorem i_X8_init_415 : fetch 125 415 = some (.dup, 416, 0, 0, 0, 0) := by decide +kernel
theorem i_X8_init_416 : fetch 125 416 = some (.bipush 24, 418, 0, 0, 0, 0) := by decide +kernel
theorem i_X8_init_418 : fetch 125 418 = some (.bipush 102, 420, 0, 0, 0, 0) := by decide +kernel
theorem i_X8_init_420 : fetch 125 420 = some (.iastore, 421, 0, 0, 0, 0) := by decide +kernel
theorem i_X8_init_421 : fetch 125 421 = some (.dup, 422, 0, 0, 0, 0) := by decide +kernel
theorem i_X8_init_422 : fetch 125 422 = some (.bipush 25, 424, 0, 0, 0, 0) := by decide +kernel
theorem i_X8_init_424 : fetch 125 424 = some (.bipush 32, 426, 0, 0, 0, 0) := by decide +kernel
theorem i_X8_init_426 : fetch 125 426 = some (.iastore, 427, 0, 0, 0, 0) := by decide +kernel
theorem i_X8_init_427 : fetch 125 427 = some (.dup, 428, 0, 0, 0, 0) := by decide +kernel
theorem i_X8_init_428 : fetch 125 428 = some (.bipush 26, 430, 0, 0, 0, 0) := by decide +kernel
theorem i_X8_init_430 : fetch 125 430 = some (.bipush 59, 432, 0, 0, 0, 0) := by decide +kernel
theorem i_X8_init_432 : fetch 125 432 = some (.iastore, 433, 0, 0, 0, 0) := by decide +kernel
theorem i_X8_init_433 : fetch 125 433 = some (.dup, 434, 0, 0, 0, 0) := by decide +kernel
theorem i_X8_init_434 : fetch 125 434 = some (.bipush 27, 436, 0, 0, 0, 0) := by decide +kernel
theorem i_X8_init_436 : fetch 125 436 = some (.bipush 32, 438, 0, 0, 0, 0) := by decide +kernel
theorem i_X8_init_438 : fetch 125 438 = some (.iastore, 439, 0, 0, 0, 0) := by decide +kernel
theorem i_X8_init_439 : fetch 125 439 = some (.dup, 440, 0, 0, 0, 0) := by decide +kernel
theorem i_X8_init_440 : fetch 125 440 = some (.bipush 28, 442, 0, 0, 0, 0) := by decide +kernel
theorem i_X8_init_442 : fetch 125 442 = some (.bipush 116, 444, 0, 0, 0, 0) := by decide +kernel
theorem i_X8_init_444 : fetch 125 444 = some (.iastore, 445, 0, 0, 0, 0) := by decide +kernel
theorem i_X8_init_445 : fetch 125 445 = some (.dup, 446, 0, 0, 0, 0) := by decide +kernel
theorem i_X8_init_446 : fetch 125 446 = some (.bipush 29, 448, 0, 0, 0, 0) := by decide +kernel
theorem i_X8_init_448 : fetch 125 448 = some (.bipush 101, 450, 0, 0, 0, 0) := by decide +kernel
theorem i_X8_init_450 : fetch 125 450 = some (.iastore, 451, 0, 0, 0, 0) := by decide +kernel
theorem i_X8_init_451 : fetch 125 451 = some (.dup, 452, 0, 0, 0, 0) := by decide +kernel
theorem i_X8_init_452 : fetch 125 452 = some (.bipush 30, 454, 0, 0, 0, 0) := by decide +kernel
theorem i_X8_init_454 : fetch 125 454 = some (.bipush 97, 456, 0, 0, 0, 0) := by decide +kernel
theorem i_X8_init_456 : fetch 125 456 = some (.iastore, 457, 0, 0, 0, 0) := by decide +kernel
theorem i_X8_init_457 : fetch 125 457 = some (.dup, 458, 0, 0, 0, 0) := by decide +kernel
theorem i_X8_init_458 : fetch 125 458 = some (.bipush 31, 460, 0, 0, 0, 0) := by decide +kernel
theorem i_X8_init_460 : fetch 125 460 = some (.bipush 114, 462, 0, 0, 0, 0) := by decide +kernel
theorem i_X8_init_462 : fetch 125 462 = some (.iastore, 463, 0, 0, 0, 0) := by decide +kernel
theorem i_X8_init_463 : fetch 125 463 = some (.dup, 464, 0, 0, 0, 0) := by decide +kernel
theorem i_X8_init_464 : fetch 125 464 = some (.bipush 32, 466, 0, 0, 0, 0) := by decide +kernel
theorem i_X8_init_466 : fetch 125 466 = some (.bipush 115, 468, 0, 0, 0, 0) := by decide +kernel
theorem i_X8_init_468 : fetch 125 468 = some (.iastore, 469, 0, 0, 0, 0) := by decide +kernel
theorem i_X8_init_469 : fetch 125 469 = some (.dup, 470, 0, 0, 0, 0) := by decide +kernel
theorem i_X8_init_470 : fetch 125 470 = some (.bipush 33, 472, 0, 0, 0, 0) := by decide +kernel
theorem i_X8_init_472 : fetch 125 472 = some (.bipush 32, 474, 0, 0, 0, 0) := by decide +kernel
theorem i_X8_init_474 : fetch 125 474 = some (.iastore, 475, 0, 0, 0, 0) := by decide +kernel
theorem i_X8_init_475 : fetch 125 475 = some (.dup, 476, 0, 0, 0, 0) := by decide +kernel
theorem i_X8_init_476 : fetch 125 476 = some (.bipush 34, 478, 0, 0, 0, 0) := by decide +kernel
theorem i_X8_init_478 : fetch 125 478 = some (.bipush 52, 480, 0, 0, 0, 0) := by decide +kernel
theorem i_X8_init_480 : fetch 125 480 = some (.iastore, 481, 0, 0, 0, 0) := by decide +kernel
theorem i_X8_init_481 : fetch 125 481 = some (.dup, 482, 0, 0, 0, 0) := by decide +kernel
theorem i_X8_init_482 : fetch 125 482 = some (.bipush 35, 484, 0, 0, 0, 0) := by decide +kernel
theorem i_X8_init_484 : fetch 125 484 = some (.bipush 48, 486, 0, 0, 0, 0) := by decide +kernel
theorem i_X8_init_486 : fetch 125 486 = some (.iastore, 487, 0, 0, 0, 0) := by decide +kernel
theorem i_X8_init_487 : fetch 125 487 = some (.dup, 488, 0, 0, 0, 0) := by decide +kernel
theorem i_X8_init_488 : fetch 125 488 = some (.bipush 36, 490, 0, 0, 0, 0) := by decide +kernel
theorem i_X8_init_490 : fetch 125 490 = some (.bipush 32, 492, 0, 0, 0, 0) := by decide +kernel
theorem i_X8_init_492 : fetch 125 492 = some (.iastore, 493, 0, 0, 0, 0) := by decide +kernel
theorem i_X8_init_493 : fetch 125 493 = some (.dup, 494, 0, 0, 0, 0) := by decide +kernel
theorem i_X8_init_494 : fetch 125 494 = some (.bipush 37, 496, 0, 0, 0, 0) := by decide +kernel
theorem i_X8_init_496 : fetch 125 496 = some (.bipush 60, 498, 0, 0, 0, 0) := by decide +kernel
theorem i_X8_init_498 : fetch 125 498 = some (.iastore, 499, 0, 0, 0, 0) := by decide +kernel
theorem i_X8_init_499 : fetch 125 499 = some (.dup, 500, 0, 0, 0, 0) := by decide +kernel
theorem i_X8_init_500 : fetch 125 500 = some (.bipush 38, 502, 0, 0, 0, 0) := by decide +kernel
theorem i_X8_init_502 : fetch 125 502 = some (.bipush 32, 504, 0, 0, 0, 0) := by decide +kernel
theorem i_X8_init_504 : fetch 125 504 = some (.iastore, 505, 0, 0, 0, 0) := by decide +kernel
theorem i_X8_init_505 : fetch 125 505 = some (.dup, 506, 0, 0, 0, 0) := by decide +kernel
theorem i_X8_init_506 : fetch 125 506 = some (.bipush 39, 508, 0, 0, 0, 0) := by decide +kernel
theorem i_X8_init_508 : fetch 125 508 = some (.bipush 112, 510, 0, 0, 0, 0) := by decide +kernel
theorem i_X8_init_510 : fetch 125 510 = some (.iastore, 511, 0, 0, 0, 0) := by decide +kernel
theorem i_X8_init_511 : fetch 125 511 = some (.dup, 512, 0, 0, 0, 0) := by decide +kernel
theorem i_X8_init_512 : fetch 125 512 = some (.bipush 40, 514, 0, 0, 0, 0) := by decide +kernel
theorem i_X8_init_514 : fetch 125 514 = some (.bipush 97, 516, 0, 0, 0, 0) := by decide +kernel
theorem i_X8_init_516 : fetch 125 516 = some (.iastore, 517, 0, 0, 0, 0) := by decide +kernel
theorem i_X8_init_517 : fetch 125 517 = some (.dup, 518, 0, 0, 0, 0) := by decide +kernel
theorem i_X8_init_518 : fetch 125 518 = some (.bipush 41, 520, 0, 0, 0, 0) := by decide +kernel
theorem i_X8_init_520 : fetch 125 520 = some (.bipush 99, 522, 0, 0, 0, 0) := by decide +kernel
theorem i_X8_init_522 : fetch 125 522 = some (.iastore, 523, 0, 0, 0, 0) := by decide +kernel
theorem i_X8_init_523 : fetch 125 523 = some (.dup, 524, 0, 0, 0, 0) := by decide +kernel
theorem i_X8_init_524 : fetch 125 524 = some (.bipush 42, 526, 0, 0, 0, 0) := by decide +kernel
theorem i_X8_init_526 : fetch 125 526 = some (.bipush 101, 528, 0, 0, 0, 0) := by decide +kernel
theorem i_X8_init_528 : fetch 125 528 = some (.iastore, 529, 0, 0, 0, 0) := by decide +kernel
theorem i_X8_init_529 : fetch 125 529 = some (.dup, 530, 0, 0, 0, 0) := by decide +kernel
theorem i_X8_init_530 : fetch 125 530 = some (.bipush 43, 532, 0, 0, 0, 0) := by decide +kernel
theorem i_X8_init_532 : fetch 125 532 = some (.bipush 32, 534, 0, 0, 0, 0) := by decide +kernel
theorem i_X8_init_534 : fetch 125 534 = some (.iastore, 535, 0, 0, 0, 0) := by decide +kernel
theorem i_X8_init_535 : fetch 125 535 = some (.dup, 536, 0, 0, 0, 0) := by decide +kernel
theorem i_X8_init_536 : fetch 125 536 = some (.bipush 44, 538, 0, 0, 0, 0) := by decide +kernel
theorem i_X8_init_538 : fetch 125 538 = some (.bipush 42, 540, 0, 0, 0, 0) := by decide +kernel
theorem i_X8_init_540 : fetch 125 540 = some (.iastore, 541, 0, 0, 0, 0) := by decide +kernel
theorem i_X8_init_541 : fetch 125 541 = some (.dup, 542, 0, 0, 0, 0) := by decide +kernel
theorem i_X8_init_542 : fetch 125 542 = some (.bipush 45, 544, 0, 0, 0, 0) := by decide +kernel
theorem i_X8_init_544 : fetch 125 544 = some (.bipush 32, 546, 0, 0, 0, 0) := by decide +kernel
theorem i_X8_init_546 : fetch 125 546 = some (.iastore, 547, 0, 0, 0, 0) := by decide +kernel
theorem i_X8_init_547 : fetch 125 547 = some (.dup, 548, 0, 0, 0, 0) := by decide +kernel
theorem i_X8_init_548 : fetch 125 548 = some (.bipush 46, 550, 0, 0, 0, 0) := by decide +kernel
theorem i_X8_init_550 : fetch 125 550 = some (.bipush 57, 552, 0, 0, 0, 0) := by decide +kernel
theorem i_X8_init_552 : fetch 125 552 = some (.iastore, 553, 0, 0, 0, 0) := by decide +kernel
theorem i_X8_init_553 : fetch 125 553 = some (.dup, 554, 0, 0, 0, 0) := by decide +kernel
theorem i_X8_init_554 : fetch 125 554 = some (.bipush 47, 556, 0, 0, 0, 0) := by decide +kernel
theorem i_X8_init_556 : fetch 125 556 = some (.bipush 32, 558, 0, 0, 0, 0) := by decide +kernel
theorem i_X8_init_558 : fetch 125 558 = some (.iastore, 559, 0, 0, 0, 0) := by decide +kernel
theorem i_X8_init_559 : fetch 125 559 = some (.dup, 560, 0, 0, 0, 0) := by decide +kernel
theorem i_X8_init_560 : fetch 125 560 = some (.bipush 48, 562, 0, 0, 0, 0) := by decide +kernel
theorem i_X8_init_562 : fetch 125 562 = some (.bipush 45, 564, 0, 0, 0, 0) := by decide +kernel
theorem i_X8_init_564 : fetch 125 564 = some (.iastore, 565, 0, 0, 0, 0) := by decide +kernel
theorem i_X8_init_565 : fetch 125 565 = some (.dup, 566, 0, 0, 0, 0) := by decide +kernel
theorem i_X8_init_566 : fetch 125 566 = some (.bipush 49, 568, 0, 0, 0, 0) := by decide +kernel
theorem i_X8_init_568 : fetch 125 568 = some (.bipush 32, 570, 0, 0, 0, 0) := by decide +kernel
theorem i_X8_init_570 : fetch 125 570 = some (.iastore, 571, 0, 0, 0, 0) := by decide +kernel
theorem i_X8_init_571 : fetch 125 571 = some (.dup, 572, 0, 0, 0, 0) := by decide +kernel
theorem i_X8_init_572 : fetch 125 572 = some (.bipush 50, 574, 0, 0, 0, 0) := by decide +kernel
theorem i_X8_init_574 : fetch 125 574 = some (.bipush 116, 576, 0, 0, 0, 0) := by decide +kernel
theorem i_X8_init_576 : fetch 125 576 = some (.iastore, 577, 0, 0, 0, 0) := by decide +kernel
theorem i_X8_init_577 : fetch 125 577 = some (.dup, 578, 0, 0, 0, 0) := by decide +kernel
theorem i_X8_init_578 : fetch 125 578 = some (.bipush 51, 580, 0, 0, 0, 0) := by decide +kernel
theorem i_X8_init_580 : fetch 125 580 = some (.bipush 104, 582, 0, 0, 0, 0) := by decide +kernel
theorem i_X8_init_582 : fetch 125 582 = some (.iastore, 583, 0, 0, 0, 0) := by decide +kernel
theorem i_X8_init_583 : fetch 125 583 = some (.dup, 584, 0, 0, 0, 0) := by decide +kernel
theorem i_X8_init_584 : fetch 125 584 = some (.bipush 52, 586, 0, 0, 0, 0) := by decide +kernel
theorem i_X8_init_586 : fetch 125 586 = some (.bipush 105, 588, 0, 0, 0, 0) := by decide +kernel
theorem i_X8_init_588 : fetch 125 588 = some (.iastore, 589, 0, 0, 0, 0) := by decide +kernel
theorem i_X8_init_589 : fetch 125 589 = some (.dup, 590, 0, 0, 0, 0) := by decide +kernel
theorem i_X8_init_590 : fetch 125 590 = some (.bipush 53, 592, 0, 0, 0, 0) := by decide +kernel
theorem i_X8_init_592 : fetch 125 592 = some (.bipush 99, 594, 0, 0, 0, 0) := by decide +kernel
theorem i_X8_init_594 : fetch 125 594 = some (.iastore, 595, 0, 0, 0, 0) := by decide +kernel
theorem i_X8_init_595 : fetch 125 595 = some (.dup, 596, 0, 0, 0, 0) := by decide +kernel
theorem i_X8_init_596 : fetch 125 596 = some (.bipush 54, 598, 0, 0, 0, 0) := by decide +kernel
theorem i_X8_init_598 : fetch 125 598 = some (.bipush 107, 600, 0, 0, 0, 0) := by decide +kernel
theorem i_X8_init_600 : fetch 125 600 = some (.iastore, 601, 0, 0, 0, 0) := by decide +kernel
theorem i_X8_init_601 : fetch 125 601 = some (.dup, 602, 0, 0, 0, 0) := by decide +kernel
theorem i_X8_init_602 : fetch 125 602 = some (.bipush 55, 604, 0, 0, 0, 0) := by decide +kernel
theorem i_X8_init_604 : fetch 125 604 = some (.bipush 32, 606, 0, 0, 0, 0) := by decide +kernel
theorem i_X8_init_606 : fetch 125 606 = some (.iastore, 607, 0, 0, 0, 0) := by decide +kernel
theorem i_X8_init_607 : fetch 125 607 = some (.dup, 608, 0, 0, 0, 0) := by decide +kernel
theorem i_X8_init_608 : fetch 125 608 = some (.bipush 56, 610, 0, 0, 0, 0) := by decide +kernel
theorem i_X8_init_610 : fetch 125 610 = some (.bipush 59, 612, 0, 0, 0, 0) := by decide +kernel
theorem i_X8_init_612 : fetch 125 612 = some (.iastore, 613, 0, 0, 0, 0) := by decide +kernel
theorem i_X8_init_613 : fetch 125 613 = some (.dup, 614, 0, 0, 0, 0) := by decide +kernel
theorem i_X8_init_614 : fetch 125 614 = some (.bipush 57, 616, 0, 0, 0, 0) := by decide +kernel
theorem i_X8_init_616 : fetch 125 616 = some (.bipush 32, 618, 0, 0, 0, 0) := by decide +kernel
theorem i_X8_init_618 : fetch 125 618 = some (.iastore, 619, 0, 0, 0, 0) := by decide +kernel
theorem i_X8_init_619 : fetch 125 619 = some (.dup, 620, 0, 0, 0, 0) := by decide +kernel
theorem i_X8_init_620 : fetch 125 620 = some (.bipush 58, 622, 0, 0, 0, 0) := by decide +kernel
theorem i_X8_init_622 : fetch 125 622 = some (.bipush 115, 624, 0, 0, 0, 0) := by decide +kernel
theorem i_X8_init_624 : fetch 125 624 = some (.iastore, 625, 0, 0, 0, 0) := by decide +kernel
theorem i_X8_init_625 : fetch 125 625 = some (.dup, 626, 0, 0, 0, 0) := by decide +kernel
theorem i_X8_init_626 : fetch 125 626 = some (.bipush 59, 628, 0, 0, 0, 0) := by decide +kernel
theorem i_X8_init_628 : fetch 125 628 = some (.bipush 116, 630, 0, 0, 0, 0) := by decide +kernel
theorem i_X8_init_630 : fetch 125 630 = some (.iastore, 631, 0, 0, 0, 0) := by decide +kernel
theorem i_X8_init_631 : fetch 125 631 = some (.dup, 632, 0, 0, 0, 0) := by decide +kernel
theorem i_X8_init_632 : fetch 125 632 = some (.bipush 60, 634, 0, 0, 0, 0) := by decide +kernel
theorem i_X8_init_634 : fetch 125 634 = some (.bipush 105, 636, 0, 0, 0, 0) := by decide +kernel
theorem i_X8_init_636 : fetch 125 636 = some (.iastore, 637, 0, 0, 0, 0) := by decide +kernel
theorem i_X8_init_637 : fetch 125 637 = some (.dup, 638, 0, 0, 0, 0) := by decide +kernel
theorem i_X8_init_638 : fetch 125 638 = some (.bipush 61, 640, 0, 0, 0, 0) := by decide +kernel
theorem i_X8_init_640 : fetch 125 640 = some (.bipush 99, 642, 0, 0, 0, 0) := by decide +kernel
theorem i_X8_init_642 : fetch 125 642 = some (.iastore, 643, 0, 0, 0, 0) := by decide +kernel
theorem i_X8_init_643 : fetch 125 643 = some (.dup, 644, 0, 0, 0, 0) := by decide +kernel
theorem i_X8_init_644 : fetch 125 644 = some (.bipush 62, 646, 0, 0, 0, 0) := by decide +kernel
theorem i_X8_init_646 : fetch 125 646 = some (.bipush 107, 648, 0, 0, 0, 0) := by decide +kernel
theorem i_X8_init_648 : fetch 125 648 = some (.iastore, 649, 0, 0, 0, 0) := by decide +kernel
theorem i_X8_init_649 : fetch 125 649 = some (.dup, 650, 0, 0, 0, 0) := by decide +kernel
theorem i_X8_init_650 : fetch 125 650 = some (.bipush 63, 652, 0, 0, 0, 0) := by decide +kernel
theorem i_X8_init_652 : fetch 125 652 = some (.bipush 115, 654, 0, 0, 0, 0) := by decide +kernel
theorem i_X8_init_654 : fetch 125 654 = some (.iastore, 655, 0, 0, 0, 0) := by decide +kernel
theorem i_X8_init_655 : fetch 125 655 = some (.dup, 656, 0, 0, 0, 0) := by decide +kernel
theorem i_X8_init_656 : fetch 125 656 = some (.bipush 64, 658, 0, 0, 0, 0) := by decide +kernel
theorem i_X8_init_658 : fetch 125 658 = some (.bipush 32, 660, 0, 0, 0, 0) := by decide +kernel
theorem i_X8_init_660 : fetch 125 660 = some (.iastore, 661, 0, 0, 0, 0) := by decide +kernel
theorem i_X8_init_661 : fetch 125 661 = some (.dup, 662, 0, 0, 0, 0) := by decide +kernel
theorem i_X8_init_662 : fetch 125 662 = some (.bipush 65, 664, 0, 0, 0, 0) := by decide +kernel
theorem i_X8_init_664 : fetch 125 664 = some (.bipush 102, 666, 0, 0, 0, 0) := by decide +kernel
theorem i_X8_init_666 : fetch 125 666 = some (.iastore, 667, 0, 0, 0, 0) := by decide +kernel
theorem i_X8_init_667 : fetch 125 667 = some (.dup, 668, 0, 0, 0, 0) := by decide +kernel
theorem i_X8_init_668 : fetch 125 668 = some (.bipush 66, 670, 0, 0, 0, 0) := by decide +kernel
theorem i_X8_init_670 : fetch 125 670 = some (.bipush 111, 672, 0, 0, 0, 0) := by decide +kernel
theorem i_X8_init_672 : fetch 125 672 = some (.iastore, 673, 0, 0, 0, 0) := by decide +kernel
theorem i_X8_init_673 : fetch 125 673 = some (.dup, 674, 0, 0, 0, 0) := by decide +kernel
theorem i_X8_init_674 : fetch 125 674 = some (.bipush 67, 676, 0, 0, 0, 0) := by decide +kernel
theorem i_X8_init_676 : fetch 125 676 = some (.bipush 108, 678, 0, 0, 0, 0) := by decide +kernel
theorem i_X8_init_678 : fetch 125 678 = some (.iastore, 679, 0, 0, 0, 0) := by decide +kernel
theorem i_X8_init_679 : fetch 125 679 = some (.dup, 680, 0, 0, 0, 0) := by decide +kernel
theorem i_X8_init_680 : fetch 125 680 = some (.bipush 68, 682, 0, 0, 0, 0) := by decide +kernel
theorem i_X8_init_682 : fetch 125 682 = some (.bipush 100, 684, 0, 0, 0, 0) := by decide +kernel
theorem i_X8_init_684 : fetch 125 684 = some (.iastore, 685, 0, 0, 0, 0) := by decide +kernel
theorem i_X8_init_685 : fetch 125 685 = some (.dup, 686, 0, 0, 0, 0) := by decide +kernel
theorem i_X8_init_686 : fetch 125 686 = some (.bipush 69, 688, 0, 0, 0, 0) := by decide +kernel
theorem i_X8_init_688 : fetch 125 688 = some (.bipush 115, 690, 0, 0, 0, 0) := by decide +kernel
theorem i_X8_init_690 : fetch 125 690 = some (.iastore, 691, 0, 0, 0, 0) := by decide +kernel
theorem i_X8_init_691 : fetch 125 691 = some (.dup, 692, 0, 0, 0, 0) := by decide +kernel
theorem i_X8_init_692 : fetch 125 692 = some (.bipush 70, 694, 0, 0, 0, 0) := by decide +kernel
theorem i_X8_init_694 : fetch 125 694 = some (.bipush 32, 696, 0, 0, 0, 0) := by decide +kernel
theorem i_X8_init_696 : fetch 125 696 = some (.iastore, 697, 0, 0, 0, 0) := by decide +kernel
theorem i_X8_init_697 : fetch 125 697 = some (.dup, 698, 0, 0, 0, 0) := by decide +kernel
theorem i_X8_init_698 : fetch 125 698 = some (.bipush 71, 700, 0, 0, 0, 0) := by decide +kernel
theorem i_X8_init_700 : fetch 125 700 = some (.bipush 42, 702, 0, 0, 0, 0) := by decide +kernel
theorem i_X8_init_702 : fetch 125 702 = some (.iastore, 703, 0, 0, 0, 0) := by decide +kernel
theorem i_X8_init_703 : fetch 125 703 = some (.dup, 704, 0, 0, 0, 0) := by decide +kernel
theorem i_X8_init_704 : fetch 125 704 = some (.bipush 72, 706, 0, 0, 0, 0) := by decide +kernel
theorem i_X8_init_706 : fetch 125 706 = some (.bipush 32, 708, 0, 0, 0, 0) := by decide +kernel
theorem i_X8_init_708 : fetch 125 708 = some (.iastore, 709, 0, 0, 0, 0) := by decide +kernel
theorem i_X8_init_709 : fetch 125 709 = some (.dup, 710, 0, 0, 0, 0) := by decide +kernel
theorem i_X8_init_710 : fetch 125 710 = some (.bipush 73, 712, 0, 0, 0, 0) := by decide +kernel
theorem i_X8_init_712 : fetch 125 712 = some (.bipush 50, 714, 0, 0, 0, 0) := by decide +kernel
theorem i_X8_init_714 : fetch 125 714 = some (.iastore, 715, 0, 0, 0, 0) := by decide +kernel
theorem i_X8_init_715 : fetch 125 715 = some (.dup, 716, 0, 0, 0, 0) := by decide +kernel
theorem i_X8_init_716 : fetch 125 716 = some (.bipush 74, 718, 0, 0, 0, 0) := by decide +kernel
theorem i_X8_init_718 : fetch 125 718 = some (.bipush 32, 720, 0, 0, 0, 0) := by decide +kernel
theorem i_X8_init_720 : fetch 125 720 = some (.iastore, 721, 0, 0, 0, 0) := by decide +kernel
theorem i_X8_init_721 : fetch 125 721 = some (.dup, 722, 0, 0, 0, 0) := by decide +kernel
theorem i_X8_init_722 : fetch 125 722 = some (.bipush 75, 724, 0, 0, 0, 0) := by decide +kernel
theorem i_X8_init_724 : fetch 125 724 = some (.bipush 45, 726, 0, 0, 0, 0) := by decide +kernel
theorem i_X8_init_726 : fetch 125 726 = some (.iastore, 727, 0, 0, 0, 0) := by decide +kernel
theorem i_X8_init_727 : fetch 125 727 = some (.dup, 728, 0, 0, 0, 0) := by decide +kernel
theorem i_X8_init_728 : fetch 125 728 = some (.bipush 76, 730, 0, 0, 0, 0) := by decide +kernel
theorem i_X8_init_730 : fetch 125 730 = some (.bipush 32, 732, 0, 0, 0, 0) := by decide +kernel
theorem i_X8_init_732 : fetch 125 732 = some (.iastore, 733, 0, 0, 0, 0) := by decide +kernel
theorem i_X8_init_733 : fetch 125 733 = some (.dup, 734, 0, 0, 0, 0) := by decide +kernel
theorem i_X8_init_734 : fetch 125 734 = some (.bipush 77, 736, 0, 0, 0, 0) := by decide +kernel
theorem i_X8_init_736 : fetch 125 736 = some (.bipush 100, 738, 0, 0, 0, 0) := by decide +kernel
theorem i_X8_init_738 : fetch 125 738 = some (.iastore, 739, 0, 0, 0, 0) := by decide +kernel
theorem i_X8_init_739 : fetch 125 739 = some (.dup, 740, 0, 0, 0, 0) := by decide +kernel
theorem i_X8_init_740 : fetch 125 740 = some (.bipush 78, 742, 0, 0, 0, 0) := by decide +kernel
theorem i_X8_init_742 : fetch 125 742 = some (.bipush 117, 744, 0, 0, 0, 0) := by decide +kernel
theorem i_X8_init_744 : fetch 125 744 = some (.iastore, 745, 0, 0, 0, 0) := by decide +kernel
theorem i_X8_init_745 : fetch 125 745 = some (.dup, 746, 0, 0, 0, 0) := by decide +kernel
theorem i_X8_init_746 : fetch 125 746 = some (.bipush 79, 748, 0, 0, 0, 0) := by decide +kernel
theorem i_X8_init_748 : fetch 125 748 = some (.bipush 115, 750, 0, 0, 0, 0) := by decide +kernel
theorem i_X8_init_750 : fetch 125 750 = some (.iastore, 751, 0, 0, 0, 0) := by decide +kernel
theorem i_X8_init_751 : fetch 125 751 = some (.dup, 752, 0, 0, 0, 0) := by decide +kernel
theorem i_X8_init_752 : fetch 125 752 = some (.bipush 80, 754, 0, 0, 0, 0) := by decide +kernel
theorem i_X8_init_754 : fetch 125 754 = some (.bipush 116, 756, 0, 0, 0, 0) := by decide +kernel
theorem i_X8_init_756 : fetch 125 756 = some (.iastore, 757, 0, 0, 0, 0) := by decide +kernel
theorem i_X8_init_757 : fetch 125 757 = some (.dup, 758, 0, 0, 0, 0) := by decide +kernel
theorem i_X8_init_758 : fetch 125 758 = some (.bipush 81, 760, 0, 0, 0, 0) := by decide +kernel
theorem i_X8_init_760 : fetch 125 760 = some (.bipush 32, 762, 0, 0, 0, 0) := by decide +kernel
theorem i_X8_init_762 : fetch 125 762 = some (.iastore, 763, 0, 0, 0, 0) := by decide +kernel
theorem i_X8_init_763 : fetch 125 763 = some (.dup, 764, 0, 0, 0, 0) := by decide +kernel
theorem i_X8_init_764 : fetch 125 764 = some (.bipush 82, 766, 0, 0, 0, 0) := by decide +kernel
theorem i_X8_init_766 : fetch 125 766 = some (.bipush 59, 768, 0, 0, 0, 0) := by decide +kernel
theorem i_X8_init_768 : fetch 125 768 = some (.iastore, 769, 0, 0, 0, 0) := by decide +kernel
theorem i_X8_init_769 : fetch 125 769 = some (.putfield 60, 772, 8, 25, 0, 1034) := by decide +kernel
theorem i_X8_init_772 : fetch 125 772 = some (.aload_n 0, 773, 0, 0, 0, 0) := by decide +kernel
theorem i_X8_init_773 : fetch 125 773 = some (.bipush 96, 775, 0, 0, 0, 0) := by decide +kernel
theorem i_X8_init_775 : fetch 125 775 = some (.newarray .int, 777, 9, 0, 0, 0) := by decide +kernel
theorem i_X8_init_777 : fetch 125 777 = some (.dup, 778, 0, 0, 0, 0) := by decide +kernel
theorem i_X8_init_778 : fetch 125 778 = some (.iconst 0, 779, 0, 0, 0, 0) := by decide +kernel
theorem i_X8_init_779 : fetch 125 779 = some (.bipush 100, 781, 0, 0, 0, 0) := by decide +kernel
theorem i_X8_init_781 : fetch 125 781 = some (.iastore, 782, 0, 0, 0, 0) := by decide +kernel
theorem i_X8_init_782 : fetch 125 782 = some (.dup, 783, 0, 0, 0, 0) := by decide +kernel
theorem i_X8_init_783 : fetch 125 783 = some (.iconst 1, 784, 0, 0, 0, 0) := by decide +kernel
theorem i_X8_init_784 : fetch 125 784 = some (.bipush 114, 786, 0, 0, 0, 0) := by decide +kernel
theorem i_X8_init_786 : fetch 125 786 = some (.iastore, 787, 0, 0, 0, 0) := by decide +kernel
theorem i_X8_init_787 : fetch 125 787 = some (.dup, 788, 0, 0, 0, 0) := by decide +kernel
theorem i_X8_init_788 : fetch 125 788 = some (.iconst 2, 789, 0, 0, 0, 0) := by decide +kernel
theorem i_X8_init_789 : fetch 125 789 = some (.bipush 97, 791, 0, 0, 0, 0) := by decide +kernel
theorem i_X8_init_791 : fetch 125 791 = some (.iastore, 792, 0, 0, 0, 0) := by decide +kernel
theorem i_X8_init_792 : fetch 125 792 = some (.dup, 793, 0, 0, 0, 0) := by decide +kernel
theorem i_X8_init_793 : fetch 125 793 = some (.iconst 3, 794, 0, 0, 0, 0) := by decide +kernel
theorem i_X8_init_794 : fetch 125 794 = some (.bipush 119, 796, 0, 0, 0, 0) := by decide +kernel
theorem i_X8_init_796 : fetch 125 796 = some (.iastore, 797, 0, 0, 0, 0) := by decide +kernel
theorem i_X8_init_797 : fetch 125 797 = some (.dup, 798, 0, 0, 0, 0) := by decide +kernel
theorem i_X8_init_798 : fetch 125 798 = some (.iconst 4, 799, 0, 0, 0, 0) := by decide +kernel
theorem i_X8_init_799 : fetch 125 799 = some (.bipush 32, 801, 0, 0, 0, 0) := by decide +kernel
theorem i_X8_init_801 : fetch 125 801 = some (.iastore, 802, 0, 0, 0, 0) := by decide +kernel
theorem i_X8_init_802 : fetch 125 802 = some (.dup, 803, 0, 0, 0, 0) := by decide +kernel
theorem i_X8_init_803 : fetch 125 803 = some (.iconst 5, 804, 0, 0, 0, 0) := by decide +kernel
theorem i_X8_init_804 : fetch 125 804 = some (.bipush 32, 806, 0, 0, 0, 0) := by decide +kernel
theorem i_X8_init_806 : fetch 125 806 = some (.iastore, 807, 0, 0, 0, 0) := by decide +kernel
theorem i_X8_init_807 : fetch 125 807 = some (.dup, 808, 0, 0, 0, 0) := by decide +kernel
theorem i_X8_init_808 : fetch 125 808 = some (.bipush 6, 810, 0, 0, 0, 0) := by decide +kernel
theorem i_X8_init_810 : fetch 125 810 = some (.bipush 32, 812, 0, 0, 0, 0) := by decide +kernel
theorem i_X8_init_812 : fetch 125 812 = some (.iastore, 813, 0, 0, 0, 0) := by decide +kernel
theorem i_X8_init_813 : fetch 125 813 = some (.dup, 814, 0, 0, 0, 0) := by decide +kernel
theorem i_X8_init_814 : fetch 125 814 = some (.bipush 7, 816, 0, 0, 0, 0) := by decide +kernel
theorem i_X8_init_816 : fetch 125 816 = some (.bipush 32, 818, 0, 0, 0, 0) := by decide +kernel
theorem i_X8_init_818 : fetch 125 818 = some (.iastore, 819, 0, 0, 0, 0) := by decide +kernel
theorem i_X8_init_819 : fetch 125 819 = some (.dup, 820, 0, 0, 0, 0) := by decide +kernel
theorem i_X8_init_820 : fetch 125 820 = some (.bipush 8, 822, 0, 0, 0, 0) := by decide +kernel
theorem i_X8_init_822 : fetch 125 822 = some (.bipush 116, 824, 0, 0, 0, 0) := by decide +kernel
theorem i_X8_init_824 : fetch 125 824 = some (.iastore, 825, 0, 0, 0, 0) := by decide +kernel
theorem i_X8_init_825 : fetch 125 825 = some (.dup, 826, 0, 0, 0, 0) := by decide +kernel
theorem i_X8_init_826 : fetch 125 826 = some (.bipush 9, 828, 0, 0, 0, 0) := by decide +kernel
theorem i_X8_init_828 : fetch 125 828 = some (.bipush 101, 830, 0, 0, 0, 0) := by decide +kernel
theorem i_X8_init_830 : fetch 125 830 = some (.iastore, 831, 0, 0, 0, 0) := by decide +kernel
theorem i_X8_init_831 : fetch 125 831 = some (.dup, 832, 0, 0, 0, 0) := by decide +kernel
theorem i_X8_init_832 : fetch 125 832 = some (.bipush 10, 834, 0, 0, 0, 0) := by decide +kernel
theorem i_X8_init_834 : fetch 125 834 = some (.bipush 97, 836, 0, 0, 0, 0) := by decide +kernel
theorem i_X8_init_836 : fetch 125 836 = some (.iastore, 837, 0, 0, 0, 0) := by decide +kernel
theorem i_X8_init_837 : fetch 125 837 = some (.dup, 838, 0, 0, 0, 0) := by decide +kernel
theorem i_X8_init_838 : fetch 125 838 = some (.bipush 11, 840, 0, 0, 0, 0) := by decide +kernel
theorem i_X8_init_840 : fetch 125 840 = some (.bipush 114, 842, 0, 0, 0, 0) := by decide +kernel
theorem i_X8_init_842 : fetch 125 842 = some (.iastore, 843, 0, 0, 0, 0) := by decide +kernel
theorem i_X8_init_843 : fetch 125 843 = some (.dup, 844, 0, 0, 0, 0) := by decide +kernel
theorem i_X8_init_844 : fetch 125 844 = some (.bipush 12, 846, 0, 0, 0, 0) := by decide +kernel
theorem i_X8_init_846 : fetch 125 846 = some (.bipush 115, 848, 0, 0, 0, 0) := by decide +kernel
theorem i_X8_init_848 : fetch 125 848 = some (.iastore, 849, 0, 0, 0, 0) := by decide +kernel
theorem i_X8_init_849 : fetch 125 849 = some (.dup, 850, 0, 0, 0, 0) := by decide +kernel
theorem i_X8_init_850 : fetch 125 850 = some (.bipush 13, 852, 0, 0, 0, 0) := by decide +kernel
theorem i_X8_init_852 : fetch 125 852 = some (.bipush 32, 854, 0, 0, 0, 0) := by decide +kernel
theorem i_X8_init_854 : fetch 125 854 = some (.iastore, 855, 0, 0, 0, 0) := by decide +kernel
theorem i_X8_init_855 : fetch 125 855 = some (.dup, 856, 0, 0, 0, 0) := by decide +kernel
theorem i_X8_init_856 : fetch 125 856 = some (.bipush 14, 858, 0, 0, 0, 0) := by decide +kernel
theorem i_X8_init_858 : fetch 125 858 = some (.bipush 32, 860, 0, 0, 0, 0) := by decide +kernel
theorem i_X8_init_860 : fetch 125 860 = some (.iastore, 861, 0, 0, 0, 0) := by decide +kernel
theorem i_X8_init_861 : fetch 125 861 = some (.dup, 862, 0, 0, 0, 0) := by decide +kernel
theorem i_X8_init_862 : fetch 125 862 = some (.bipush 15, 864, 0, 0, 0, 0) := by decide +kernel
theorem i_X8_init_864 : fetch 125 864 = some (.bipush 32, 866, 0, 0, 0, 0) := by decide +kernel
theorem i_X8_init_866 : fetch 125 866 = some (.iastore, 867, 0, 0, 0, 0) := by decide +kernel
theorem i_X8_init_867 : fetch 125 867 = some (.dup, 868, 0, 0, 0, 0) := by decide +kernel
theorem i_X8_init_868 : fetch 125 868 = some (.bipush 16, 870, 0, 0, 0, 0) := by decide +kernel
theorem i_X8_init_870 : fetch 125 870 = some (.bipush 115, 872, 0, 0, 0, 0) := by decide +kernel
theorem i_X8_init_872 : fetch 125 872 = some (.iastore, 873, 0, 0, 0, 0) := by decide +kernel
theorem i_X8_init_873 : fetch 125 873 = some (.dup, 874, 0, 0, 0, 0) := by decide +kernel
theorem i_X8_init_874 : fetch 125 874 = some (.bipush 17, 876, 0, 0, 0, 0) := by decide +kernel
theorem i_X8_init_876 : fetch 125 876 = some (.bipush 116, 878, 0, 0, 0, 0) := by decide +kernel
theorem i_X8_init_878 : fetch 125 878 = some (.iastore, 879, 0, 0, 0, 0) := by decide +kernel
theorem i_X8_init_879 : fetch 125 879 = some (.dup, 880, 0, 0, 0, 0) := by decide +kernel
theorem i_X8_init_880 : fetch 125 880 = some (.bipush 18, 882, 0, 0, 0, 0) := by decide +kernel
theorem i_X8_init_882 : fetch 125 882 = some (.bipush 105, 884, 0, 0, 0, 0) := by decide +kernel
theorem i_X8_init_884 : fetch 125 884 = some (.iastore, 885, 0, 0, 0, 0) := by decide +kernel
theorem i_X8_init_885 : fetch 125 885 = some (.dup, 886, 0, 0, 0, 0) := by decide +kernel
theorem i_X8_init_886 : fetch 125 886 = some (.bipush 19, 888, 0, 0, 0, 0) := by decide +kernel
theorem i_X8_init_888 : fetch 125 888 = some (.bipush 99, 890, 0, 0, 0, 0) := by decide +kernel
theorem i_X8_init_890 : fetch 125 890 = some (.iastore, 891, 0, 0, 0, 0) := by decide +kernel
theorem i_X8_init_891 : fetch 125 891 = some (.dup, 892, 0, 0, 0, 0) := by decide +kernel
theorem i_X8_init_892 : fetch 125 892 = some (.bipush 20, 894, 0, 0, 0, 0) := by decide +kernel
theorem i_X8_init_894 : fetch 125 894 = some (.bipush 107, 896, 0, 0, 0, 0) := by decide +kernel
theorem i_X8_init_896 : fetch 125 896 = some (.iastore, 897, 0, 0, 0, 0) := by decide +kernel
theorem i_X8_init_897 : fetch 125 897 = some (.dup, 898, 0, 0, 0, 0) := by decide +kernel
theorem i_X8_init_898 : fetch 125 898 = some (.bipush 21, 900, 0, 0, 0, 0) := by decide +kernel
theorem i_X8_init_900 : fetch 125 900 = some (.bipush 115, 902, 0, 0, 0, 0) := by decide +kernel
theorem i_X8_init_902 : fetch 125 902 = some (.iastore, 903, 0, 0, 0, 0) := by decide +kernel
theorem i_X8_init_903 : fetch 125 903 = some (.dup, 904, 0, 0, 0, 0) := by decide +kernel
theorem i_X8_init_904 : fetch 125 904 = some (.bipush 22, 906, 0, 0, 0, 0) := by decide +kernel
theorem i_X8_init_906 : fetch 125 906 = some (.bipush 32, 908, 0, 0, 0, 0) := by decide +kernel
theorem i_X8_init_908 : fetch 125 908 = some (.iastore, 909, 0, 0, 0, 0) := by decide +kernel
theorem i_X8_init_909 : fetch 125 909 = some (.dup, 910, 0, 0, 0, 0) := by decide +kernel
theorem i_X8_init_910 : fetch 125 910 = some (.bipush 23, 912, 0, 0, 0, 0) := by decide +kernel
theorem i_X8_init_912 : fetch 125 912 = some (.bipush 32, 914, 0, 0, 0, 0) := by decide +kernel
theorem i_X8_init_914 : fetch 125 914 = some (.iastore, 915, 0, 0, 0, 0) := by decide +kernel
theorem i_X8_init_915 : fetch 125 915 = some (.dup, 916, 0, 0, 0, 0) := by decide +kernel
theorem i_X8_init_916 : fetch 125 916 = some (.bipush 24, 918, 0, 0, 0, 0) := by decide +kernel
theorem i_X8_init_918 : fetch 125 918 = some (.bipush 119, 920, 0, 0, 0, 0) := by decide +kernel
theorem i_X8_init_920 : fetch 125 920 = some (.iastore, 921, 0, 0, 0, 0) := by decide +kernel
theorem i_X8_init_921 : fetch 125 921 = some (.dup, 922, 0, 0, 0, 0) := by decide +kernel
theorem i_X8_init_922 : fetch 125 922 = some (.bipush 25, 924, 0, 0, 0, 0) := by decide +kernel
theorem i_X8_init_924 : fetch 125 924 = some (.bipush 101, 926, 0, 0, 0, 0) := by decide +kernel
theorem i_X8_init_926 : fetch 125 926 = some (.iastore, 927, 0, 0, 0, 0) := by decide +kernel
theorem i_X8_init_927 : fetch 125 927 = some (.dup, 928, 0, 0, 0, 0) := by decide +kernel
theorem i_X8_init_928 : fetch 125 928 = some (.bipush 26, 930, 0, 0, 0, 0) := by decide +kernel
theorem i_X8_init_930 : fetch 125 930 = some (.bipush 116, 932, 0, 0, 0, 0) := by decide +kernel
theorem i_X8_init_932 : fetch 125 932 = some (.iastore, 933, 0, 0, 0, 0) := by decide +kernel
theorem i_X8_init_933 : fetch 125 933 = some (.dup, 934, 0, 0, 0, 0) := by decide +kernel
theorem i_X8_init_934 : fetch 125 934 = some (.bipush 27, 936, 0, 0, 0, 0) := by decide +kernel
theorem i_X8_init_936 : fetch 125 936 = some (.bipush 32, 938, 0, 0, 0, 0) := by decide +kernel
theorem i_X8_init_938 : fetch 125 938 = some (.iastore, 939, 0, 0, 0, 0) := by decide +kernel
theorem i_X8_init_939 : fetch 125 939 = some (.dup, 940, 0, 0, 0, 0) := by decide +kernel
theorem i_X8_init_940 : fetch 125 940 = some (.bipush 28, 942, 0, 0, 0, 0) := by decide +kernel
theorem i_X8_init_942 : fetch 125 942 = some (.bipush 32, 944, 0, 0, 0, 0) := by decide +kernel
theorem i_X8_init_944 : fetch 125 944 = some (.iastore, 945, 0, 0, 0, 0) := by decide +kernel
theorem i_X8_init_945 : fetch 125 945 = some (.dup, 946, 0, 0, 0, 0) := by decide +kernel
theorem i_X8_init_946 : fetch 125 946 = some (.bipush 29, 948, 0, 0, 0, 0) := by decide +kernel
theorem i_X8_init_948 : fetch 125 948 = some (.bipush 32, 950, 0, 0, 0, 0) := by decide +kernel
theorem i_X8_init_950 : fetch 125 950 = some (.iastore, 951, 0, 0, 0, 0) := by decide +kernel
theorem i_X8_init_951 : fetch 125 951 = some (.dup, 952, 0, 0, 0, 0) := by decide +kernel
theorem i_X8_init_952 : fetch 125 952 = some (.bipush 30, 954, 0, 0, 0, 0) := by decide +kernel
theorem i_X8_init_954 : fetch 125 954 = some (.bipush 32, 956, 0, 0, 0, 0) := by decide +kernel
theorem i_X8_init_956 : fetch 125 956 = some (.iastore, 957, 0, 0, 0, 0) := by decide +kernel
theorem i_X8_init_957 : fetch 125 957 = some (.dup, 958, 0, 0, 0, 0) := by decide +kernel
theorem i_X8_init_958 : fetch 125 958 = some (.bipush 31, 960, 0, 0, 0, 0) := by decide +kernel
theorem i_X8_init_960 : fetch 125 960 = some (.bipush 32, 962, 0, 0, 0, 0) := by decide +kernel
theorem i_X8_init_962 : fetch 125 962 = some (.iastore, 963, 0, 0, 0, 0) := by decide +kernel
theorem i_X8_init_963 : fetch 125 963 = some (.dup, 964, 0, 0, 0, 0) := by decide +kernel
theorem i_X8_init_964 : fetch 125 964 = some (.bipush 32, 966, 0, 0, 0, 0) := by decide +kernel
theorem i_X8_init_966 : fetch 125 966 = some (.bipush 116, 968, 0, 0, 0, 0) := by decide +kernel
theorem i_X8_init_968 : fetch 125 968 = some (.iastore, 969, 0, 0, 0, 0) := by decide +kernel
theorem i_X8_init_969 : fetch 125 969 = some (.dup, 970, 0, 0, 0, 0) := by decide +kernel
theorem i_X8_init_970 : fetch 125 970 = some (.bipush 33, 972, 0, 0, 0, 0) := by decide +kernel
theorem i_X8_init_972 : fetch 125 972 = some (.bipush 104, 974, 0, 0, 0, 0) := by decide +kernel
theorem i_X8_init_974 : fetch 125 974 = some (.iastore, 975, 0, 0, 0, 0) := by decide +kernel
theorem i_X8_init_975 : fetch 125 975 = some (.dup, 976, 0, 0, 0, 0) := by decide +kernel
theorem i_X8_init_976 : fetch 125 976 = some (.bipush 34, 978, 0, 0, 0, 0) := by decide +kernel
theorem i_X8_init_978 : fetch 125 978 = some (.bipush 105, 980, 0, 0, 0, 0) := by decide +kernel
theorem i_X8_init_980 : fetch 125 980 = some (.iastore, 981, 0, 0, 0, 0) := by decide +kernel
theorem i_X8_init_981 : fetch 125 981 = some (.dup, 982, 0, 0, 0, 0) := by decide +kernel
theorem i_X8_init_982 : fetch 125 982 = some (.bipush 35, 984, 0, 0, 0, 0) := by decide +kernel
theorem i_X8_init_984 : fetch 125 984 = some (.bipush 99, 986, 0, 0, 0, 0) := by decide +kernel
theorem i_X8_init_986 : fetch 125 986 = some (.iastore, 987, 0, 0, 0, 0) := by decide +kernel
theorem i_X8_init_987 : fetch 125 987 = some (.dup, 988, 0, 0, 0, 0) := by decide +kernel
theorem i_X8_init_988 : fetch 125 988 = some (.bipush 36, 990, 0, 0, 0, 0) := by decide +kernel
theorem i_X8_init_990 : fetch 125 990 = some (.bipush 107, 992, 0, 0, 0, 0) := by decide +kernel
theorem i_X8_init_992 : fetch 125 992 = some (.iastore, 993, 0, 0, 0, 0) := by decide +kernel
theorem i_X8_init_993 : fetch 125 993 = some (.dup, 994, 0, 0, 0, 0) := by decide +kernel
theorem i_X8_init_994 : fetch 125 994 = some (.bipush 37, 996, 0, 0, 0, 0) := by decide +kernel
theorem i_X8_init_996 : fetch 125 996 = some (.bipush 32, 998, 0, 0, 0, 0) := by decide +kernel
theorem i_X8_init_998 : fetch 125 998 = some (.iastore, 999, 0, 0, 0, 0) := by decide +kernel
theorem i_X8_init_999 : fetch 125 999 = some (.dup, 1000, 0, 0, 0, 0) := by decide +kernel
theorem i_X8_init_1000 : fetch 125 1000 = some (.bipush 38, 1002, 0, 0, 0, 0) := by decide +kernel
theorem i_X8_init_1002 : fetch 125 1002 = some (.bipush 32, 1004, 0, 0, 0, 0) := by decide +kernel
theorem i_X8_init_1004 : fetch 125 1004 = some (.iastore, 1005, 0, 0, 0, 0) := by decide +kernel
theorem i_X8_init_1005 : fetch 125 1005 = some (.dup, 1006, 0, 0, 0, 0) := by decide +kernel
theorem i_X8_init_1006 : fetch 125 1006 = some (.bipush 39, 1008, 0, 0, 0, 0) := by decide +kernel
theorem i_X8_init_1008 : fetch 125 1008 = some (.bipush 32, 1010, 0, 0, 0, 0) := by decide +kernel
theorem i_X8_init_1010 : fetch 125 1010 = some (.iastore, 1011, 0, 0, 0, 0) := by decide +kernel
theorem i_X8_init_1011 : fetch 125 1011 = some (.dup, 1012, 0, 0, 0, 0) := by decide +kernel
theorem i_X8_init_1012 : fetch 125 1012 = some (.bipush 40, 1014, 0, 0, 0, 0) := by decide +kernel
theorem i_X8_init_1014 : fetch 125 1014 = some (.bipush 115, 1016, 0, 0, 0, 0) := by decide +kernel
theorem i_X8_init_1016 : fetch 125 1016 = some (.iastore, 1017, 0, 0, 0, 0) := by decide +kernel
theorem i_X8_init_1017 : fetch 125 1017 = some (.dup, 1018, 0, 0, 0, 0) := by decide +kernel
theorem i_X8_init_1018 : fetch 125 1018 = some (.bipush 41, 1020, 0, 0, 0, 0) := by decide +kernel
theorem i_X8_init_1020 : fetch 125 1020 = some (.bipush 116, 1022, 0, 0, 0, 0) := by decide +kernel
theorem i_X8_init_1022 : fetch 125 1022 = some (.iastore, 1023, 0, 0, 0, 0) := by decide +kernel
theorem i_X8_init_1023 : fetch 125 1023 = some (.dup, 1024, 0, 0, 0, 0) := by decide +kernel
theorem i_X8_init_1024 : fetch 125 1024 = some (.bipush 42, 1026, 0, 0, 0, 0) := by decide +kernel
theorem i_X8_init_1026 : fetch 125 1026 = some (.bipush 105, 1028, 0, 0, 0, 0) := by decide +kernel
theorem i_X8_init_1028 : fetch 125 1028 = some (.iastore, 1029, 0, 0, 0, 0) := by decide +kernel
theorem i_X8_init_1029 : fetch 125 1029 = some (.dup, 1030, 0, 0, 0, 0) := by decide +kernel
theorem i_X8_init_1030 : fetch 125 1030 = some (.bipush 43, 1032, 0, 0, 0, 0) := by decide +kernel
theorem i_X8_init_1032 : fetch 125 1032 = some (.bipush 102, 1034, 0, 0, 0, 0) := by decide +kernel
theorem i_X8_init_1034 : fetch 125 1034 = some (.iastore, 1035, 0, 0, 0, 0) := by decide +kernel
theorem i_X8_init_1035 : fetch 125 1035 = some (.dup, 1036, 0, 0, 0, 0) := by decide +kernel
theorem i_X8_init_1036 : fetch 125 1036 = some (.bipush 44, 1038, 0, 0, 0, 0) := by decide +kernel
theorem i_X8_init_1038 : fetch 125 1038 = some (.bipush 102, 1040, 0, 0, 0, 0) := by decide +kernel
theorem i_X8_init_1040 : fetch 125 1040 = some (.iastore, 1041, 0, 0, 0, 0) := by decide +kernel
theorem i_X8_init_1041 : fetch 125 1041 = some (.dup, 1042, 0, 0, 0, 0) := by decide +kernel
theorem i_X8_init_1042 : fetch 125 1042 = some (.bipush 45, 1044, 0, 0, 0, 0) := by decide +kernel
theorem i_X8_init_1044 : fetch 125 1044 = some (.bipush 32, 1046, 0, 0, 0, 0) := by decide +kernel
theorem i_X8_init_1046 : fetch 125 1046 = some (.iastore, 1047, 0, 0, 0, 0) := by decide +kernel
theorem i_X8_init_1047 : fetch 125 1047 = some (.dup, 1048, 0, 0, 0, 0) := by decide +kernel
theorem i_X8_init_1048 : fetch 125 1048 = some (.bipush 46, 1050, 0, 0, 0, 0) := by decide +kernel
theorem i_X8_init_1050 : fetch 125 1050 = some (.bipush 32, 1052, 0, 0, 0, 0) := by decide +kernel
theorem i_X8_init_1052 : fetch 125 1052 = some (.iastore, 1053, 0, 0, 0, 0) := by decide +kernel
theorem i_X8_init_1053 : fetch 125 1053 = some (.dup, 1054, 0, 0, 0, 0) := by decide +kernel
theorem i_X8_init_1054 : fetch 125 1054 = some (.bipush 47, 1056, 0, 0, 0, 0) := by decide +kernel
theorem i_X8_init_1056 : fetch 125 1056 = some (.bipush 32, 1058, 0, 0, 0, 0) := by decide +kernel
theorem i_X8_init_1058 : fetch 125 1058 = some (.iastore, 1059, 0, 0, 0, 0) := by decide +kernel
theorem i_X8_init_1059 : fetch 125 1059 = some (.dup, 1060, 0, 0, 0, 0) := by decide +kernel
theorem i_X8_init_1060 : fetch 125 1060 = some (.bipush 48, 1062, 0, 0, 0, 0) := by decide +kernel
theorem i_X8_init_1062 : fetch 125 1062 = some (.bipush 112, 1064, 0, 0, 0, 0) := by decide +kernel
theorem i_X8_init_1064 : fetch 125 1064 = some (.iastore, 1065, 0, 0, 0, 0) := by decide +kernel
theorem i_X8_init_1065 : fetch 125 1065 = some (.dup, 1066, 0, 0, 0, 0) := by decide +kernel
theorem i_X8_init_1066 : fetch 125 1066 = some (.bipush 49, 1068, 0, 0, 0, 0) := by decide +kernel
theorem i_X8_init_1068 : fetch 125 1068 = some (.bipush 97, 1070, 0, 0, 0, 0) := by decide +kernel
theorem i_X8_init_1070 : fetch 125 1070 = some (.iastore, 1071, 0, 0, 0, 0) := by decide +kernel
theorem i_X8_init_1071 : fetch 125 1071 = some (.dup, 1072, 0, 0, 0, 0) := by decide +kernel
theorem i_X8_init_1072 : fetch 125 1072 = some (.bipush 50, 1074, 0, 0, 0, 0) := by decide +kernel
theorem i_X8_init_1074 : fetch 125 1074 = some (.bipush 99, 1076, 0, 0, 0, 0) := by decide +kernel
theorem i_X8_init_1076 : fetch 125 1076 = some (.iastore, 1077, 0, 0, 0, 0) := by decide +kernel
theorem i_X8_init_1077 : fetch 125 1077 = some (.dup, 1078, 0, 0, 0, 0) := by decide +kernel
theorem i_X8_init_1078 : fetch 125 1078 = some (.bipush 51, 1080, 0, 0, 0, 0) := by decide +kernel
theorem i_X8_init_1080 : fetch 125 1080 = some (.bipush 101, 1082, 0, 0, 0, 0) := by decide +kernel
theorem i_X8_init_1082 : fetch 125 1082 = some (.iastore, 1083, 0, 0, 0, 0) := by decide +kernel
theorem i_X8_init_1083 : fetch 125 1083 = some (.dup, 1084, 0, 0, 0, 0) := by decide +kernel
theorem i_X8_init_1084 : fetch 125 1084 = some (.bipush 52, 1086, 0, 0, 0, 0) := by decide +kernel
theorem i_X8_init_1086 : fetch 125 1086 = some (.bipush 32, 1088, 0, 0, 0, 0) := by decide +kernel
theorem i_X8_init_1088 : fetch 125 1088 = some (.iastore, 1089, 0, 0, 0, 0) := by decide +kernel
theorem i_X8_init_1089 : fetch 125 1089 = some (.dup, 1090, 0, 0, 0, 0) := by decide +kernel
theorem i_X8_init_1090 : fetch 125 1090 = some (.bipush 53, 1092, 0, 0, 0, 0) := by decide +kernel
theorem i_X8_init_1092 : fetch 125 1092 = some (.bipush 32, 1094, 0, 0, 0, 0) := by decide +kernel
theorem i_X8_init_1094 : fetch 125 1094 = some (.iastore, 1095, 0, 0, 0, 0) := by decide +kernel
theorem i_X8_init_1095 : fetch 125 1095 = some (.dup, 1096, 0, 0, 0, 0) := by decide +kernel
theorem i_X8_init_1096 : fetch 125 1096 = some (.bipush 54, 1098, 0, 0, 0, 0) := by decide +kernel
theorem i_X8_init_1098 : fetch 125 1098 = some (.bipush 32, 1100, 0, 0, 0, 0) := by decide +kernel
theorem i_X8_init_1100 : fetch 125 1100 = some (.iastore, 1101, 0, 0, 0, 0) := by decide +kernel
theorem i_X8_init_1101 : fetch 125 1101 = some (.dup, 1102, 0, 0, 0, 0) := by decide +kernel
theorem i_X8_init_1102 : fetch 125 1102 = some (.bipush 55, 1104, 0, 0, 0, 0) := by decide +kernel
theorem i_X8_init_1104 : fetch 125 1104 = some (.bipush 32, 1106, 0, 0, 0, 0) := by decide +kernel
theorem i_X8_init_1106 : fetch 125 1106 = some (.iastore, 1107, 0, 0, 0, 0) := by decide +kernel
theorem i_X8_init_1107 : fetch 125 1107 = some (.dup, 1108, 0, 0, 0, 0) := by decide +kernel
theorem i_X8_init_1108 : fetch 125 1108 = some (.bipush 56, 1110, 0, 0, 0, 0) := by decide +kernel
theorem i_X8_init_1110 : fetch 125 1110 = some (.bipush 102, 1112, 0, 0, 0, 0) := by decide +kernel
theorem i_X8_init_1112 : fetch 125 1112 = some (.iastore, 1113, 0, 0, 0, 0) := by decide +kernel
theorem i_X8_init_1113 : fetch 125 1113 = some (.dup, 1114, 0, 0, 0, 0) := by decide +kernel
theorem i_X8_init_1114 : fetch 125 1114 = some (.bipush 57, 1116, 0, 0, 0, 0) := by decide +kernel
theorem i_X8_init_1116 : fetch 125 1116 = some (.bipush 111, 1118, 0, 0, 0, 0) := by decide +kernel
theorem i_X8_init_1118 : fetch 125 1118 = some (.iastore, 1119, 0, 0, 0, 0) := by decide +kernel
theorem i_X8_init_1119 : fetch 125 1119 = some (.dup, 1120, 0, 0, 0, 0) := by decide +kernel
theorem i_X8_init_1120 : fetch 125 1120 = some (.bipush 58, 1122, 0, 0, 0, 0) := by decide +kernel
theorem i_X8_init_1122 : fetch 125 1122 = some (.bipush 108, 1124, 0, 0, 0, 0) := by decide +kernel
theorem i_X8_init_1124 : fetch 125 1124 = some (.iastore, 1125, 0, 0, 0, 0) := by decide +kernel
theorem i_X8_init_1125 : fetch 125 1125 = some (.dup, 1126, 0, 0, 0, 0) := by decide +kernel
theorem i_X8_init_1126 : fetch 125 1126 = some (.bipush 59, 1128, 0, 0, 0, 0) := by decide +kernel
theorem i_X8_init_1128 : fetch 125 1128 = some (.bipush 100, 1130, 0, 0, 0, 0) := by decide +kernel
theorem i_X8_init_1130 : fetch 125 1130 = some (.iastore, 1131, 0, 0, 0, 0) := by decide +kernel
theorem i_X8_init_1131 : fetch 125 1131 = some (.dup, 1132, 0, 0, 0, 0) := by decide +kernel
theorem i_X8_init_1132 : fetch 125 1132 = some (.bipush 60, 1134, 0, 0, 0, 0) := by decide +kernel
theorem i_X8_init_1134 : fetch 125 1134 = some (.bipush 115, 1136, 0, 0, 0, 0) := by decide +kernel
theorem i_X8_init_1136 : fetch 125 1136 = some (.iastore, 1137, 0, 0, 0, 0) := by decide +kernel
theorem i_X8_init_1137 : fetch 125 1137 = some (.dup, 1138, 0, 0, 0, 0) := by decide +kernel
theorem i_X8_init_1138 : fetch 125 1138 = some (.bipush 61, 1140, 0, 0, 0, 0) := by decide +kernel
theorem i_X8_init_1140 : fetch 125 1140 = some (.bipush 32, 1142, 0, 0, 0, 0) := by decide +kernel
theorem i_X8_init_1142 : fetch 125 1142 = some (.iastore, 1143, 0, 0, 0, 0) := by decide +kernel
theorem i_X8_init_1143 : fetch 125 1143 = some (.dup, 1144, 0, 0, 0, 0) := by decide +kernel
theorem i_X8_init_1144 : fetch 125 1144 = some (.bipush 62, 1146, 0, 0, 0, 0) := by decide +kernel
theorem i_X8_init_1146 : fetch 125 1146 = some (.bipush 32, 1148, 0, 0, 0, 0) := by decide +kernel
theorem i_X8_init_1148 : fetch 125 1148 = some (.iastore, 1149, 0, 0, 0, 0) := by decide +kernel
theorem i_X8_init_1149 : fetch 125 1149 = some (.dup, 1150, 0, 0, 0, 0) := by decide +kernel
theorem i_X8_init_1150 : fetch 125 1150 = some (.bipush 63, 1152, 0, 0, 0, 0) := by decide +kernel
theorem i_X8_init_1152 : fetch 125 1152 = some (.bipush 32, 1154, 0, 0, 0, 0) := by decide +kernel
theorem i_X8_init_1154 : fetch 125 1154 = some (.iastore, 1155, 0, 0, 0, 0) := by decide +kernel
theorem i_X8_init_1155 : fetch 125 1155 = some (.dup, 1156, 0, 0, 0, 0) := by decide +kernel
theorem i_X8_init_1156 : fetch 125 1156 = some (.bipush 64, 1158, 0, 0, 0, 0) := by decide +kernel
theorem i_X8_init_1158 : fetch 125 1158 = some (.bipush 100, 1160, 0, 0, 0, 0) := by decide +kernel
theorem i_X8_init_1160 : fetch 125 1160 = some (.iastore, 1161, 0, 0, 0, 0) := by decide +kernel
theorem i_X8_init_1161 : fetch 125 1161 = some (.dup, 1162, 0, 0, 0, 0) := by decide +kernel
theorem i_X8_init_1162 : fetch 125 1162 = some (.bipush 65, 1164, 0, 0, 0, 0) := by decide +kernel
theorem i_X8_init_1164 : fetch 125 1164 = some (.bipush 117, 1166, 0, 0, 0, 0) := by decide +kernel
theorem i_X8_init_1166 : fetch 125 1166 = some (.iastore, 1167, 0, 0, 0, 0) := by decide +kernel
theorem i_X8_init_1167 : fetch 125 1167 = some (.dup, 1168, 0, 0, 0, 0) := by decide +kernel
theorem i_X8_init_1168 : fetch 125 1168 = some (.bipush 66, 1170, 0, 0, 0, 0) := by decide +kernel
theorem i_X8_init_1170 : fetch 125 1170 = some (.bipush 115, 1172, 0, 0, 0, 0) := by decide +kernel
theorem i_X8_init_1172 : fetch 125 1172 = some (.iastore, 1173, 0, 0, 0, 0) := by decide +kernel
theorem i_X8_init_1173 : fetch 125 1173 = some (.dup, 1174, 0, 0, 0, 0) := by decide +kernel
theorem i_X8_init_1174 : fetch 125 1174 = some (.bipush 67, 1176, 0, 0, 0, 0) := by decide +kernel
theorem i_X8_init_1176 : fetch 125 1176 = some (.bipush 116, 1178, 0, 0, 0, 0) := by decide +kernel
theorem i_X8_init_1178 : fetch 125 1178 = some (.iastore, 1179, 0, 0, 0, 0) := by decide +kernel
theorem i_X8_init_1179 : fetch 125 1179 = some (.dup, 1180, 0, 0, 0, 0) := by decide +kernel
theorem i_X8_init_1180 : fetch 125 1180 = some (.bipush 68, 1182, 0, 0, 0, 0) := by decide +kernel
theorem i_X8_init_1182 : fetch 125 1182 = some (.bipush 32, 1184, 0, 0, 0, 0) := by decide +kernel
theorem i_X8_init_1184 : fetch 125 1184 = some (.iastore, 1185, 0, 0, 0, 0) := by decide +kernel
theorem i_X8_init_1185 : fetch 125 1185 = some (.dup, 1186, 0, 0, 0, 0) := by decide +kernel
theorem i_X8_init_1186 : fetch 125 1186 = some (.bipush 69, 1188, 0, 0, 0, 0) := by decide +kernel
theorem i_X8_init_1188 : fetch 125 1188 = some (.bipush 32, 1190, 0, 0, 0, 0) := by decide +kernel
theorem i_X8_init_1190 : fetch 125 1190 = some (.iastore, 1191, 0, 0, 0, 0) := by decide +kernel
theorem i_X8_init_1191 : fetch 125 1191 = some (.dup, 1192, 0, 0, 0, 0) := by decide +kernel
theorem i_X8_init_1192 : fetch 125 1192 = some (.bipush 70, 1194, 0, 0, 0, 0) := by decide +kernel
theorem i_X8_init_1194 : fetch 125 1194 = some (.bipush 32, 1196, 0, 0, 0, 0) := by decide +kernel
theorem i_X8_init_1196 : fetch 125 1196 = some (.iastore, 1197, 0, 0, 0, 0) := by decide +kernel
theorem i_X8_init_1197 : fetch 125 1197 = some (.dup, 1198, 0, 0, 0, 0) := by decide +kernel
theorem i_X8_init_1198 : fetch 125 1198 = some (.bipush 71, 1200, 0, 0, 0, 0) := by decide +kernel
theorem i_X8_init_1200 : fetch 125 1200 = some (.bipush 32, 1202, 0, 0, 0, 0) := by decide +kernel
theorem i_X8_init_1202 : fetch 125 1202 = some (.iastore, 1203, 0, 0, 0, 0) := by decide +kernel
theorem i_X8_init_1203 : fetch 125 1203 = some (.dup, 1204, 0, 0, 0, 0) := by decide +kernel
theorem i_X8_init_1204 : fetch 125 1204 = some (.bipush 72, 1206, 0, 0, 0, 0) := by decide +kernel
theorem i_X8_init_1206 : fetch 125 1206 = some (.bipush 111, 1208, 0, 0, 0, 0) := by decide +kernel
theorem i_X8_init_1208 : fetch 125 1208 = some (.iastore, 1209, 0, 0, 0, 0) := by decide +kernel
theorem i_X8_init_1209 : fetch 125 1209 = some (.dup, 1210, 0, 0, 0, 0) := by decide +kernel
theorem i_X8_init_1210 : fetch 125 1210 = some (.bipush 73, 1212, 0, 0, 0, 0) := by decide +kernel
theorem i_X8_init_1212 : fetch 125 1212 = some (.bipush 114, 1214, 0, 0, 0, 0) := by decide +kernel
theorem i_X8_init_1214 : fetch 125 1214 = some (.iastore, 1215, 0, 0, 0, 0) := by decide +kernel
theorem i_X8_init_1215 : fetch 125 1215 = some (.dup, 1216, 0, 0, 0, 0) := by decide +kernel
theorem i_X8_init_1216 : fetch 125 1216 = some (.bipush 74, 1218, 0, 0, 0, 0) := by decide +kernel
theorem i_X8_init_1218 : fetch 125 1218 = some (.bipush 32, 1220, 0, 0, 0, 0) := by decide +kernel
theorem i_X8_init_1220 : fetch 125 1220 = some (.iastore, 1221, 0, 0, 0, 0) := by decide +kernel
theorem i_X8_init_1221 : fetch 125 1221 = some (.dup, 1222, 0, 0, 0, 0) := by decide +kernel
theorem i_X8_init_1222 : fetch 125 1222 = some (.bipush 75, 1224, 0, 0, 0, 0) := by decide +kernel
theorem i_X8_init_1224 : fetch 125 1224 = some (.bipush 32, 1226, 0, 0, 0, 0) := by decide +kernel
theorem i_X8_init_1226 : fetch 125 1226 = some (.iastore, 1227, 0, 0, 0, 0) := by decide +kernel
theorem i_X8_init_1227 : fetch 125 1227 = some (.dup, 1228, 0, 0, 0, 0) := by decide +kernel
theorem i_X8_init_1228 : fetch 125 1228 = some (.bipush 76, 1230, 0, 0, 0, 0) := by decide +kernel
theorem i_X8_init_1230 : fetch 125 1230 = some (.bipush 32, 1232, 0, 0, 0, 0) := by decide +kernel
theorem i_X8_init_1232 : fetch 125 1232 = some (.iastore, 1233, 0, 0, 0, 0) := by decide +kernel
theorem i_X8_init_1233 : fetch 125 1233 = some (.dup, 1234, 0, 0, 0, 0) := by decide +kernel
theorem i_X8_init_1234 : fetch 125 1234 = some (.bipush 77, 1236, 0, 0, 0, 0) := by decide +kernel
theorem i_X8_init_1236 : fetch 125 1236 = some (.bipush 32, 1238, 0, 0, 0, 0) := by decide +kernel
theorem i_X8_init_1238 : fetch 125 1238 = some (.iastore, 1239, 0, 0, 0, 0) := by decide +kernel
theorem i_X8_init_1239 : fetch 125 1239 = some (.dup, 1240, 0, 0, 0, 0) := by decide +kernel
theorem i_X8_init_1240 : fetch 125 1240 = some (.bipush 78, 1242, 0, 0, 0, 0) := by decide +kernel
theorem i_X8_init_1242 : fetch 125 1242 = some (.bipush 32, 1244, 0, 0, 0, 0) := by decide +kernel
theorem i_X8_init_1244 : fetch 125 1244 = some (.iastore, 1245, 0, 0, 0, 0) := by decide +kernel
theorem i_X8_init_1245 : fetch 125 1245 = some (.dup, 1246, 0, 0, 0, 0) := by decide +kernel
theorem i_X8_init_1246 : fetch 125 1246 = some (.bipush 79, 1248, 0, 0, 0, 0) := by decide +kernel
theorem i_X8_init_1248 : fetch 125 1248 = some (.bipush 32, 1250, 0, 0, 0, 0) := by decide +kernel
theorem i_X8_init_1250 : fetch 125 1250 = some (.iastore, 1251, 0, 0, 0, 0) := by decide +kernel
theorem i_X8_init_1251 : fetch 125 1251 = some (.dup, 1252, 0, 0, 0, 0) := by decide +kernel
theorem i_X8_init_1252 : fetch 125 1252 = some (.bipush 80, 1254, 0, 0, 0, 0) := by decide +kernel
theorem i_X8_init_1254 : fetch 125 1254 = some (.bipush 97, 1256, 0, 0, 0, 0) := by decide +kernel
theorem i_X8_init_1256 : fetch 125 1256 = some (.iastore, 1257, 0, 0, 0, 0) := by decide +kernel
theorem i_X8_init_1257 : fetch 125 1257 = some (.dup, 1258, 0, 0, 0, 0) := by decide +kernel
theorem i_X8_init_1258 : fetch 125 1258 = some (.bipush 81, 1260, 0, 0, 0, 0) := by decide +kernel
theorem i_X8_init_1260 : fetch 125 1260 = some (.bipush 110, 1262, 0, 0, 0, 0) := by decide +kernel
theorem i_X8_init_1262 : fetch 125 1262 = some (.iastore, 1263, 0, 0, 0, 0) := by decide +kernel
theorem i_X8_init_1263 : fetch 125 1263 = some (.dup, 1264, 0, 0, 0, 0) := by decide +kernel
theorem i_X8_init_1264 : fetch 125 1264 = some (.bipush 82, 1266, 0, 0, 0, 0) := by decide +kernel
theorem i_X8_init_1266 : fetch 125 1266 = some (.bipush 100, 1268, 0, 0, 0, 0) := by decide +kernel
theorem i_X8_init_1268 : fetch 125 1268 = some (.iastore, 1269, 0, 0, 0, 0) := by decide +kernel
theorem i_X8_init_1269 : fetch 125 1269 = some (.dup, 1270, 0, 0, 0, 0) := by decide +kernel
theorem i_X8_init_1270 : fetch 125 1270 = some (.bipush 83, 1272, 0, 0, 0, 0) := by decide +kernel
theorem i_X8_init_1272 : fetch 125 1272 = some (.bipush 32, 1274, 0, 0, 0, 0) := by decide +kernel
theorem i_X8_init_1274 : fetch 125 1274 = some (.iastore, 1275, 0, 0, 0, 0) := by decide +kernel
theorem i_X8_init_1275 : fetch 125 1275 = some (.dup, 1276, 0, 0, 0, 0) := by decide +kernel
theorem i_X8_init_1276 : fetch 125 1276 = some (.bipush 84, 1278, 0, 0, 0, 0) := by decide +kernel
theorem i_X8_init_1278 : fetch 125 1278 = some (.bipush 32, 1280, 0, 0, 0, 0) := by decide +kernel
theorem i_X8_init_1280 : fetch 125 1280 = some (.iastore, 1281, 0, 0, 0, 0) := by decide +kernel
theorem i_X8_init_1281 : fetch 125 1281 = some (.dup, 1282, 0, 0, 0, 0) := by decide +kernel
theorem i_X8_init_1282 : fetch 125 1282 = some (.bipush 85, 1284, 0, 0, 0, 0) := by decide +kernel
theorem i_X8_init_1284 : fetch 125 1284 = some (.bipush 32, 1286, 0, 0, 0, 0) := by decide +kernel
theorem i_X8_init_1286 : fetch 125 1286 = some (.iastore, 1287, 0, 0, 0, 0) := by decide +kernel
theorem i_X8_init_1287 : fetch 125 1287 = some (.dup, 1288, 0, 0, 0, 0) := by decide +kernel
theorem i_X8_init_1288 : fetch 125 1288 = some (.bipush 86, 1290, 0, 0, 0, 0) := by decide +kernel
theorem i_X8_init_1290 : fetch 125 1290 = some (.bipush 32, 1292, 0, 0, 0, 0) := by decide +kernel
theorem i_X8_init_1292 : fetch 125 1292 = some (.iastore, 1293, 0, 0, 0, 0) := by decide +kernel
theorem i_X8_init_1293 : fetch 125 1293 = some (.dup, 1294, 0, 0, 0, 0) := by decide +kernel
theorem i_X8_init_1294 : fetch 125 1294 = some (.bipush 87, 1296, 0, 0, 0, 0) := by decide +kernel
theorem i_X8_init_1296 : fetch 125 1296 = some (.bipush 32, 1298, 0, 0, 0, 0) := by decide +kernel
theorem i_X8_init_1298 : fetch 125 1298 = some (.iastore, 1299, 0, 0, 0, 0) := by decide +kernel
theorem i_X8_init_1299 : fetch 125 1299 = some (.dup, 1300, 0, 0, 0, 0) := by decide +kernel
theorem i_X8_init_1300 : fetch 125 1300 = some (.bipush 88, 1302, 0, 0, 0, 0) := by decide +kernel
theorem i_X8_init_1302 : fetch 125 1302 = some (.bipush 110, 1304, 0, 0, 0, 0) := by decide +kernel
theorem i_X8_init_1304 : fetch 125 1304 = some (.iastore, 1305, 0, 0, 0, 0) := by decide +kernel
theorem i_X8_init_1305 : fetch 125 1305 = some (.dup, 1306, 0, 0, 0, 0) := by decide +kernel
theorem i_X8_init_1306 : fetch 125 1306 = some (.bipush 89, 1308, 0, 0, 0, 0) := by decide +kernel
theorem i_X8_init_1308 : fetch 125 1308 = some (.bipush 111, 1310, 0, 0, 0, 0) := by decide +kernel
theorem i_X8_init_1310 : fetch 125 1310 = some (.iastore, 1311, 0, 0, 0, 0) := by decide +kernel
theorem i_X8_init_1311 : fetch 125 1311 = some (.dup, 1312, 0, 0, 0, 0) := by decide +kernel
theorem i_X8_init_1312 : fetch 125 1312 = some (.bipush 90, 1314, 0, 0, 0, 0) := by decide +kernel
theorem i_X8_init_1314 : fetch 125 1314 = some (.bipush 116, 1316, 0, 0, 0, 0) := by decide +kernel
theorem i_X8_init_1316 : fetch 125 1316 = some (.iastore, 1317, 0, 0, 0, 0) := by decide +kernel
theorem i_X8_init_1317 : fetch 125 1317 = some (.dup, 1318, 0, 0, 0, 0) := by decide +kernel
theorem i_X8_init_1318 : fetch 125 1318 = some (.bipush 91, 1320, 0, 0, 0, 0) := by decide +kernel
theorem i_X8_init_1320 : fetch 125 1320 = some (.bipush 32, 1322, 0, 0, 0, 0) := by decide +kernel
theorem i_X8_init_1322 : fetch 125 1322 = some (.iastore, 1323, 0, 0, 0, 0) := by decide +kernel
theorem i_X8_init_1323 : fetch 125 1323 = some (.dup, 1324, 0, 0, 0, 0) := by decide +kernel
theorem i_X8_init_1324 : fetch 125 1324 = some (.bipush 92, 1326, 0, 0, 0, 0) := by decide +kernel
theorem i_X8_init_1326 : fetch 125 1326 = some (.bipush 32, 1328, 0, 0, 0, 0) := by decide +kernel
theorem i_X8_init_1328 : fetch 125 1328 = some (.iastore, 1329, 0, 0, 0, 0) := by decide +kernel
theorem i_X8_init_1329 : fetch 125 1329 = some (.dup, 1330, 0, 0, 0, 0) := by decide +kernel
theorem i_X8_init_1330 : fetch 125 1330 = some (.bipush 93, 1332, 0, 0, 0, 0) := by decide +kernel
theorem i_X8_init_1332 : fetch 125 1332 = some (.bipush 32, 1334, 0, 0, 0, 0) := by decide +kernel
theorem i_X8_init_1334 : fetch 125 1334 = some (.iastore, 1335, 0, 0, 0, 0) := by decide +kernel
theorem i_X8_init_1335 : fetch 125 1335 = some (.dup, 1336, 0, 0, 0, 0) := by decide +kernel
theorem i_X8_init_1336 : fetch 125 1336 = some (.bipush 94, 1338, 0, 0, 0, 0) := by decide +kernel
theorem i_X8_init_1338 : fetch 125 1338 = some (.bipush 32, 1340, 0, 0, 0, 0) := by decide +kernel
theorem i_X8_init_1340 : fetch 125 1340 = some (.iastore, 1341, 0, 0, 0, 0) := by decide +kernel
theorem i_X8_init_1341 : fetch 125 1341 = some (.dup, 1342, 0, 0, 0, 0) := by decide +kernel
theorem i_X8_init_1342 : fetch 125 1342 = some (.bipush 95, 1344, 0, 0, 0, 0) := by decide +kernel
theorem i_X8_init_1344 : fetch 125 1344 = some (.bipush 32, 1346, 0, 0, 0, 0) := by decide +kernel
theorem i_X8_init_1346 : fetch 125 1346 = some (.iastore, 1347, 0, 0, 0, 0) := by decide +kernel
theorem i_X8_init_1347 : fetch 125 1347 = some (.putfield 63, 1350, 8, 30, 0, 1039) := by decide +kernel
theorem i_X8_init_1350 : fetch 125 1350 = some (.aload_n 0, 1351, 0, 0, 0, 0) := by decide +kernel
theorem i_X8_init_1351 : fetch 125 1351 = some (.sipush 200, 1354, 0, 0, 0, 0) := by decide +kernel
theorem i_X8_init_1354 : fetch 125 1354 = some (.newarray .int, 1356, 9, 0, 0, 0) := by decide +kernel
theorem i_X8_init_1356 : fetch 125 1356 = some (.putfield 66, 1359, 8, 31, 0, 1040) := by decide +kernel
theorem i_X8_init_1359 : fetch 125 1359 = some (.aload_n 0, 1360, 0, 0, 0, 0) := by decide +kernel
theorem i_X8_init_1360 : fetch 125 1360 = some (.sipush 200, 1363, 0, 0, 0, 0) := by decide +kernel
theorem i_X8_init_1363 : fetch 125 1363 = some (.newarray .int, 1365, 9, 0, 0, 0) := by decide +kernel
theorem i_X8_init_1365 : fetch 125 1365 = some (.putfield 69, 1368, 8, 35, 0, 1044) := by decide +kernel
theorem i_X8_init_1368 : fetch 125 1368 = some (.aload_n 0, 1369, 0, 0, 0, 0) := by decide +kernel
theorem i_X8_init_1369 : fetch 125 1369 = some (.bipush 6, 1371, 0, 0, 0, 0) := by decide +kernel
theorem i_X8_init_1371 : fetch 125 1371 = some (.newarray .int, 1373, 9, 0, 0, 0) := by decide +kernel
theorem i_X8_init_1373 : fetch 125 1373 = some (.putfield 72, 1376, 8, 36, 0, 1045) := by decide +kernel
theorem i_X8_init_1376 : fetch 125 1376 = some (.aload_n 0, 1377, 0, 0, 0, 0) := by decide +kernel
theorem i_X8_init_1377 : fetch 125 1377 = some (.bipush 12, 1379, 0, 0, 0, 0) := by decide +kernel
theorem i_X8_init_1379 : fetch 125 1379 = some (.newarray .int, 1381, 9, 0, 0, 0) := by decide +kernel
theorem i_X8_init_1381 : fetch 125 1381 = some (.putfield 75, 1384, 8, 37, 0, 1046) := by decide +kernel
theorem i_X8_init_1384 : fetch 125 1384 = some (.aload_n 0, 1385, 0, 0, 0, 0) := by decide +kernel
theorem i_X8_init_1385 : fetch 125 1385 = some (.bipush 12, 1387, 0, 0, 0, 0) := by decide +kernel
theorem i_X8_init_1387 : fetch 125 1387 = some (.newarray .int, 1389, 9, 0, 0, 0) := by decide +kernel
theorem i_X8_init_1389 : fetch 125 1389 = some (.putfield 78, 1392, 8, 38, 0, 1047) := by decide +kernel
theorem i_X8_init_1392 : fetch 125 1392 = some (.aload_n 0, 1393, 0, 0, 0, 0) := by decide +kernel
theorem i_X8_init_1393 : fetch 125 1393 = some (.bipush 12, 1395, 0, 0, 0, 0) := by decide +kernel
theorem i_X8_init_1395 : fetch 125 1395 = some (.newarray .int, 1397, 9, 0, 0, 0) := by decide +kernel
theorem i_X8_init_1397 : fetch 125 1397 = some (.putfield 81, 1400, 8, 39, 0, 1048) := by decide +kernel
theorem i_X8_init_1400 : fetch 125 1400 = some (.aload_n 0, 1401, 0, 0, 0, 0) := by decide +kernel
theorem i_X8_init_1401 : fetch 125 1401 = some (.bipush 12, 1403, 0, 0, 0, 0) := by decide +kernel
theorem i_X8_init_1403 : fetch 125 1403 = some (.newarray .int, 1405, 9, 0, 0, 0) := by decide +kernel
theorem i_X8_init_1405 : fetch 125 1405 = some (.putfield 84, 1408, 8, 47, 0, 1056) := by decide +kernel
theorem i_X8_init_1408 : fetch 125 1408 = some (.aload_n 0, 1409, 0, 0, 0, 0) := by decide +kernel
theorem i_X8_init_1409 : fetch 125 1409 = some (.bipush 12, 1411, 0, 0, 0, 0) := by decide +kernel
theorem i_X8_init_1411 : fetch 125 1411 = some (.newarray .int, 1413, 9, 0, 0, 0) := by decide +kernel
theorem i_X8_init_1413 : fetch 125 1413 = some (.putfield 87, 1416, 8, 48, 0, 1057) := by decide +kernel
theorem i_X8_init_1416 : fetch 125 1416 = some (.aload_n 0, 1417, 0, 0, 0, 0) := by decide +kernel
theorem i_X8_init_1417 : fetch 125 1417 = some (.bipush 12, 1419, 0, 0, 0, 0) := by decide +kernel
theorem i_X8_init_1419 : fetch 125 1419 = some (.newarray .int, 1421, 9, 0, 0, 0) := by decide +kernel
theorem i_X8_init_1421 : fetch 125 1421 = some (.putfield 90, 1424, 8, 49, 0, 1058) := by decide +kernel
theorem i_X8_init_1424 : fetch 125 1424 = some (.aload_n 0, 1425, 0, 0, 0, 0) := by decide +kernel
theorem i_X8_init_1425 : fetch 125 1425 = some (.bipush 12, 1427, 0, 0, 0, 0) := by decide +kernel
theorem i_X8_init_1427 : fetch 125 1427 = some (.newarray .int, 1429, 9, 0, 0, 0) := by decide +kernel
theorem i_X8_init_1429 : fetch 125 1429 = some (.putfield 93, 1432, 8, 50, 0, 1059) := by decide +kernel
theorem i_X8_init_1432 : fetch 125 1432 = some (.aload_n 0, 1433, 0, 0, 0, 0) := by decide +kernel
theorem i_X8_init_1433 : fetch 125 1433 = some (.bipush 12, 1435, 0, 0, 0, 0) := by decide +kernel
theorem i_X8_init_1435 : fetch 125 1435 = some (.newarray .int, 1437, 9, 0, 0, 0) := by decide +kernel
theorem i_X8_init_1437 : fetch 125 1437 = some (.putfield 96, 1440, 8, 51, 0, 1060) := by decide +kernel
theorem i_X8_init_1440 : fetch 125 1440 = some (.aload_n 0, 1441, 0, 0, 0, 0) := by decide +kernel
theorem i_X8_init_1441 : fetch 125 1441 = some (.bipush 16, 1443, 0, 0, 0, 0) := by decide +kernel
theorem i_X8_init_1443 : fetch 125 1443 = some (.newarray .int, 1445, 9, 0, 0, 0) := by decide +kernel
theorem i_X8_init_1445 : fetch 125 1445 = some (.putfield 99, 1448, 8, 52, 0, 1061) := by decide +kernel
theorem i_X8_init_1448 : fetch 125 1448 = some (.aload_n 0, 1449, 0, 0, 0, 0) := by decide +kernel
theorem i_X8_init_1449 : fetch 125 1449 = some (.bipush 16, 1451, 0, 0, 0, 0) := by decide +kernel
theorem i_X8_init_1451 : fetch 125 1451 = some (.newarray .int, 1453, 9, 0, 0, 0) := by decide +kernel
theorem i_X8_init_1453 : fetch 125 1453 = some (.putfield 102, 1456, 8, 53, 0, 1062) := by decide +kernel
theorem i_X8_init_1456 : fetch 125 1456 = some (.iconst 0, 1457, 0, 0, 0, 0) := by decide +kernel
theorem i_X8_init_1457 : fetch 125 1457 = some (.istore_n 1, 1458, 0, 0, 0, 0) := by decide +kernel
theorem i_X8_init_1458 : fetch 125 1458 = some (.iload_n 1, 1459, 0, 0, 0, 0) := by decide +kernel
theorem i_X8_init_1459 : fetch 125 1459 = some (.bipush 83, 1461, 0, 0, 0, 0) := by decide +kernel
theorem i_X8_init_1461 : fetch 125 1461 = some (.if_icmp .ge 21, 1464, 0, 0, 0, 0) := by decide +kernel
theorem i_X8_init_1464 : fetch 125 1464 = some (.aload_n 0, 1465, 0, 0, 0, 0) := by decide +kernel
theorem i_X8_init_1465 : fetch 125 1465 = some (.getfield 36, 1468, 8, 9, 0, 1018) := by decide +kernel
theorem i_X8_init_1468 : fetch 125 1468 = some (.iload_n 1, 1469, 0, 0, 0, 0) := by decide +kernel
theorem i_X8_init_1469 : fetch 125 1469 = some (.aload_n 0, 1470, 0, 0, 0, 0) := by decide +kernel
theorem i_X8_init_1470 : fetch 125 1470 = some (.getfield 60, 1473, 8, 25, 0, 1034) := by decide +kernel
theorem i_X8_init_1473 : fetch 125 1473 = some (.iload_n 1, 1474, 0, 0, 0, 0) := by decide +kernel
theorem i_X8_init_1474 : fetch 125 1474 = some (.iaload, 1475, 0, 0, 0, 0) := by decide +kernel
theorem i_X8_init_1475 : fetch 125 1475 = some (.iastore, 1476, 0, 0, 0, 0) := by decide +kernel
theorem i_X8_init_1476 : fetch 125 1476 = some (.iinc 1 1, 1479, 0, 0, 0, 0) := by decide +kernel
theorem i_X8_init_1479 : fetch 125 1479 = some (.goto (-21), 1482, 0, 0, 0, 0) := by decide +kernel
theorem i_X8_init_1482 : fetch 125 1482 = some (.aload_n 0, 1483, 0, 0, 0, 0) := by decide +kernel
theorem i_X8_init_1483 : fetch 125 1483 = some (.bipush 83, 1485, 0, 0, 0, 0) := by decide +kernel
theorem i_X8_init_1485 : fetch 125 1485 = some (.putfield 105, 1488, 8, 10, 0, 1019) := by decide +kernel
theorem i_X8_init_1488 : fetch 125 1488 = some (.aload_n 0, 1489, 0, 0, 0, 0) := by decide +kernel
theorem i_X8_init_1489 : fetch 125 1489 = some (.invokevirtual 108, 1492, 146, 0, 0, 962) := by decide +kernel
theorem i_X8_init_1492 : fetch 125 1492 = some (.pop, 1493, 0, 0, 0, 0) := by decide +kernel
theorem i_X8_init_1493 : fetch 125 1493 = some (.return_, 1494, 0, 0, 0, 0) := by decide +kernel
def f_X8_init_1488 (n : Nat) (v0 : Nat) (h : Hp) : Option Hp :=
  if okO h v0 8 then
  (f_X8_text n v0 h).bind fun o1 =>
  some o1.2
  else none
set_option maxRecDepth 100000 in
set_option maxHeartbeats 4000000 in
theorem r_X8_init_1488 {X : Nat → Int32} {d : Nat} (hd : 5 ≤ (d + 1)) {n : Nat} {v0 : Nat} {d1 : Int32} {h : Hp} {o : Hp} (hf : f_X8_init_1488 n v0 h = some o) : Run X (d + 1) 125 1488 [some (.ref v0), some (.int d1)] [] h (none, o) := by
  unfold f_X8_init_1488 at hf
  refine rs_aload_n i_X8_init_1488 rfl ?_
  obtain ⟨c2, hf⟩ := ite_some hf
  obtain ⟨o1, e1, hf⟩ := bind_some hf
  refine rs_inV i_X8_init_1489 m_X8_text rfl (As := []) (rest := []) rfl rfl (Nat.le_of_ble_eq_true rfl) c2 (c_X8_text (by omega) e1) (st' := [.int o1.1]) rfl ?_
  refine rs_pop i_X8_init_1492 rfl ?_
  have hf := Option.some.inj hf
  subst hf
  exact rs_vret i_X8_init_1493 m_X8_init rfl
def f_X8_init_1458 (n : Nat) : Nat → Nat → Int32 → Hp → Option Hp
  | 0, _, _, _ => none
  | m + 1, v0, v1, h =>
    if 83 ≤ v1 then
      if okO h v0 8 then
      f_X8_init_1488 n v0 (hsi h v0 10 83)
      else none
    else
      if okO h v0 8 then
      (gR h v0 9).bind fun a4 =>
      (gR h v0 25).bind fun a5 =>
      if okI h a5 v1 then
      if okI h a4 v1 then
      (f_X8_init_1458 n m) v0 (v1 + 1) (hsi h a4 (ix v1) (gI h a5 (ix v1)))
      else none
      else none
      else none
set_option maxRecDepth 100000 in
set_option maxHeartbeats 4000000 in
theorem r_X8_init_1458 {X : Nat → Int32} {d : Nat} (hd : 5 ≤ (d + 1)) {n : Nat} : ∀ (m : Nat) (v0 : Nat) (v1 : Int32) (h : Hp) (o : Hp), f_X8_init_1458 n m v0 v1 h = some o → Run X (d + 1) 125 1458 [some (.ref v0), some (.int v1)] [] h (none, o) := by
  intro m
  induction m with
  | zero => intro v0 v1 h o hf; cases hf
  | succ m ih =>
    intro v0 v1 h o hf
    rw [f_X8_init_1458] at hf
    refine rs_iload_n i_X8_init_1458 rfl ?_
    refine rs_bipush i_X8_init_1459 (v := 83) (by decide) ?_
    by_cases c1 : 83 ≤ v1
    · replace hf := (if_pos c1).symm.trans hf
      refine rs_icT i_X8_init_1461 (ct_ge c1) (tg := 1482) (by decide) ?_
      refine rs_aload_n i_X8_init_1482 rfl ?_
      refine rs_bipush i_X8_init_1483 (v := 83) (by decide) ?_
      obtain ⟨c2, hf⟩ := ite_some hf
      refine rs_putI i_X8_init_1485 (by decide) c2 ?_
      exact r_X8_init_1488 hd hf
    · replace hf := (if_neg c1).symm.trans hf
      refine rs_icF i_X8_init_1461 (cf_ge c1) ?_
      refine rs_aload_n i_X8_init_1464 rfl ?_
      obtain ⟨c3, hf⟩ := ite_some hf
      obtain ⟨a4, e4, hf⟩ := bind_some hf
      refine rs_getR i_X8_init_1465 (by decide) (by decide) c3 e4 ?_
      refine rs_iload_n i_X8_init_1468 rfl ?_
      refine rs_aload_n i_X8_init_1469 rfl ?_
      obtain ⟨a5, e5, hf⟩ := bind_some hf
      refine rs_getR i_X8_init_1470 (by decide) (by decide) c3 e5 ?_
      refine rs_iload_n i_X8_init_1473 rfl ?_
      obtain ⟨c6, hf⟩ := ite_some hf
      refine rs_iald i_X8_init_1474 c6 ?_
      obtain ⟨c7, hf⟩ := ite_some hf
      refine rs_iast i_X8_init_1475 c7 ?_
      refine rs_iinc i_X8_init_1476 rfl (v := v1 + 1) rfl (Nat.le_of_ble_eq_true rfl) (lv' := [some (.ref v0), some (.int (v1 + 1))]) rfl ?_
      refine rs_goto i_X8_init_1479 (tg := 1458) (by decide) ?_
      exact ih _ _ _ _ hf
def f_X8_init_1453 (n : Nat) (v0 : Nat) (s0 : Nat) (s1 : Nat) (h : Hp) : Option Hp :=
  if okO h s0 8 then
  if 16 ≤ s1 then
  f_X8_init_1458 n n v0 0 (hsr h s0 53 (some s1))
  else none
  else none
set_option maxRecDepth 100000 in
set_option maxHeartbeats 4000000 in
theorem r_X8_init_1453 {X : Nat → Int32} {d : Nat} (hd : 5 ≤ (d + 1)) {n : Nat} {v0 : Nat} {s0 : Nat} {s1 : Nat} {h : Hp} {o : Hp} (hf : f_X8_init_1453 n v0 s0 s1 h = some o) : Run X (d + 1) 125 1453 [some (.ref v0), none] [.ref s1, .ref s0] h (none, o) := by
  unfold f_X8_init_1453 at hf
  obtain ⟨c1, hf⟩ := ite_some hf
  obtain ⟨c2, hf⟩ := ite_some hf
  refine rs_putR i_X8_init_1453 (by decide) c2 c1 ?_
  refine rs_iconst i_X8_init_1456 (v := 0) (by decide) ?_
  refine rs_istore_n i_X8_init_1457 (Nat.le_of_ble_eq_true rfl) (lv' := [some (.ref v0), some (.int 0)]) rfl ?_
  exact r_X8_init_1458 hd _ _ _ _ _ hf
def f_X8_init_1448 (n : Nat) (v0 : Nat) (h : Hp) : Option Hp :=
  f_X8_init_1453 n v0 v0 h.1.length (hnew h (9, ix 16))
set_option maxRecDepth 100000 in
set_option maxHeartbeats 4000000 in
theorem r_X8_init_1448 {X : Nat → Int32} {d : Nat} (hd : 5 ≤ (d + 1)) {n : Nat} {v0 : Nat} {h : Hp} {o : Hp} (hf : f_X8_init_1448 n v0 h = some o) : Run X (d + 1) 125 1448 [some (.ref v0), none] [] h (none, o) := by
  unfold f_X8_init_1448 at hf
  refine rs_aload_n i_X8_init_1448 rfl ?_
  refine rs_bipush i_X8_init_1449 (v := 16) (by decide) ?_
  refine rs_newa i_X8_init_1451 (by decide) ?_
  exact r_X8_init_1453 hd hf
def f_X8_init_1445 (n : Nat) (v0 : Nat) (s0 : Nat) (s1 : Nat) (h : Hp) : Option Hp :=
  if okO h s0 8 then
  if 16 ≤ s1 then
  f_X8_init_1448 n v0 (hsr h s0 52 (some s1))
  else none
  else none
set_option maxRecDepth 100000 in
set_option maxHeartbeats 4000000 in
theorem r_X8_init_1445 {X : Nat → Int32} {d : Nat} (hd : 5 ≤ (d + 1)) {n : Nat} {v0 : Nat} {s0 : Nat} {s1 : Nat} {h : Hp} {o : Hp} (hf : f_X8_init_1445 n v0 s0 s1 h = some o) : Run X (d + 1) 125 1445 [some (.ref v0), none] [.ref s1, .ref s0] h (none, o) := by
  unfold f_X8_init_1445 at hf
  obtain ⟨c1, hf⟩ := ite_some hf
  obtain ⟨c2, hf⟩ := ite_some hf
  refine rs_putR i_X8_init_1445 (by decide) c2 c1 ?_
  exact r_X8_init_1448 hd hf
def f_X8_init_1440 (n : Nat) (v0 : Nat) (h : Hp) : Option Hp :=
  f_X8_init_1445 n v0 v0 h.1.length (hnew h (9, ix 16))
set_option maxRecDepth 100000 in
set_option maxHeartbeats 4000000 in
theorem r_X8_init_1440 {X : Nat → Int32} {d : Nat} (hd : 5 ≤ (d + 1)) {n : Nat} {v0 : Nat} {h : Hp} {o : Hp} (hf : f_X8_init_1440 n v0 h = some o) : Run X (d + 1) 125 1440 [some (.ref v0), none] [] h (none, o) := by
  unfold f_X8_init_1440 at hf
  refine rs_aload_n i_X8_init_1440 rfl ?_
  refine rs_bipush i_X8_init_1441 (v := 16) (by decide) ?_
  refine rs_newa i_X8_init_1443 (by decide) ?_
  exact r_X8_init_1445 hd hf
def f_X8_init_1437 (n : Nat) (v0 : Nat) (s0 : Nat) (s1 : Nat) (h : Hp) : Option Hp :=
  if okO h s0 8 then
  if 16 ≤ s1 then
  f_X8_init_1440 n v0 (hsr h s0 51 (some s1))
  else none
  else none
set_option maxRecDepth 100000 in
set_option maxHeartbeats 4000000 in
theorem r_X8_init_1437 {X : Nat → Int32} {d : Nat} (hd : 5 ≤ (d + 1)) {n : Nat} {v0 : Nat} {s0 : Nat} {s1 : Nat} {h : Hp} {o : Hp} (hf : f_X8_init_1437 n v0 s0 s1 h = some o) : Run X (d + 1) 125 1437 [some (.ref v0), none] [.ref s1, .ref s0] h (none, o) := by
  unfold f_X8_init_1437 at hf
  obtain ⟨c1, hf⟩ := ite_some hf
  obtain ⟨c2, hf⟩ := ite_some hf
  refine rs_putR i_X8_init_1437 (by decide) c2 c1 ?_
  exact r_X8_init_1440 hd hf
def f_X8_init_1432 (n : Nat) (v0 : Nat) (h : Hp) : Option Hp :=
  f_X8_init_1437 n v0 v0 h.1.length (hnew h (9, ix 12))
set_option maxRecDepth 100000 in
set_option maxHeartbeats 4000000 in
theorem r_X8_init_1432 {X : Nat → Int32} {d : Nat} (hd : 5 ≤ (d + 1)) {n : Nat} {v0 : Nat} {h : Hp} {o : Hp} (hf : f_X8_init_1432 n v0 h = some o) : Run X (d + 1) 125 1432 [some (.ref v0), none] [] h (none, o) := by
  unfold f_X8_init_1432 at hf
  refine rs_aload_n i_X8_init_1432 rfl ?_
  refine rs_bipush i_X8_init_1433 (v := 12) (by decide) ?_
  refine rs_newa i_X8_init_1435 (by decide) ?_
  exact r_X8_init_1437 hd hf
def f_X8_init_1429 (n : Nat) (v0 : Nat) (s0 : Nat) (s1 : Nat) (h : Hp) : Option Hp :=
  if okO h s0 8 then
  if 16 ≤ s1 then
  f_X8_init_1432 n v0 (hsr h s0 50 (some s1))
  else none
  else none
set_option maxRecDepth 100000 in
set_option maxHeartbeats 4000000 in
theorem r_X8_init_1429 {X : Nat → Int32} {d : Nat} (hd : 5 ≤ (d + 1)) {n : Nat} {v0 : Nat} {s0 : Nat} {s1 : Nat} {h : Hp} {o : Hp} (hf : f_X8_init_1429 n v0 s0 s1 h = some o) : Run X (d + 1) 125 1429 [some (.ref v0), none] [.ref s1, .ref s0] h (none, o) := by
  unfold f_X8_init_1429 at hf
  obtain ⟨c1, hf⟩ := ite_some hf
  obtain ⟨c2, hf⟩ := ite_some hf
  refine rs_putR i_X8_init_1429 (by decide) c2 c1 ?_
  exact r_X8_init_1432 hd hf
def f_X8_init_1424 (n : Nat) (v0 : Nat) (h : Hp) : Option Hp :=
  f_X8_init_1429 n v0 v0 h.1.length (hnew h (9, ix 12))
set_option maxRecDepth 100000 in
set_option maxHeartbeats 4000000 in
theorem r_X8_init_1424 {X : Nat → Int32} {d : Nat} (hd : 5 ≤ (d + 1)) {n : Nat} {v0 : Nat} {h : Hp} {o : Hp} (hf : f_X8_init_1424 n v0 h = some o) : Run X (d + 1) 125 1424 [some (.ref v0), none] [] h (none, o) := by
  unfold f_X8_init_1424 at hf
  refine rs_aload_n i_X8_init_1424 rfl ?_
  refine rs_bipush i_X8_init_1425 (v := 12) (by decide) ?_
  refine rs_newa i_X8_init_1427 (by decide) ?_
  exact r_X8_init_1429 hd hf
def f_X8_init_1421 (n : Nat) (v0 : Nat) (s0 : Nat) (s1 : Nat) (h : Hp) : Option Hp :=
  if okO h s0 8 then
  if 16 ≤ s1 then
  f_X8_init_1424 n v0 (hsr h s0 49 (some s1))
  else none
  else none
set_option maxRecDepth 100000 in
set_option maxHeartbeats 4000000 in
theorem r_X8_init_1421 {X : Nat → Int32} {d : Nat} (hd : 5 ≤ (d + 1)) {n : Nat} {v0 : Nat} {s0 : Nat} {s1 : Nat} {h : Hp} {o : Hp} (hf : f_X8_init_1421 n v0 s0 s1 h = some o) : Run X (d + 1) 125 1421 [some (.ref v0), none] [.ref s1, .ref s0] h (none, o) := by
  unfold f_X8_init_1421 at hf
  obtain ⟨c1, hf⟩ := ite_some hf
  obtain ⟨c2, hf⟩ := ite_some hf
  refine rs_putR i_X8_init_1421 (by decide) c2 c1 ?_
  exact r_X8_init_1424 hd hf
def f_X8_init_1416 (n : Nat) (v0 : Nat) (h : Hp) : Option Hp :=
  f_X8_init_1421 n v0 v0 h.1.length (hnew h (9, ix 12))
set_option maxRecDepth 100000 in
set_option maxHeartbeats 4000000 in
theorem r_X8_init_1416 {X : Nat → Int32} {d : Nat} (hd : 5 ≤ (d + 1)) {n : Nat} {v0 : Nat} {h : Hp} {o : Hp} (hf : f_X8_init_1416 n v0 h = some o) : Run X (d + 1) 125 1416 [some (.ref v0), none] [] h (none, o) := by
  unfold f_X8_init_1416 at hf
  refine rs_aload_n i_X8_init_1416 rfl ?_
  refine rs_bipush i_X8_init_1417 (v := 12) (by decide) ?_
  refine rs_newa i_X8_init_1419 (by decide) ?_
  exact r_X8_init_1421 hd hf
def f_X8_init_1413 (n : Nat) (v0 : Nat) (s0 : Nat) (s1 : Nat) (h : Hp) : Option Hp :=
  if okO h s0 8 then
  if 16 ≤ s1 then
  f_X8_init_1416 n v0 (hsr h s0 48 (some s1))
  else none
  else none
set_option maxRecDepth 100000 in
set_option maxHeartbeats 4000000 in
theorem r_X8_init_1413 {X : Nat → Int32} {d : Nat} (hd : 5 ≤ (d + 1)) {n : Nat} {v0 : Nat} {s0 : Nat} {s1 : Nat} {h : Hp} {o : Hp} (hf : f_X8_init_1413 n v0 s0 s1 h = some o) : Run X (d + 1) 125 1413 [some (.ref v0), none] [.ref s1, .ref s0] h (none, o) := by
  unfold f_X8_init_1413 at hf
  obtain ⟨c1, hf⟩ := ite_some hf
  obtain ⟨c2, hf⟩ := ite_some hf
  refine rs_putR i_X8_init_1413 (by decide) c2 c1 ?_
  exact r_X8_init_1416 hd hf
def f_X8_init_1408 (n : Nat) (v0 : Nat) (h : Hp) : Option Hp :=
  f_X8_init_1413 n v0 v0 h.1.length (hnew h (9, ix 12))
set_option maxRecDepth 100000 in
set_option maxHeartbeats 4000000 in
theorem r_X8_init_1408 {X : Nat → Int32} {d : Nat} (hd : 5 ≤ (d + 1)) {n : Nat} {v0 : Nat} {h : Hp} {o : Hp} (hf : f_X8_init_1408 n v0 h = some o) : Run X (d + 1) 125 1408 [some (.ref v0), none] [] h (none, o) := by
  unfold f_X8_init_1408 at hf
  refine rs_aload_n i_X8_init_1408 rfl ?_
  refine rs_bipush i_X8_init_1409 (v := 12) (by decide) ?_
  refine rs_newa i_X8_init_1411 (by decide) ?_
  exact r_X8_init_1413 hd hf
def f_X8_init_1405 (n : Nat) (v0 : Nat) (s0 : Nat) (s1 : Nat) (h : Hp) : Option Hp :=
  if okO h s0 8 then
  if 16 ≤ s1 then
  f_X8_init_1408 n v0 (hsr h s0 47 (some s1))
  else none
  else none
set_option maxRecDepth 100000 in
set_option maxHeartbeats 4000000 in
theorem r_X8_init_1405 {X : Nat → Int32} {d : Nat} (hd : 5 ≤ (d + 1)) {n : Nat} {v0 : Nat} {s0 : Nat} {s1 : Nat} {h : Hp} {o : Hp} (hf : f_X8_init_1405 n v0 s0 s1 h = some o) : Run X (d + 1) 125 1405 [some (.ref v0), none] [.ref s1, .ref s0] h (none, o) := by
  unfold f_X8_init_1405 at hf
  obtain ⟨c1, hf⟩ := ite_some hf
  obtain ⟨c2, hf⟩ := ite_some hf
  refine rs_putR i_X8_init_1405 (by decide) c2 c1 ?_
  exact r_X8_init_1408 hd hf
def f_X8_init_1400 (n : Nat) (v0 : Nat) (h : Hp) : Option Hp :=
  f_X8_init_1405 n v0 v0 h.1.length (hnew h (9, ix 12))
set_option maxRecDepth 100000 in
set_option maxHeartbeats 4000000 in
theorem r_X8_init_1400 {X : Nat → Int32} {d : Nat} (hd : 5 ≤ (d + 1)) {n : Nat} {v0 : Nat} {h : Hp} {o : Hp} (hf : f_X8_init_1400 n v0 h = some o) : Run X (d + 1) 125 1400 [some (.ref v0), none] [] h (none, o) := by
  unfold f_X8_init_1400 at hf
  refine rs_aload_n i_X8_init_1400 rfl ?_
  refine rs_bipush i_X8_init_1401 (v := 12) (by decide) ?_
  refine rs_newa i_X8_init_1403 (by decide) ?_
  exact r_X8_init_1405 hd hf
def f_X8_init_1397 (n : Nat) (v0 : Nat) (s0 : Nat) (s1 : Nat) (h : Hp) : Option Hp :=
  if okO h s0 8 then
  if 16 ≤ s1 then
  f_X8_init_1400 n v0 (hsr h s0 39 (some s1))
  else none
  else none
set_option maxRecDepth 100000 in
set_option maxHeartbeats 4000000 in
theorem r_X8_init_1397 {X : Nat → Int32} {d : Nat} (hd : 5 ≤ (d + 1)) {n : Nat} {v0 : Nat} {s0 : Nat} {s1 : Nat} {h : Hp} {o : Hp} (hf : f_X8_init_1397 n v0 s0 s1 h = some o) : Run X (d + 1) 125 1397 [some (.ref v0), none] [.ref s1, .ref s0] h (none, o) := by
  unfold f_X8_init_1397 at hf
  obtain ⟨c1, hf⟩ := ite_some hf
  obtain ⟨c2, hf⟩ := ite_some hf
  refine rs_putR i_X8_init_1397 (by decide) c2 c1 ?_
  exact r_X8_init_1400 hd hf
def f_X8_init_1392 (n : Nat) (v0 : Nat) (h : Hp) : Option Hp :=
  f_X8_init_1397 n v0 v0 h.1.length (hnew h (9, ix 12))
set_option maxRecDepth 100000 in
set_option maxHeartbeats 4000000 in
theorem r_X8_init_1392 {X : Nat → Int32} {d : Nat} (hd : 5 ≤ (d + 1)) {n : Nat} {v0 : Nat} {h : Hp} {o : Hp} (hf : f_X8_init_1392 n v0 h = some o) : Run X (d + 1) 125 1392 [some (.ref v0), none] [] h (none, o) := by
  unfold f_X8_init_1392 at hf
  refine rs_aload_n i_X8_init_1392 rfl ?_
  refine rs_bipush i_X8_init_1393 (v := 12) (by decide) ?_
  refine rs_newa i_X8_init_1395 (by decide) ?_
  exact r_X8_init_1397 hd hf
def f_X8_init_1389 (n : Nat) (v0 : Nat) (s0 : Nat) (s1 : Nat) (h : Hp) : Option Hp :=
  if okO h s0 8 then
  if 16 ≤ s1 then
  f_X8_init_1392 n v0 (hsr h s0 38 (some s1))
  else none
  else none
set_option maxRecDepth 100000 in
set_option maxHeartbeats 4000000 in
theorem r_X8_init_1389 {X : Nat → Int32} {d : Nat} (hd : 5 ≤ (d + 1)) {n : Nat} {v0 : Nat} {s0 : Nat} {s1 : Nat} {h : Hp} {o : Hp} (hf : f_X8_init_1389 n v0 s0 s1 h = some o) : Run X (d + 1) 125 1389 [some (.ref v0), none] [.ref s1, .ref s0] h (none, o) := by
  unfold f_X8_init_1389 at hf
  obtain ⟨c1, hf⟩ := ite_some hf
  obtain ⟨c2, hf⟩ := ite_some hf
  refine rs_putR i_X8_init_1389 (by decide) c2 c1 ?_
  exact r_X8_init_1392 hd hf
def f_X8_init_1384 (n : Nat) (v0 : Nat) (h : Hp) : Option Hp :=
  f_X8_init_1389 n v0 v0 h.1.length (hnew h (9, ix 12))
set_option maxRecDepth 100000 in
set_option maxHeartbeats 4000000 in
theorem r_X8_init_1384 {X : Nat → Int32} {d : Nat} (hd : 5 ≤ (d + 1)) {n : Nat} {v0 : Nat} {h : Hp} {o : Hp} (hf : f_X8_init_1384 n v0 h = some o) : Run X (d + 1) 125 1384 [some (.ref v0), none] [] h (none, o) := by
  unfold f_X8_init_1384 at hf
  refine rs_aload_n i_X8_init_1384 rfl ?_
  refine rs_bipush i_X8_init_1385 (v := 12) (by decide) ?_
  refine rs_newa i_X8_init_1387 (by decide) ?_
  exact r_X8_init_1389 hd hf
def f_X8_init_1381 (n : Nat) (v0 : Nat) (s0 : Nat) (s1 : Nat) (h : Hp) : Option Hp :=
  if okO h s0 8 then
  if 16 ≤ s1 then
  f_X8_init_1384 n v0 (hsr h s0 37 (some s1))
  else none
  else none
set_option maxRecDepth 100000 in
set_option maxHeartbeats 4000000 in
theorem r_X8_init_1381 {X : Nat → Int32} {d : Nat} (hd : 5 ≤ (d + 1)) {n : Nat} {v0 : Nat} {s0 : Nat} {s1 : Nat} {h : Hp} {o : Hp} (hf : f_X8_init_1381 n v0 s0 s1 h = some o) : Run X (d + 1) 125 1381 [some (.ref v0), none] [.ref s1, .ref s0] h (none, o) := by
  unfold f_X8_init_1381 at hf
  obtain ⟨c1, hf⟩ := ite_some hf
  obtain ⟨c2, hf⟩ := ite_some hf
  refine rs_putR i_X8_init_1381 (by decide) c2 c1 ?_
  exact r_X8_init_1384 hd hf
def f_X8_init_1376 (n : Nat) (v0 : Nat) (h : Hp) : Option Hp :=
  f_X8_init_1381 n v0 v0 h.1.length (hnew h (9, ix 12))
set_option maxRecDepth 100000 in
set_option maxHeartbeats 4000000 in
theorem r_X8_init_1376 {X : Nat → Int32} {d : Nat} (hd : 5 ≤ (d + 1)) {n : Nat} {v0 : Nat} {h : Hp} {o : Hp} (hf : f_X8_init_1376 n v0 h = some o) : Run X (d + 1) 125 1376 [some (.ref v0), none] [] h (none, o) := by
  unfold f_X8_init_1376 at hf
  refine rs_aload_n i_X8_init_1376 rfl ?_
  refine rs_bipush i_X8_init_1377 (v := 12) (by decide) ?_
  refine rs_newa i_X8_init_1379 (by decide) ?_
  exact r_X8_init_1381 hd hf
def f_X8_init_1373 (n : Nat) (v0 : Nat) (s0 : Nat) (s1 : Nat) (h : Hp) : Option Hp :=
  if okO h s0 8 then
  if 16 ≤ s1 then
  f_X8_init_1376 n v0 (hsr h s0 36 (some s1))
  else none
  else none
set_option maxRecDepth 100000 in
set_option maxHeartbeats 4000000 in
theorem r_X8_init_1373 {X : Nat → Int32} {d : Nat} (hd : 5 ≤ (d + 1)) {n : Nat} {v0 : Nat} {s0 : Nat} {s1 : Nat} {h : Hp} {o : Hp} (hf : f_X8_init_1373 n v0 s0 s1 h = some o) : Run X (d + 1) 125 1373 [some (.ref v0), none] [.ref s1, .ref s0] h (none, o) := by
  unfold f_X8_init_1373 at hf
  obtain ⟨c1, hf⟩ := ite_some hf
  obtain ⟨c2, hf⟩ := ite_some hf
  refine rs_putR i_X8_init_1373 (by decide) c2 c1 ?_
  exact r_X8_init_1376 hd hf
def f_X8_init_1368 (n : Nat) (v0 : Nat) (h : Hp) : Option Hp :=
  f_X8_init_1373 n v0 v0 h.1.length (hnew h (9, ix 6))
set_option maxRecDepth 100000 in
set_option maxHeartbeats 4000000 in
theorem r_X8_init_1368 {X : Nat → Int32} {d : Nat} (hd : 5 ≤ (d + 1)) {n : Nat} {v0 : Nat} {h : Hp} {o : Hp} (hf : f_X8_init_1368 n v0 h = some o) : Run X (d + 1) 125 1368 [some (.ref v0), none] [] h (none, o) := by
  unfold f_X8_init_1368 at hf
  refine rs_aload_n i_X8_init_1368 rfl ?_
  refine rs_bipush i_X8_init_1369 (v := 6) (by decide) ?_
  refine rs_newa i_X8_init_1371 (by decide) ?_
  exact r_X8_init_1373 hd hf
def f_X8_init_1365 (n : Nat) (v0 : Nat) (s0 : Nat) (s1 : Nat) (h : Hp) : Option Hp :=
  if okO h s0 8 then
  if 16 ≤ s1 then
  f_X8_init_1368 n v0 (hsr h s0 35 (some s1))
  else none
  else none
set_option maxRecDepth 100000 in
set_option maxHeartbeats 4000000 in
theorem r_X8_init_1365 {X : Nat → Int32} {d : Nat} (hd : 5 ≤ (d + 1)) {n : Nat} {v0 : Nat} {s0 : Nat} {s1 : Nat} {h : Hp} {o : Hp} (hf : f_X8_init_1365 n v0 s0 s1 h = some o) : Run X (d + 1) 125 1365 [some (.ref v0), none] [.ref s1, .ref s0] h (none, o) := by
  unfold f_X8_init_1365 at hf
  obtain ⟨c1, hf⟩ := ite_some hf
  obtain ⟨c2, hf⟩ := ite_some hf
  refine rs_putR i_X8_init_1365 (by decide) c2 c1 ?_
  exact r_X8_init_1368 hd hf
def f_X8_init_1359 (n : Nat) (v0 : Nat) (h : Hp) : Option Hp :=
  f_X8_init_1365 n v0 v0 h.1.length (hnew h (9, ix 200))
set_option maxRecDepth 100000 in
set_option maxHeartbeats 4000000 in
theorem r_X8_init_1359 {X : Nat → Int32} {d : Nat} (hd : 5 ≤ (d + 1)) {n : Nat} {v0 : Nat} {h : Hp} {o : Hp} (hf : f_X8_init_1359 n v0 h = some o) : Run X (d + 1) 125 1359 [some (.ref v0), none] [] h (none, o) := by
  unfold f_X8_init_1359 at hf
  refine rs_aload_n i_X8_init_1359 rfl ?_
  refine rs_sipush i_X8_init_1360 (v := 200) (by decide) ?_
  refine rs_newa i_X8_init_1363 (by decide) ?_
  exact r_X8_init_1365 hd hf
def f_X8_init_1356 (n : Nat) (v0 : Nat) (s0 : Nat) (s1 : Nat) (h : Hp) : Option Hp :=
  if okO h s0 8 then
  if 16 ≤ s1 then
  f_X8_init_1359 n v0 (hsr h s0 31 (some s1))
  else none
  else none
set_option maxRecDepth 100000 in
set_option maxHeartbeats 4000000 in
theorem r_X8_init_1356 {X : Nat → Int32} {d : Nat} (hd : 5 ≤ (d + 1)) {n : Nat} {v0 : Nat} {s0 : Nat} {s1 : Nat} {h : Hp} {o : Hp} (hf : f_X8_init_1356 n v0 s0 s1 h = some o) : Run X (d + 1) 125 1356 [some (.ref v0), none] [.ref s1, .ref s0] h (none, o) := by
  unfold f_X8_init_1356 at hf
  obtain ⟨c1, hf⟩ := ite_some hf
  obtain ⟨c2, hf⟩ := ite_some hf
  refine rs_putR i_X8_init_1356 (by decide) c2 c1 ?_
  exact r_X8_init_1359 hd hf
def f_X8_init_1350 (n : Nat) (v0 : Nat) (h : Hp) : Option Hp :=
  f_X8_init_1356 n v0 v0 h.1.length (hnew h (9, ix 200))
set_option maxRecDepth 100000 in
set_option maxHeartbeats 4000000 in
theorem r_X8_init_1350 {X : Nat → Int32} {d : Nat} (hd : 5 ≤ (d + 1)) {n : Nat} {v0 : Nat} {h : Hp} {o : Hp} (hf : f_X8_init_1350 n v0 h = some o) : Run X (d + 1) 125 1350 [some (.ref v0), none] [] h (none, o) := by
  unfold f_X8_init_1350 at hf
  refine rs_aload_n i_X8_init_1350 rfl ?_
  refine rs_sipush i_X8_init_1351 (v := 200) (by decide) ?_
  refine rs_newa i_X8_init_1354 (by decide) ?_
  exact r_X8_init_1356 hd hf
def f_X8_init_1347 (n : Nat) (v0 : Nat) (s0 : Nat) (s1 : Nat) (h : Hp) : Option Hp :=
  if okO h s0 8 then
  if 16 ≤ s1 then
  f_X8_init_1350 n v0 (hsr h s0 30 (some s1))
  else none
  else none
set_option maxRecDepth 100000 in
set_option maxHeartbeats 4000000 in
theorem r_X8_init_1347 {X : Nat → Int32} {d : Nat} (hd : 5 ≤ (d + 1)) {n : Nat} {v0 : Nat} {s0 : Nat} {s1 : Nat} {h : Hp} {o : Hp} (hf : f_X8_init_1347 n v0 s0 s1 h = some o) : Run X (d + 1) 125 1347 [some (.ref v0), none] [.ref s1, .ref s0] h (none, o) := by
  unfold f_X8_init_1347 at hf
  obtain ⟨c1, hf⟩ := ite_some hf
  obtain ⟨c2, hf⟩ := ite_some hf
  refine rs_putR i_X8_init_1347 (by decide) c2 c1 ?_
  exact r_X8_init_1350 hd hf
def f_X8_init_1341 (n : Nat) (v0 : Nat) (s0 : Nat) (s1 : Nat) (h : Hp) : Option Hp :=
  if okI h s1 95 then
  f_X8_init_1347 n v0 s0 s1 (hsi h s1 (ix 95) 32)
  else none
set_option maxRecDepth 100000 in
set_option maxHeartbeats 4000000 in
theorem r_X8_init_1341 {X : Nat → Int32} {d : Nat} (hd : 5 ≤ (d + 1)) {n : Nat} {v0 : Nat} {s0 : Nat} {s1 : Nat} {h : Hp} {o : Hp} (hf : f_X8_init_1341 n v0 s0 s1 h = some o) : Run X (d + 1) 125 1341 [some (.ref v0), none] [.ref s1, .ref s0] h (none, o) := by
  unfold f_X8_init_1341 at hf
  refine rs_dup i_X8_init_1341 rfl ?_
  refine rs_bipush i_X8_init_1342 (v := 95) (by decide) ?_
  refine rs_bipush i_X8_init_1344 (v := 32) (by decide) ?_
  obtain ⟨c1, hf⟩ := ite_some hf
  refine rs_iast i_X8_init_1346 c1 ?_
  exact r_X8_init_1347 hd hf
def f_X8_init_1335 (n : Nat) (v0 : Nat) (s0 : Nat) (s1 : Nat) (h : Hp) : Option Hp :=
  if okI h s1 94 then
  f_X8_init_1341 n v0 s0 s1 (hsi h s1 (ix 94) 32)
  else none
set_option maxRecDepth 100000 in
set_option maxHeartbeats 4000000 in
theorem r_X8_init_1335 {X : Nat → Int32} {d : Nat} (hd : 5 ≤ (d + 1)) {n : Nat} {v0 : Nat} {s0 : Nat} {s1 : Nat} {h : Hp} {o : Hp} (hf : f_X8_init_1335 n v0 s0 s1 h = some o) : Run X (d + 1) 125 1335 [some (.ref v0), none] [.ref s1, .ref s0] h (none, o) := by
  unfold f_X8_init_1335 at hf
  refine rs_dup i_X8_init_1335 rfl ?_
  refine rs_bipush i_X8_init_1336 (v := 94) (by decide) ?_
  refine rs_bipush i_X8_init_1338 (v := 32) (by decide) ?_
  obtain ⟨c1, hf⟩ := ite_some hf
  refine rs_iast i_X8_init_1340 c1 ?_
  exact r_X8_init_1341 hd hf
def f_X8_init_1329 (n : Nat) (v0 : Nat) (s0 : Nat) (s1 : Nat) (h : Hp) : Option Hp :=
  if okI h s1 93 then
  f_X8_init_1335 n v0 s0 s1 (hsi h s1 (ix 93) 32)
  else none
set_option maxRecDepth 100000 in
set_option maxHeartbeats 4000000 in
theorem r_X8_init_1329 {X : Nat → Int32} {d : Nat} (hd : 5 ≤ (d + 1)) {n : Nat} {v0 : Nat} {s0 : Nat} {s1 : Nat} {h : Hp} {o : Hp} (hf : f_X8_init_1329 n v0 s0 s1 h = some o) : Run X (d + 1) 125 1329 [some (.ref v0), none] [.ref s1, .ref s0] h (none, o) := by
  unfold f_X8_init_1329 at hf
  refine rs_dup i_X8_init_1329 rfl ?_
  refine rs_bipush i_X8_init_1330 (v := 93) (by decide) ?_
  refine rs_bipush i_X8_init_1332 (v := 32) (by decide) ?_
  obtain ⟨c1, hf⟩ := ite_some hf
  refine rs_iast i_X8_init_1334 c1 ?_
  exact r_X8_init_1335 hd hf
def f_X8_init_1323 (n : Nat) (v0 : Nat) (s0 : Nat) (s1 : Nat) (h : Hp) : Option Hp :=
  if okI h s1 92 then
  f_X8_init_1329 n v0 s0 s1 (hsi h s1 (ix 92) 32)
  else none
set_option maxRecDepth 100000 in
set_option maxHeartbeats 4000000 in
theorem r_X8_init_1323 {X : Nat → Int32} {d : Nat} (hd : 5 ≤ (d + 1)) {n : Nat} {v0 : Nat} {s0 : Nat} {s1 : Nat} {h : Hp} {o : Hp} (hf : f_X8_init_1323 n v0 s0 s1 h = some o) : Run X (d + 1) 125 1323 [some (.ref v0), none] [.ref s1, .ref s0] h (none, o) := by
  unfold f_X8_init_1323 at hf
  refine rs_dup i_X8_init_1323 rfl ?_
  refine rs_bipush i_X8_init_1324 (v := 92) (by decide) ?_
  refine rs_bipush i_X8_init_1326 (v := 32) (by decide) ?_
  obtain ⟨c1, hf⟩ := ite_some hf
  refine rs_iast i_X8_init_1328 c1 ?_
  exact r_X8_init_1329 hd hf
def f_X8_init_1317 (n : Nat) (v0 : Nat) (s0 : Nat) (s1 : Nat) (h : Hp) : Option Hp :=
  if okI h s1 91 then
  f_X8_init_1323 n v0 s0 s1 (hsi h s1 (ix 91) 32)
  else none
set_option maxRecDepth 100000 in
set_option maxHeartbeats 4000000 in
theorem r_X8_init_1317 {X : Nat → Int32} {d : Nat} (hd : 5 ≤ (d + 1)) {n : Nat} {v0 : Nat} {s0 : Nat} {s1 : Nat} {h : Hp} {o : Hp} (hf : f_X8_init_1317 n v0 s0 s1 h = some o) : Run X (d + 1) 125 1317 [some (.ref v0), none] [.ref s1, .ref s0] h (none, o) := by
  unfold f_X8_init_1317 at hf
  refine rs_dup i_X8_init_1317 rfl ?_
  refine rs_bipush i_X8_init_1318 (v := 91) (by decide) ?_
  refine rs_bipush i_X8_init_1320 (v := 32) (by decide) ?_
  obtain ⟨c1, hf⟩ := ite_some hf
  refine rs_iast i_X8_init_1322 c1 ?_
  exact r_X8_init_1323 hd hf
def f_X8_init_1311 (n : Nat) (v0 : Nat) (s0 : Nat) (s1 : Nat) (h : Hp) : Option Hp :=
  if okI h s1 90 then
  f_X8_init_1317 n v0 s0 s1 (hsi h s1 (ix 90) 116)
  else none
set_option maxRecDepth 100000 in
set_option maxHeartbeats 4000000 in
theorem r_X8_init_1311 {X : Nat → Int32} {d : Nat} (hd : 5 ≤ (d + 1)) {n : Nat} {v0 : Nat} {s0 : Nat} {s1 : Nat} {h : Hp} {o : Hp} (hf : f_X8_init_1311 n v0 s0 s1 h = some o) : Run X (d + 1) 125 1311 [some (.ref v0), none] [.ref s1, .ref s0] h (none, o) := by
  unfold f_X8_init_1311 at hf
  refine rs_dup i_X8_init_1311 rfl ?_
  refine rs_bipush i_X8_init_1312 (v := 90) (by decide) ?_
  refine rs_bipush i_X8_init_1314 (v := 116) (by decide) ?_
  obtain ⟨c1, hf⟩ := ite_some hf
  refine rs_iast i_X8_init_1316 c1 ?_
  exact r_X8_init_1317 hd hf
def f_X8_init_1305 (n : Nat) (v0 : Nat) (s0 : Nat) (s1 : Nat) (h : Hp) : Option Hp :=
  if okI h s1 89 then
  f_X8_init_1311 n v0 s0 s1 (hsi h s1 (ix 89) 111)
  else none
set_option maxRecDepth 100000 in
set_option maxHeartbeats 4000000 in
theorem r_X8_init_1305 {X : Nat → Int32} {d : Nat} (hd : 5 ≤ (d + 1)) {n : Nat} {v0 : Nat} {s0 : Nat} {s1 : Nat} {h : Hp} {o : Hp} (hf : f_X8_init_1305 n v0 s0 s1 h = some o) : Run X (d + 1) 125 1305 [some (.ref v0), none] [.ref s1, .ref s0] h (none, o) := by
  unfold f_X8_init_1305 at hf
  refine rs_dup i_X8_init_1305 rfl ?_
  refine rs_bipush i_X8_init_1306 (v := 89) (by decide) ?_
  refine rs_bipush i_X8_init_1308 (v := 111) (by decide) ?_
  obtain ⟨c1, hf⟩ := ite_some hf
  refine rs_iast i_X8_init_1310 c1 ?_
  exact r_X8_init_1311 hd hf
def f_X8_init_1299 (n : Nat) (v0 : Nat) (s0 : Nat) (s1 : Nat) (h : Hp) : Option Hp :=
  if okI h s1 88 then
  f_X8_init_1305 n v0 s0 s1 (hsi h s1 (ix 88) 110)
  else none
set_option maxRecDepth 100000 in
set_option maxHeartbeats 4000000 in
theorem r_X8_init_1299 {X : Nat → Int32} {d : Nat} (hd : 5 ≤ (d + 1)) {n : Nat} {v0 : Nat} {s0 : Nat} {s1 : Nat} {h : Hp} {o : Hp} (hf : f_X8_init_1299 n v0 s0 s1 h = some o) : Run X (d + 1) 125 1299 [some (.ref v0), none] [.ref s1, .ref s0] h (none, o) := by
  unfold f_X8_init_1299 at hf
  refine rs_dup i_X8_init_1299 rfl ?_
  refine rs_bipush i_X8_init_1300 (v := 88) (by decide) ?_
  refine rs_bipush i_X8_init_1302 (v := 110) (by decide) ?_
  obtain ⟨c1, hf⟩ := ite_some hf
  refine rs_iast i_X8_init_1304 c1 ?_
  exact r_X8_init_1305 hd hf
def f_X8_init_1293 (n : Nat) (v0 : Nat) (s0 : Nat) (s1 : Nat) (h : Hp) : Option Hp :=
  if okI h s1 87 then
  f_X8_init_1299 n v0 s0 s1 (hsi h s1 (ix 87) 32)
  else none
set_option maxRecDepth 100000 in
set_option maxHeartbeats 4000000 in
theorem r_X8_init_1293 {X : Nat → Int32} {d : Nat} (hd : 5 ≤ (d + 1)) {n : Nat} {v0 : Nat} {s0 : Nat} {s1 : Nat} {h : Hp} {o : Hp} (hf : f_X8_init_1293 n v0 s0 s1 h = some o) : Run X (d + 1) 125 1293 [some (.ref v0), none] [.ref s1, .ref s0] h (none, o) := by
  unfold f_X8_init_1293 at hf
  refine rs_dup i_X8_init_1293 rfl ?_
  refine rs_bipush i_X8_init_1294 (v := 87) (by decide) ?_
  refine rs_bipush i_X8_init_1296 (v := 32) (by decide) ?_
  obtain ⟨c1, hf⟩ := ite_some hf
  refine rs_iast i_X8_init_1298 c1 ?_
  exact r_X8_init_1299 hd hf
def f_X8_init_1287 (n : Nat) (v0 : Nat) (s0 : Nat) (s1 : Nat) (h : Hp) : Option Hp :=
  if okI h s1 86 then
  f_X8_init_1293 n v0 s0 s1 (hsi h s1 (ix 86) 32)
  else none
set_option maxRecDepth 100000 in
set_option maxHeartbeats 4000000 in
theorem r_X8_init_1287 {X : Nat → Int32} {d : Nat} (hd : 5 ≤ (d + 1)) {n : Nat} {v0 : Nat} {s0 : Nat} {s1 : Nat} {h : Hp} {o : Hp} (hf : f_X8_init_1287 n v0 s0 s1 h = some o) : Run X (d + 1) 125 1287 [some (.ref v0), none] [.ref s1, .ref s0] h (none, o) := by
  unfold f_X8_init_1287 at hf
  refine rs_dup i_X8_init_1287 rfl ?_
  refine rs_bipush i_X8_init_1288 (v := 86) (by decide) ?_
  refine rs_bipush i_X8_init_1290 (v := 32) (by decide) ?_
  obtain ⟨c1, hf⟩ := ite_some hf
  refine rs_iast i_X8_init_1292 c1 ?_
  exact r_X8_init_1293 hd hf
def f_X8_init_1281 (n : Nat) (v0 : Nat) (s0 : Nat) (s1 : Nat) (h : Hp) : Option Hp :=
  if okI h s1 85 then
  f_X8_init_1287 n v0 s0 s1 (hsi h s1 (ix 85) 32)
  else none
set_option maxRecDepth 100000 in
set_option maxHeartbeats 4000000 in
theorem r_X8_init_1281 {X : Nat → Int32} {d : Nat} (hd : 5 ≤ (d + 1)) {n : Nat} {v0 : Nat} {s0 : Nat} {s1 : Nat} {h : Hp} {o : Hp} (hf : f_X8_init_1281 n v0 s0 s1 h = some o) : Run X (d + 1) 125 1281 [some (.ref v0), none] [.ref s1, .ref s0] h (none, o) := by
  unfold f_X8_init_1281 at hf
  refine rs_dup i_X8_init_1281 rfl ?_
  refine rs_bipush i_X8_init_1282 (v := 85) (by decide) ?_
  refine rs_bipush i_X8_init_1284 (v := 32) (by decide) ?_
  obtain ⟨c1, hf⟩ := ite_some hf
  refine rs_iast i_X8_init_1286 c1 ?_
  exact r_X8_init_1287 hd hf
def f_X8_init_1275 (n : Nat) (v0 : Nat) (s0 : Nat) (s1 : Nat) (h : Hp) : Option Hp :=
  if okI h s1 84 then
  f_X8_init_1281 n v0 s0 s1 (hsi h s1 (ix 84) 32)
  else none
set_option maxRecDepth 100000 in
set_option maxHeartbeats 4000000 in
theorem r_X8_init_1275 {X : Nat → Int32} {d : Nat} (hd : 5 ≤ (d + 1)) {n : Nat} {v0 : Nat} {s0 : Nat} {s1 : Nat} {h : Hp} {o : Hp} (hf : f_X8_init_1275 n v0 s0 s1 h = some o) : Run X (d + 1) 125 1275 [some (.ref v0), none] [.ref s1, .ref s0] h (none, o) := by
  unfold f_X8_init_1275 at hf
  refine rs_dup i_X8_init_1275 rfl ?_
  refine rs_bipush i_X8_init_1276 (v := 84) (by decide) ?_
  refine rs_bipush i_X8_init_1278 (v := 32) (by decide) ?_
  obtain ⟨c1, hf⟩ := ite_some hf
  refine rs_iast i_X8_init_1280 c1 ?_
  exact r_X8_init_1281 hd hf
def f_X8_init_1269 (n : Nat) (v0 : Nat) (s0 : Nat) (s1 : Nat) (h : Hp) : Option Hp :=
  if okI h s1 83 then
  f_X8_init_1275 n v0 s0 s1 (hsi h s1 (ix 83) 32)
  else none
set_option maxRecDepth 100000 in
set_option maxHeartbeats 4000000 in
theorem r_X8_init_1269 {X : Nat → Int32} {d : Nat} (hd : 5 ≤ (d + 1)) {n : Nat} {v0 : Nat} {s0 : Nat} {s1 : Nat} {h : Hp} {o : Hp} (hf : f_X8_init_1269 n v0 s0 s1 h = some o) : Run X (d + 1) 125 1269 [some (.ref v0), none] [.ref s1, .ref s0] h (none, o) := by
  unfold f_X8_init_1269 at hf
  refine rs_dup i_X8_init_1269 rfl ?_
  refine rs_bipush i_X8_init_1270 (v := 83) (by decide) ?_
  refine rs_bipush i_X8_init_1272 (v := 32) (by decide) ?_
  obtain ⟨c1, hf⟩ := ite_some hf
  refine rs_iast i_X8_init_1274 c1 ?_
  exact r_X8_init_1275 hd hf
def f_X8_init_1263 (n : Nat) (v0 : Nat) (s0 : Nat) (s1 : Nat) (h : Hp) : Option Hp :=
  if okI h s1 82 then
  f_X8_init_1269 n v0 s0 s1 (hsi h s1 (ix 82) 100)
  else none
set_option maxRecDepth 100000 in
set_option maxHeartbeats 4000000 in
theorem r_X8_init_1263 {X : Nat → Int32} {d : Nat} (hd : 5 ≤ (d + 1)) {n : Nat} {v0 : Nat} {s0 : Nat} {s1 : Nat} {h : Hp} {o : Hp} (hf : f_X8_init_1263 n v0 s0 s1 h = some o) : Run X (d + 1) 125 1263 [some (.ref v0), none] [.ref s1, .ref s0] h (none, o) := by
  unfold f_X8_init_1263 at hf
  refine rs_dup i_X8_init_1263 rfl ?_
  refine rs_bipush i_X8_init_1264 (v := 82) (by decide) ?_
  refine rs_bipush i_X8_init_1266 (v := 100) (by decide) ?_
  obtain ⟨c1, hf⟩ := ite_some hf
  refine rs_iast i_X8_init_1268 c1 ?_
  exact r_X8_init_1269 hd hf
def f_X8_init_1257 (n : Nat) (v0 : Nat) (s0 : Nat) (s1 : Nat) (h : Hp) : Option Hp :=
  if okI h s1 81 then
  f_X8_init_1263 n v0 s0 s1 (hsi h s1 (ix 81) 110)
  else none
set_option maxRecDepth 100000 in
set_option maxHeartbeats 4000000 in
theorem r_X8_init_1257 {X : Nat → Int32} {d : Nat} (hd : 5 ≤ (d + 1)) {n : Nat} {v0 : Nat} {s0 : Nat} {s1 : Nat} {h : Hp} {o : Hp} (hf : f_X8_init_1257 n v0 s0 s1 h = some o) : Run X (d + 1) 125 1257 [some (.ref v0), none] [.ref s1, .ref s0] h (none, o) := by
  unfold f_X8_init_1257 at hf
  refine rs_dup i_X8_init_1257 rfl ?_
  refine rs_bipush i_X8_init_1258 (v := 81) (by decide) ?_
  refine rs_bipush i_X8_init_1260 (v := 110) (by decide) ?_
  obtain ⟨c1, hf⟩ := ite_some hf
  refine rs_iast i_X8_init_1262 c1 ?_
  exact r_X8_init_1263 hd hf
def f_X8_init_1251 (n : Nat) (v0 : Nat) (s0 : Nat) (s1 : Nat) (h : Hp) : Option Hp :=
  if okI h s1 80 then
  f_X8_init_1257 n v0 s0 s1 (hsi h s1 (ix 80) 97)
  else none
set_option maxRecDepth 100000 in
set_option maxHeartbeats 4000000 in
theorem r_X8_init_1251 {X : Nat → Int32} {d : Nat} (hd : 5 ≤ (d + 1)) {n : Nat} {v0 : Nat} {s0 : Nat} {s1 : Nat} {h : Hp} {o : Hp} (hf : f_X8_init_1251 n v0 s0 s1 h = some o) : Run X (d + 1) 125 1251 [some (.ref v0), none] [.ref s1, .ref s0] h (none, o) := by
  unfold f_X8_init_1251 at hf
  refine rs_dup i_X8_init_1251 rfl ?_
  refine rs_bipush i_X8_init_1252 (v := 80) (by decide) ?_
  refine rs_bipush i_X8_init_1254 (v := 97) (by decide) ?_
  obtain ⟨c1, hf⟩ := ite_some hf
  refine rs_iast i_X8_init_1256 c1 ?_
  exact r_X8_init_1257 hd hf
def f_X8_init_1245 (n : Nat) (v0 : Nat) (s0 : Nat) (s1 : Nat) (h : Hp) : Option Hp :=
  if okI h s1 79 then
  f_X8_init_1251 n v0 s0 s1 (hsi h s1 (ix 79) 32)
  else none
set_option maxRecDepth 100000 in
set_option maxHeartbeats 4000000 in
theorem r_X8_init_1245 {X : Nat → Int32} {d : Nat} (hd : 5 ≤ (d + 1)) {n : Nat} {v0 : Nat} {s0 : Nat} {s1 : Nat} {h : Hp} {o : Hp} (hf : f_X8_init_1245 n v0 s0 s1 h = some o) : Run X (d + 1) 125 1245 [some (.ref v0), none] [.ref s1, .ref s0] h (none, o) := by
  unfold f_X8_init_1245 at hf
  refine rs_dup i_X8_init_1245 rfl ?_
  refine rs_bipush i_X8_init_1246 (v := 79) (by decide) ?_
  refine rs_bipush i_X8_init_1248 (v := 32) (by decide) ?_
  obtain ⟨c1, hf⟩ := ite_some hf
  refine rs_iast i_X8_init_1250 c1 ?_
  exact r_X8_init_1251 hd hf
def f_X8_init_1239 (n : Nat) (v0 : Nat) (s0 : Nat) (s1 : Nat) (h : Hp) : Option Hp :=
  if okI h s1 78 then
  f_X8_init_1245 n v0 s0 s1 (hsi h s1 (ix 78) 32)
  else none
set_option maxRecDepth 100000 in
set_option maxHeartbeats 4000000 in
theorem r_X8_init_1239 {X : Nat → Int32} {d : Nat} (hd : 5 ≤ (d + 1)) {n : Nat} {v0 : Nat} {s0 : Nat} {s1 : Nat} {h : Hp} {o : Hp} (hf : f_X8_init_1239 n v0 s0 s1 h = some o) : Run X (d + 1) 125 1239 [some (.ref v0), none] [.ref s1, .ref s0] h (none, o) := by
  unfold f_X8_init_1239 at hf
  refine rs_dup i_X8_init_1239 rfl ?_
  refine rs_bipush i_X8_init_1240 (v := 78) (by decide) ?_
  refine rs_bipush i_X8_init_1242 (v := 32) (by decide) ?_
  obtain ⟨c1, hf⟩ := ite_some hf
  refine rs_iast i_X8_init_1244 c1 ?_
  exact r_X8_init_1245 hd hf
def f_X8_init_1233 (n : Nat) (v0 : Nat) (s0 : Nat) (s1 : Nat) (h : Hp) : Option Hp :=
  if okI h s1 77 then
  f_X8_init_1239 n v0 s0 s1 (hsi h s1 (ix 77) 32)
  else none
set_option maxRecDepth 100000 in
set_option maxHeartbeats 4000000 in
theorem r_X8_init_1233 {X : Nat → Int32} {d : Nat} (hd : 5 ≤ (d + 1)) {n : Nat} {v0 : Nat} {s0 : Nat} {s1 : Nat} {h : Hp} {o : Hp} (hf : f_X8_init_1233 n v0 s0 s1 h = some o) : Run X (d + 1) 125 1233 [some (.ref v0), none] [.ref s1, .ref s0] h (none, o) := by
  unfold f_X8_init_1233 at hf
  refine rs_dup i_X8_init_1233 rfl ?_
  refine rs_bipush i_X8_init_1234 (v := 77) (by decide) ?_
  refine rs_bipush i_X8_init_1236 (v := 32) (by decide) ?_
  obtain ⟨c1, hf⟩ := ite_some hf
  refine rs_iast i_X8_init_1238 c1 ?_
  exact r_X8_init_1239 hd hf
def f_X8_init_1227 (n : Nat) (v0 : Nat) (s0 : Nat) (s1 : Nat) (h : Hp) : Option Hp :=
  if okI h s1 76 then
  f_X8_init_1233 n v0 s0 s1 (hsi h s1 (ix 76) 32)
  else none
set_option maxRecDepth 100000 in
set_option maxHeartbeats 4000000 in
theorem r_X8_init_1227 {X : Nat → Int32} {d : Nat} (hd : 5 ≤ (d + 1)) {n : Nat} {v0 : Nat} {s0 : Nat} {s1 : Nat} {h : Hp} {o : Hp} (hf : f_X8_init_1227 n v0 s0 s1 h = some o) : Run X (d + 1) 125 1227 [some (.ref v0), none] [.ref s1, .ref s0] h (none, o) := by
  unfold f_X8_init_1227 at hf
  refine rs_dup i_X8_init_1227 rfl ?_
  refine rs_bipush i_X8_init_1228 (v := 76) (by decide) ?_
  refine rs_bipush i_X8_init_1230 (v := 32) (by decide) ?_
  obtain ⟨c1, hf⟩ := ite_some hf
  refine rs_iast i_X8_init_1232 c1 ?_
  exact r_X8_init_1233 hd hf
def f_X8_init_1221 (n : Nat) (v0 : Nat) (s0 : Nat) (s1 : Nat) (h : Hp) : Option Hp :=
  if okI h s1 75 then
  f_X8_init_1227 n v0 s0 s1 (hsi h s1 (ix 75) 32)
  else none
set_option maxRecDepth 100000 in
set_option maxHeartbeats 4000000 in
theorem r_X8_init_1221 {X : Nat → Int32} {d : Nat} (hd : 5 ≤ (d + 1)) {n : Nat} {v0 : Nat} {s0 : Nat} {s1 : Nat} {h : Hp} {o : Hp} (hf : f_X8_init_1221 n v0 s0 s1 h = some o) : Run X (d + 1) 125 1221 [some (.ref v0), none] [.ref s1, .ref s0] h (none, o) := by
  unfold f_X8_init_1221 at hf
  refine rs_dup i_X8_init_1221 rfl ?_
  refine rs_bipush i_X8_init_1222 (v := 75) (by decide) ?_
  refine rs_bipush i_X8_init_1224 (v := 32) (by decide) ?_
  obtain ⟨c1, hf⟩ := ite_some hf
  refine rs_iast i_X8_init_1226 c1 ?_
  exact r_X8_init_1227 hd hf
def f_X8_init_1215 (n : Nat) (v0 : Nat) (s0 : Nat) (s1 : Nat) (h : Hp) : Option Hp :=
  if okI h s1 74 then
  f_X8_init_1221 n v0 s0 s1 (hsi h s1 (ix 74) 32)
  else none
set_option maxRecDepth 100000 in
set_option maxHeartbeats 4000000 in
theorem r_X8_init_1215 {X : Nat → Int32} {d : Nat} (hd : 5 ≤ (d + 1)) {n : Nat} {v0 : Nat} {s0 : Nat} {s1 : Nat} {h : Hp} {o : Hp} (hf : f_X8_init_1215 n v0 s0 s1 h = some o) : Run X (d + 1) 125 1215 [some (.ref v0), none] [.ref s1, .ref s0] h (none, o) := by
  unfold f_X8_init_1215 at hf
  refine rs_dup i_X8_init_1215 rfl ?_
  refine rs_bipush i_X8_init_1216 (v := 74) (by decide) ?_
  refine rs_bipush i_X8_init_1218 (v := 32) (by decide) ?_
  obtain ⟨c1, hf⟩ := ite_some hf
  refine rs_iast i_X8_init_1220 c1 ?_
  exact r_X8_init_1221 hd hf
def f_X8_init_1209 (n : Nat) (v0 : Nat) (s0 : Nat) (s1 : Nat) (h : Hp) : Option Hp :=
  if okI h s1 73 then
  f_X8_init_1215 n v0 s0 s1 (hsi h s1 (ix 73) 114)
  else none
set_option maxRecDepth 100000 in
set_option maxHeartbeats 4000000 in
theorem r_X8_init_1209 {X : Nat → Int32} {d : Nat} (hd : 5 ≤ (d + 1)) {n : Nat} {v0 : Nat} {s0 : Nat} {s1 : Nat} {h : Hp} {o : Hp} (hf : f_X8_init_1209 n v0 s0 s1 h = some o) : Run X (d + 1) 125 1209 [some (.ref v0), none] [.ref s1, .ref s0] h (none, o) := by
  unfold f_X8_init_1209 at hf
  refine rs_dup i_X8_init_1209 rfl ?_
  refine rs_bipush i_X8_init_1210 (v := 73) (by decide) ?_
  refine rs_bipush i_X8_init_1212 (v := 114) (by decide) ?_
  obtain ⟨c1, hf⟩ := ite_some hf
  refine rs_iast i_X8_init_1214 c1 ?_
  exact r_X8_init_1215 hd hf
def f_X8_init_1203 (n : Nat) (v0 : Nat) (s0 : Nat) (s1 : Nat) (h : Hp) : Option Hp :=
  if okI h s1 72 then
  f_X8_init_1209 n v0 s0 s1 (hsi h s1 (ix 72) 111)
  else none
set_option maxRecDepth 100000 in
set_option maxHeartbeats 4000000 in
theorem r_X8_init_1203 {X : Nat → Int32} {d : Nat} (hd : 5 ≤ (d + 1)) {n : Nat} {v0 : Nat} {s0 : Nat} {s1 : Nat} {h : Hp} {o : Hp} (hf : f_X8_init_1203 n v0 s0 s1 h = some o) : Run X (d + 1) 125 1203 [some (.ref v0), none] [.ref s1, .ref s0] h (none, o) := by
  unfold f_X8_init_1203 at hf
  refine rs_dup i_X8_init_1203 rfl ?_
  refine rs_bipush i_X8_init_1204 (v := 72) (by decide) ?_
  refine rs_bipush i_X8_init_1206 (v := 111) (by decide) ?_
  obtain ⟨c1, hf⟩ := ite_some hf
  refine rs_iast i_X8_init_1208 c1 ?_
  exact r_X8_init_1209 hd hf
def f_X8_init_1197 (n : Nat) (v0 : Nat) (s0 : Nat) (s1 : Nat) (h : Hp) : Option Hp :=
  if okI h s1 71 then
  f_X8_init_1203 n v0 s0 s1 (hsi h s1 (ix 71) 32)
  else none
set_option maxRecDepth 100000 in
set_option maxHeartbeats 4000000 in
theorem r_X8_init_1197 {X : Nat → Int32} {d : Nat} (hd : 5 ≤ (d + 1)) {n : Nat} {v0 : Nat} {s0 : Nat} {s1 : Nat} {h : Hp} {o : Hp} (hf : f_X8_init_1197 n v0 s0 s1 h = some o) : Run X (d + 1) 125 1197 [some (.ref v0), none] [.ref s1, .ref s0] h (none, o) := by
  unfold f_X8_init_1197 at hf
  refine rs_dup i_X8_init_1197 rfl ?_
  refine rs_bipush i_X8_init_1198 (v := 71) (by decide) ?_
  refine rs_bipush i_X8_init_1200 (v := 32) (by decide) ?_
  obtain ⟨c1, hf⟩ := ite_some hf
  refine rs_iast i_X8_init_1202 c1 ?_
  exact r_X8_init_1203 hd hf
def f_X8_init_1191 (n : Nat) (v0 : Nat) (s0 : Nat) (s1 : Nat) (h : Hp) : Option Hp :=
  if okI h s1 70 then
  f_X8_init_1197 n v0 s0 s1 (hsi h s1 (ix 70) 32)
  else none
set_option maxRecDepth 100000 in
set_option maxHeartbeats 4000000 in
theorem r_X8_init_1191 {X : Nat → Int32} {d : Nat} (hd : 5 ≤ (d + 1)) {n : Nat} {v0 : Nat} {s0 : Nat} {s1 : Nat} {h : Hp} {o : Hp} (hf : f_X8_init_1191 n v0 s0 s1 h = some o) : Run X (d + 1) 125 1191 [some (.ref v0), none] [.ref s1, .ref s0] h (none, o) := by
  unfold f_X8_init_1191 at hf
  refine rs_dup i_X8_init_1191 rfl ?_
  refine rs_bipush i_X8_init_1192 (v := 70) (by decide) ?_
  refine rs_bipush i_X8_init_1194 (v := 32) (by decide) ?_
  obtain ⟨c1, hf⟩ := ite_some hf
  refine rs_iast i_X8_init_1196 c1 ?_
  exact r_X8_init_1197 hd hf
def f_X8_init_1185 (n : Nat) (v0 : Nat) (s0 : Nat) (s1 : Nat) (h : Hp) : Option Hp :=
  if okI h s1 69 then
  f_X8_init_1191 n v0 s0 s1 (hsi h s1 (ix 69) 32)
  else none
set_option maxRecDepth 100000 in
set_option maxHeartbeats 4000000 in
theorem r_X8_init_1185 {X : Nat → Int32} {d : Nat} (hd : 5 ≤ (d + 1)) {n : Nat} {v0 : Nat} {s0 : Nat} {s1 : Nat} {h : Hp} {o : Hp} (hf : f_X8_init_1185 n v0 s0 s1 h = some o) : Run X (d + 1) 125 1185 [some (.ref v0), none] [.ref s1, .ref s0] h (none, o) := by
  unfold f_X8_init_1185 at hf
  refine rs_dup i_X8_init_1185 rfl ?_
  refine rs_bipush i_X8_init_1186 (v := 69) (by decide) ?_
  refine rs_bipush i_X8_init_1188 (v := 32) (by decide) ?_
  obtain ⟨c1, hf⟩ := ite_some hf
  refine rs_iast i_X8_init_1190 c1 ?_
  exact r_X8_init_1191 hd hf
def f_X8_init_1179 (n : Nat) (v0 : Nat) (s0 : Nat) (s1 : Nat) (h : Hp) : Option Hp :=
  if okI h s1 68 then
  f_X8_init_1185 n v0 s0 s1 (hsi h s1 (ix 68) 32)
  else none
set_option maxRecDepth 100000 in
set_option maxHeartbeats 4000000 in
theorem r_X8_init_1179 {X : Nat → Int32} {d : Nat} (hd : 5 ≤ (d + 1)) {n : Nat} {v0 : Nat} {s0 : Nat} {s1 : Nat} {h : Hp} {o : Hp} (hf : f_X8_init_1179 n v0 s0 s1 h = some o) : Run X (d + 1) 125 1179 [some (.ref v0), none] [.ref s1, .ref s0] h (none, o) := by
  unfold f_X8_init_1179 at hf
  refine rs_dup i_X8_init_1179 rfl ?_
  refine rs_bipush i_X8_init_1180 (v := 68) (by decide) ?_
  refine rs_bipush i_X8_init_1182 (v := 32) (by decide) ?_
  obtain ⟨c1, hf⟩ := ite_some hf
  refine rs_iast i_X8_init_1184 c1 ?_
  exact r_X8_init_1185 hd hf
def f_X8_init_1173 (n : Nat) (v0 : Nat) (s0 : Nat) (s1 : Nat) (h : Hp) : Option Hp :=
  if okI h s1 67 then
  f_X8_init_1179 n v0 s0 s1 (hsi h s1 (ix 67) 116)
  else none
set_option maxRecDepth 100000 in
set_option maxHeartbeats 4000000 in
theorem r_X8_init_1173 {X : Nat → Int32} {d : Nat} (hd : 5 ≤ (d + 1)) {n : Nat} {v0 : Nat} {s0 : Nat} {s1 : Nat} {h : Hp} {o : Hp} (hf : f_X8_init_1173 n v0 s0 s1 h = some o) : Run X (d + 1) 125 1173 [some (.ref v0), none] [.ref s1, .ref s0] h (none, o) := by
  unfold f_X8_init_1173 at hf
  refine rs_dup i_X8_init_1173 rfl ?_
  refine rs_bipush i_X8_init_1174 (v := 67) (by decide) ?_
  refine rs_bipush i_X8_init_1176 (v := 116) (by decide) ?_
  obtain ⟨c1, hf⟩ := ite_some hf
  refine rs_iast i_X8_init_1178 c1 ?_
  exact r_X8_init_1179 hd hf
def f_X8_init_1167 (n : Nat) (v0 : Nat) (s0 : Nat) (s1 : Nat) (h : Hp) : Option Hp :=
  if okI h s1 66 then
  f_X8_init_1173 n v0 s0 s1 (hsi h s1 (ix 66) 115)
  else none
set_option maxRecDepth 100000 in
set_option maxHeartbeats 4000000 in
theorem r_X8_init_1167 {X : Nat → Int32} {d : Nat} (hd : 5 ≤ (d + 1)) {n : Nat} {v0 : Nat} {s0 : Nat} {s1 : Nat} {h : Hp} {o : Hp} (hf : f_X8_init_1167 n v0 s0 s1 h = some o) : Run X (d + 1) 125 1167 [some (.ref v0), none] [.ref s1, .ref s0] h (none, o) := by
  unfold f_X8_init_1167 at hf
  refine rs_dup i_X8_init_1167 rfl ?_
  refine rs_bipush i_X8_init_1168 (v := 66) (by decide) ?_
  refine rs_bipush i_X8_init_1170 (v := 115) (by decide) ?_
  obtain ⟨c1, hf⟩ := ite_some hf
  refine rs_iast i_X8_init_1172 c1 ?_
  exact r_X8_init_1173 hd hf
def f_X8_init_1161 (n : Nat) (v0 : Nat) (s0 : Nat) (s1 : Nat) (h : Hp) : Option Hp :=
  if okI h s1 65 then
  f_X8_init_1167 n v0 s0 s1 (hsi h s1 (ix 65) 117)
  else none
set_option maxRecDepth 100000 in
set_option maxHeartbeats 4000000 in
theorem r_X8_init_1161 {X : Nat → Int32} {d : Nat} (hd : 5 ≤ (d + 1)) {n : Nat} {v0 : Nat} {s0 : Nat} {s1 : Nat} {h : Hp} {o : Hp} (hf : f_X8_init_1161 n v0 s0 s1 h = some o) : Run X (d + 1) 125 1161 [some (.ref v0), none] [.ref s1, .ref s0] h (none, o) := by
  unfold f_X8_init_1161 at hf
  refine rs_dup i_X8_init_1161 rfl ?_
  refine rs_bipush i_X8_init_1162 (v := 65) (by decide) ?_
  refine rs_bipush i_X8_init_1164 (v := 117) (by decide) ?_
  obtain ⟨c1, hf⟩ := ite_some hf
  refine rs_iast i_X8_init_1166 c1 ?_
  exact r_X8_init_1167 hd hf
def f_X8_init_1155 (n : Nat) (v0 : Nat) (s0 : Nat) (s1 : Nat) (h : Hp) : Option Hp :=
  if okI h s1 64 then
  f_X8_init_1161 n v0 s0 s1 (hsi h s1 (ix 64) 100)
  else none
set_option maxRecDepth 100000 in
set_option maxHeartbeats 4000000 in
theorem r_X8_init_1155 {X : Nat → Int32} {d : Nat} (hd : 5 ≤ (d + 1)) {n : Nat} {v0 : Nat} {s0 : Nat} {s1 : Nat} {h : Hp} {o : Hp} (hf : f_X8_init_1155 n v0 s0 s1 h = some o) : Run X (d + 1) 125 1155 [some (.ref v0), none] [.ref s1, .ref s0] h (none, o) := by
  unfold f_X8_init_1155 at hf
  refine rs_dup i_X8_init_1155 rfl ?_
  refine rs_bipush i_X8_init_1156 (v := 64) (by decide) ?_
  refine rs_bipush i_X8_init_1158 (v := 100) (by decide) ?_
  obtain ⟨c1, hf⟩ := ite_some hf
  refine rs_iast i_X8_init_1160 c1 ?_
  exact r_X8_init_1161 hd hf
def f_X8_init_1149 (n : Nat) (v0 : Nat) (s0 : Nat) (s1 : Nat) (h : Hp) : Option Hp :=
  if okI h s1 63 then
  f_X8_init_1155 n v0 s0 s1 (hsi h s1 (ix 63) 32)
  else none
set_option maxRecDepth 100000 in
set_option maxHeartbeats 4000000 in
theorem r_X8_init_1149 {X : Nat → Int32} {d : Nat} (hd : 5 ≤ (d + 1)) {n : Nat} {v0 : Nat} {s0 : Nat} {s1 : Nat} {h : Hp} {o : Hp} (hf : f_X8_init_1149 n v0 s0 s1 h = some o) : Run X (d + 1) 125 1149 [some (.ref v0), none] [.ref s1, .ref s0] h (none, o) := by
  unfold f_X8_init_1149 at hf
  refine rs_dup i_X8_init_1149 rfl ?_
  refine rs_bipush i_X8_init_1150 (v := 63) (by decide) ?_
  refine rs_bipush i_X8_init_1152 (v := 32) (by decide) ?_
  obtain ⟨c1, hf⟩ := ite_some hf
  refine rs_iast i_X8_init_1154 c1 ?_
  exact r_X8_init_1155 hd hf
def f_X8_init_1143 (n : Nat) (v0 : Nat) (s0 : Nat) (s1 : Nat) (h : Hp) : Option Hp :=
  if okI h s1 62 then
  f_X8_init_1149 n v0 s0 s1 (hsi h s1 (ix 62) 32)
  else none
set_option maxRecDepth 100000 in
set_option maxHeartbeats 4000000 in
theorem r_X8_init_1143 {X : Nat → Int32} {d : Nat} (hd : 5 ≤ (d + 1)) {n : Nat} {v0 : Nat} {s0 : Nat} {s1 : Nat} {h : Hp} {o : Hp} (hf : f_X8_init_1143 n v0 s0 s1 h = some o) : Run X (d + 1) 125 1143 [some (.ref v0), none] [.ref s1, .ref s0] h (none, o) := by
  unfold f_X8_init_1143 at hf
  refine rs_dup i_X8_init_1143 rfl ?_
  refine rs_bipush i_X8_init_1144 (v := 62) (by decide) ?_
  refine rs_bipush i_X8_init_1146 (v := 32) (by decide) ?_
  obtain ⟨c1, hf⟩ := ite_some hf
  refine rs_iast i_X8_init_1148 c1 ?_
  exact r_X8_init_1149 hd hf
def f_X8_init_1137 (n : Nat) (v0 : Nat) (s0 : Nat) (s1 : Nat) (h : Hp) : Option Hp :=
  if okI h s1 61 then
  f_X8_init_1143 n v0 s0 s1 (hsi h s1 (ix 61) 32)
  else none
set_option maxRecDepth 100000 in
set_option maxHeartbeats 4000000 in
theorem r_X8_init_1137 {X : Nat → Int32} {d : Nat} (hd : 5 ≤ (d + 1)) {n : Nat} {v0 : Nat} {s0 : Nat} {s1 : Nat} {h : Hp} {o : Hp} (hf : f_X8_init_1137 n v0 s0 s1 h = some o) : Run X (d + 1) 125 1137 [some (.ref v0), none] [.ref s1, .ref s0] h (none, o) := by
  unfold f_X8_init_1137 at hf
  refine rs_dup i_X8_init_1137 rfl ?_
  refine rs_bipush i_X8_init_1138 (v := 61) (by decide) ?_
  refine rs_bipush i_X8_init_1140 (v := 32) (by decide) ?_
  obtain ⟨c1, hf⟩ := ite_some hf
  refine rs_iast i_X8_init_1142 c1 ?_
  exact r_X8_init_1143 hd hf
def f_X8_init_1131 (n : Nat) (v0 : Nat) (s0 : Nat) (s1 : Nat) (h : Hp) : Option Hp :=
  if okI h s1 60 then
  f_X8_init_1137 n v0 s0 s1 (hsi h s1 (ix 60) 115)
  else none
set_option maxRecDepth 100000 in
set_option maxHeartbeats 4000000 in
theorem r_X8_init_1131 {X : Nat → Int32} {d : Nat} (hd : 5 ≤ (d + 1)) {n : Nat} {v0 : Nat} {s0 : Nat} {s1 : Nat} {h : Hp} {o : Hp} (hf : f_X8_init_1131 n v0 s0 s1 h = some o) : Run X (d + 1) 125 1131 [some (.ref v0), none] [.ref s1, .ref s0] h (none, o) := by
  unfold f_X8_init_1131 at hf
  refine rs_dup i_X8_init_1131 rfl ?_
  refine rs_bipush i_X8_init_1132 (v := 60) (by decide) ?_
  refine rs_bipush i_X8_init_1134 (v := 115) (by decide) ?_
  obtain ⟨c1, hf⟩ := ite_some hf
  refine rs_iast i_X8_init_1136 c1 ?_
  exact r_X8_init_1137 hd hf
def f_X8_init_1125 (n : Nat) (v0 : Nat) (s0 : Nat) (s1 : Nat) (h : Hp) : Option Hp :=
  if okI h s1 59 then
  f_X8_init_1131 n v0 s0 s1 (hsi h s1 (ix 59) 100)
  else none
set_option maxRecDepth 100000 in
set_option maxHeartbeats 4000000 in
theorem r_X8_init_1125 {X : Nat → Int32} {d : Nat} (hd : 5 ≤ (d + 1)) {n : Nat} {v0 : Nat} {s0 : Nat} {s1 : Nat} {h : Hp} {o : Hp} (hf : f_X8_init_1125 n v0 s0 s1 h = some o) : Run X (d + 1) 125 1125 [some (.ref v0), none] [.ref s1, .ref s0] h (none, o) := by
  unfold f_X8_init_1125 at hf
  refine rs_dup i_X8_init_1125 rfl ?_
  refine rs_bipush i_X8_init_1126 (v := 59) (by decide) ?_
  refine rs_bipush i_X8_init_1128 (v := 100) (by decide) ?_
  obtain ⟨c1, hf⟩ := ite_some hf
  refine rs_iast i_X8_init_1130 c1 ?_
  exact r_X8_init_1131 hd hf
def f_X8_init_1119 (n : Nat) (v0 : Nat) (s0 : Nat) (s1 : Nat) (h : Hp) : Option Hp :=
  if okI h s1 58 then
  f_X8_init_1125 n v0 s0 s1 (hsi h s1 (ix 58) 108)
  else none
set_option maxRecDepth 100000 in
set_option maxHeartbeats 4000000 in
theorem r_X8_init_1119 {X : Nat → Int32} {d : Nat} (hd : 5 ≤ (d + 1)) {n : Nat} {v0 : Nat} {s0 : Nat} {s1 : Nat} {h : Hp} {o : Hp} (hf : f_X8_init_1119 n v0 s0 s1 h = some o) : Run X (d + 1) 125 1119 [some (.ref v0), none] [.ref s1, .ref s0] h (none, o) := by
  unfold f_X8_init_1119 at hf
  refine rs_dup i_X8_init_1119 rfl ?_
  refine rs_bipush i_X8_init_1120 (v := 58) (by decide) ?_
  refine rs_bipush i_X8_init_1122 (v := 108) (by decide) ?_
  obtain ⟨c1, hf⟩ := ite_some hf
  refine rs_iast i_X8_init_1124 c1 ?_
  exact r_X8_init_1125 hd hf
def f_X8_init_1113 (n : Nat) (v0 : Nat) (s0 : Nat) (s1 : Nat) (h : Hp) : Option Hp :=
  if okI h s1 57 then
  f_X8_init_1119 n v0 s0 s1 (hsi h s1 (ix 57) 111)
  else none
set_option maxRecDepth 100000 in
set_option maxHeartbeats 4000000 in
theorem r_X8_init_1113 {X : Nat → Int32} {d : Nat} (hd : 5 ≤ (d + 1)) {n : Nat} {v0 : Nat} {s0 : Nat} {s1 : Nat} {h : Hp} {o : Hp} (hf : f_X8_init_1113 n v0 s0 s1 h = some o) : Run X (d + 1) 125 1113 [some (.ref v0), none] [.ref s1, .ref s0] h (none, o) := by
  unfold f_X8_init_1113 at hf
  refine rs_dup i_X8_init_1113 rfl ?_
  refine rs_bipush i_X8_init_1114 (v := 57) (by decide) ?_
  refine rs_bipush i_X8_init_1116 (v := 111) (by decide) ?_
  obtain ⟨c1, hf⟩ := ite_some hf
  refine rs_iast i_X8_init_1118 c1 ?_
  exact r_X8_init_1119 hd hf
def f_X8_init_1107 (n : Nat) (v0 : Nat) (s0 : Nat) (s1 : Nat) (h : Hp) : Option Hp :=
  if okI h s1 56 then
  f_X8_init_1113 n v0 s0 s1 (hsi h s1 (ix 56) 102)
  else none
set_option maxRecDepth 100000 in
set_option maxHeartbeats 4000000 in
theorem r_X8_init_1107 {X : Nat → Int32} {d : Nat} (hd : 5 ≤ (d + 1)) {n : Nat} {v0 : Nat} {s0 : Nat} {s1 : Nat} {h : Hp} {o : Hp} (hf : f_X8_init_1107 n v0 s0 s1 h = some o) : Run X (d + 1) 125 1107 [some (.ref v0), none] [.ref s1, .ref s0] h (none, o) := by
  unfold f_X8_init_1107 at hf
  refine rs_dup i_X8_init_1107 rfl ?_
  refine rs_bipush i_X8_init_1108 (v := 56) (by decide) ?_
  refine rs_bipush i_X8_init_1110 (v := 102) (by decide) ?_
  obtain ⟨c1, hf⟩ := ite_some hf
  refine rs_iast i_X8_init_1112 c1 ?_
  exact r_X8_init_1113 hd hf
def f_X8_init_1101 (n : Nat) (v0 : Nat) (s0 : Nat) (s1 : Nat) (h : Hp) : Option Hp :=
  if okI h s1 55 then
  f_X8_init_1107 n v0 s0 s1 (hsi h s1 (ix 55) 32)
  else none
set_option maxRecDepth 100000 in
set_option maxHeartbeats 4000000 in
theorem r_X8_init_1101 {X : Nat → Int32} {d : Nat} (hd : 5 ≤ (d + 1)) {n : Nat} {v0 : Nat} {s0 : Nat} {s1 : Nat} {h : Hp} {o : Hp} (hf : f_X8_init_1101 n v0 s0 s1 h = some o) : Run X (d + 1) 125 1101 [some (.ref v0), none] [.ref s1, .ref s0] h (none, o) := by
  unfold f_X8_init_1101 at hf
  refine rs_dup i_X8_init_1101 rfl ?_
  refine rs_bipush i_X8_init_1102 (v := 55) (by decide) ?_
  refine rs_bipush i_X8_init_1104 (v := 32) (by decide) ?_
  obtain ⟨c1, hf⟩ := ite_some hf
  refine rs_iast i_X8_init_1106 c1 ?_
  exact r_X8_init_1107 hd hf
def f_X8_init_1095 (n : Nat) (v0 : Nat) (s0 : Nat) (s1 : Nat) (h : Hp) : Option Hp :=
  if okI h s1 54 then
  f_X8_init_1101 n v0 s0 s1 (hsi h s1 (ix 54) 32)
  else none
set_option maxRecDepth 100000 in
set_option maxHeartbeats 4000000 in
theorem r_X8_init_1095 {X : Nat → Int32} {d : Nat} (hd : 5 ≤ (d + 1)) {n : Nat} {v0 : Nat} {s0 : Nat} {s1 : Nat} {h : Hp} {o : Hp} (hf : f_X8_init_1095 n v0 s0 s1 h = some o) : Run X (d + 1) 125 1095 [some (.ref v0), none] [.ref s1, .ref s0] h (none, o) := by
  unfold f_X8_init_1095 at hf
  refine rs_dup i_X8_init_1095 rfl ?_
  refine rs_bipush i_X8_init_1096 (v := 54) (by decide) ?_
  refine rs_bipush i_X8_init_1098 (v := 32) (by decide) ?_
  obtain ⟨c1, hf⟩ := ite_some hf
  refine rs_iast i_X8_init_1100 c1 ?_
  exact r_X8_init_1101 hd hf
def f_X8_init_1089 (n : Nat) (v0 : Nat) (s0 : Nat) (s1 : Nat) (h : Hp) : Option Hp :=
  if okI h s1 53 then
  f_X8_init_1095 n v0 s0 s1 (hsi h s1 (ix 53) 32)
  else none
set_option maxRecDepth 100000 in
set_option maxHeartbeats 4000000 in
theorem r_X8_init_1089 {X : Nat → Int32} {d : Nat} (hd : 5 ≤ (d + 1)) {n : Nat} {v0 : Nat} {s0 : Nat} {s1 : Nat} {h : Hp} {o : Hp} (hf : f_X8_init_1089 n v0 s0 s1 h = some o) : Run X (d + 1) 125 1089 [some (.ref v0), none] [.ref s1, .ref s0] h (none, o) := by
  unfold f_X8_init_1089 at hf
  refine rs_dup i_X8_init_1089 rfl ?_
  refine rs_bipush i_X8_init_1090 (v := 53) (by decide) ?_
  refine rs_bipush i_X8_init_1092 (v := 32) (by decide) ?_
  obtain ⟨c1, hf⟩ := ite_some hf
  refine rs_iast i_X8_init_1094 c1 ?_
  exact r_X8_init_1095 hd hf
def f_X8_init_1083 (n : Nat) (v0 : Nat) (s0 : Nat) (s1 : Nat) (h : Hp) : Option Hp :=
  if okI h s1 52 then
  f_X8_init_1089 n v0 s0 s1 (hsi h s1 (ix 52) 32)
  else none
set_option maxRecDepth 100000 in
set_option maxHeartbeats 4000000 in
theorem r_X8_init_1083 {X : Nat → Int32} {d : Nat} (hd : 5 ≤ (d + 1)) {n : Nat} {v0 : Nat} {s0 : Nat} {s1 : Nat} {h : Hp} {o : Hp} (hf : f_X8_init_1083 n v0 s0 s1 h = some o) : Run X (d + 1) 125 1083 [some (.ref v0), none] [.ref s1, .ref s0] h (none, o) := by
  unfold f_X8_init_1083 at hf
  refine rs_dup i_X8_init_1083 rfl ?_
  refine rs_bipush i_X8_init_1084 (v := 52) (by decide) ?_
  refine rs_bipush i_X8_init_1086 (v := 32) (by decide) ?_
  obtain ⟨c1, hf⟩ := ite_some hf
  refine rs_iast i_X8_init_1088 c1 ?_
  exact r_X8_init_1089 hd hf
def f_X8_init_1077 (n : Nat) (v0 : Nat) (s0 : Nat) (s1 : Nat) (h : Hp) : Option Hp :=
  if okI h s1 51 then
  f_X8_init_1083 n v0 s0 s1 (hsi h s1 (ix 51) 101)
  else none
set_option maxRecDepth 100000 in
set_option maxHeartbeats 4000000 in
theorem r_X8_init_1077 {X : Nat → Int32} {d : Nat} (hd : 5 ≤ (d + 1)) {n : Nat} {v0 : Nat} {s0 : Nat} {s1 : Nat} {h : Hp} {o : Hp} (hf : f_X8_init_1077 n v0 s0 s1 h = some o) : Run X (d + 1) 125 1077 [some (.ref v0), none] [.ref s1, .ref s0] h (none, o) := by
  unfold f_X8_init_1077 at hf
  refine rs_dup i_X8_init_1077 rfl ?_
  refine rs_bipush i_X8_init_1078 (v := 51) (by decide) ?_
  refine rs_bipush i_X8_init_1080 (v := 101) (by decide) ?_
  obtain ⟨c1, hf⟩ := ite_some hf
  refine rs_iast i_X8_init_1082 c1 ?_
  exact r_X8_init_1083 hd hf
def f_X8_init_1071 (n : Nat) (v0 : Nat) (s0 : Nat) (s1 : Nat) (h : Hp) : Option Hp :=
  if okI h s1 50 then
  f_X8_init_1077 n v0 s0 s1 (hsi h s1 (ix 50) 99)
  else none
set_option maxRecDepth 100000 in
set_option maxHeartbeats 4000000 in
theorem r_X8_init_1071 {X : Nat → Int32} {d : Nat} (hd : 5 ≤ (d + 1)) {n : Nat} {v0 : Nat} {s0 : Nat} {s1 : Nat} {h : Hp} {o : Hp} (hf : f_X8_init_1071 n v0 s0 s1 h = some o) : Run X (d + 1) 125 1071 [some (.ref v0), none] [.ref s1, .ref s0] h (none, o) := by
  unfold f_X8_init_1071 at hf
  refine rs_dup i_X8_init_1071 rfl ?_
  refine rs_bipush i_X8_init_1072 (v := 50) (by decide) ?_
  refine rs_bipush i_X8_init_1074 (v := 99) (by decide) ?_
  obtain ⟨c1, hf⟩ := ite_some hf
  refine rs_iast i_X8_init_1076 c1 ?_
  exact r_X8_init_1077 hd hf
def f_X8_init_1065 (n : Nat) (v0 : Nat) (s0 : Nat) (s1 : Nat) (h : Hp) : Option Hp :=
  if okI h s1 49 then
  f_X8_init_1071 n v0 s0 s1 (hsi h s1 (ix 49) 97)
  else none
set_option maxRecDepth 100000 in
set_option maxHeartbeats 4000000 in
theorem r_X8_init_1065 {X : Nat → Int32} {d : Nat} (hd : 5 ≤ (d + 1)) {n : Nat} {v0 : Nat} {s0 : Nat} {s1 : Nat} {h : Hp} {o : Hp} (hf : f_X8_init_1065 n v0 s0 s1 h = some o) : Run X (d + 1) 125 1065 [some (.ref v0), none] [.ref s1, .ref s0] h (none, o) := by
  unfold f_X8_init_1065 at hf
  refine rs_dup i_X8_init_1065 rfl ?_
  refine rs_bipush i_X8_init_1066 (v := 49) (by decide) ?_
  refine rs_bipush i_X8_init_1068 (v := 97) (by decide) ?_
  obtain ⟨c1, hf⟩ := ite_some hf
  refine rs_iast i_X8_init_1070 c1 ?_
  exact r_X8_init_1071 hd hf
def f_X8_init_1059 (n : Nat) (v0 : Nat) (s0 : Nat) (s1 : Nat) (h : Hp) : Option Hp :=
  if okI h s1 48 then
  f_X8_init_1065 n v0 s0 s1 (hsi h s1 (ix 48) 112)
  else none
set_option maxRecDepth 100000 in
set_option maxHeartbeats 4000000 in
theorem r_X8_init_1059 {X : Nat → Int32} {d : Nat} (hd : 5 ≤ (d + 1)) {n : Nat} {v0 : Nat} {s0 : Nat} {s1 : Nat} {h : Hp} {o : Hp} (hf : f_X8_init_1059 n v0 s0 s1 h = some o) : Run X (d + 1) 125 1059 [some (.ref v0), none] [.ref s1, .ref s0] h (none, o) := by
  unfold f_X8_init_1059 at hf
  refine rs_dup i_X8_init_1059 rfl ?_
  refine rs_bipush i_X8_init_1060 (v := 48) (by decide) ?_
  refine rs_bipush i_X8_init_1062 (v := 112) (by decide) ?_
  obtain ⟨c1, hf⟩ := ite_some hf
  refine rs_iast i_X8_init_1064 c1 ?_
  exact r_X8_init_1065 hd hf
def f_X8_init_1053 (n : Nat) (v0 : Nat) (s0 : Nat) (s1 : Nat) (h : Hp) : Option Hp :=
  if okI h s1 47 then
  f_X8_init_1059 n v0 s0 s1 (hsi h s1 (ix 47) 32)
  else none
set_option maxRecDepth 100000 in
set_option maxHeartbeats 4000000 in
theorem r_X8_init_1053 {X : Nat → Int32} {d : Nat} (hd : 5 ≤ (d + 1)) {n : Nat} {v0 : Nat} {s0 : Nat} {s1 : Nat} {h : Hp} {o : Hp} (hf : f_X8_init_1053 n v0 s0 s1 h = some o) : Run X (d + 1) 125 1053 [some (.ref v0), none] [.ref s1, .ref s0] h (none, o) := by
  unfold f_X8_init_1053 at hf
  refine rs_dup i_X8_init_1053 rfl ?_
  refine rs_bipush i_X8_init_1054 (v := 47) (by decide) ?_
  refine rs_bipush i_X8_init_1056 (v := 32) (by decide) ?_
  obtain ⟨c1, hf⟩ := ite_some hf
  refine rs_iast i_X8_init_1058 c1 ?_
  exact r_X8_init_1059 hd hf
def f_X8_init_1047 (n : Nat) (v0 : Nat) (s0 : Nat) (s1 : Nat) (h : Hp) : Option Hp :=
  if okI h s1 46 then
  f_X8_init_1053 n v0 s0 s1 (hsi h s1 (ix 46) 32)
  else none
set_option maxRecDepth 100000 in
set_option maxHeartbeats 4000000 in
theorem r_X8_init_1047 {X : Nat → Int32} {d : Nat} (hd : 5 ≤ (d + 1)) {n : Nat} {v0 : Nat} {s0 : Nat} {s1 : Nat} {h : Hp} {o : Hp} (hf : f_X8_init_1047 n v0 s0 s1 h = some o) : Run X (d + 1) 125 1047 [some (.ref v0), none] [.ref s1, .ref s0] h (none, o) := by
  unfold f_X8_init_1047 at hf
  refine rs_dup i_X8_init_1047 rfl ?_
  refine rs_bipush i_X8_init_1048 (v := 46) (by decide) ?_
  refine rs_bipush i_X8_init_1050 (v := 32) (by decide) ?_
  obtain ⟨c1, hf⟩ := ite_some hf
  refine rs_iast i_X8_init_1052 c1 ?_
  exact r_X8_init_1053 hd hf
def f_X8_init_1041 (n : Nat) (v0 : Nat) (s0 : Nat) (s1 : Nat) (h : Hp) : Option Hp :=
  if okI h s1 45 then
  f_X8_init_1047 n v0 s0 s1 (hsi h s1 (ix 45) 32)
  else none
set_option maxRecDepth 100000 in
set_option maxHeartbeats 4000000 in
theorem r_X8_init_1041 {X : Nat → Int32} {d : Nat} (hd : 5 ≤ (d + 1)) {n : Nat} {v0 : Nat} {s0 : Nat} {s1 : Nat} {h : Hp} {o : Hp} (hf : f_X8_init_1041 n v0 s0 s1 h = some o) : Run X (d + 1) 125 1041 [some (.ref v0), none] [.ref s1, .ref s0] h (none, o) := by
  unfold f_X8_init_1041 at hf
  refine rs_dup i_X8_init_1041 rfl ?_
  refine rs_bipush i_X8_init_1042 (v := 45) (by decide) ?_
  refine rs_bipush i_X8_init_1044 (v := 32) (by decide) ?_
  obtain ⟨c1, hf⟩ := ite_some hf
  refine rs_iast i_X8_init_1046 c1 ?_
  exact r_X8_init_1047 hd hf
def f_X8_init_1035 (n : Nat) (v0 : Nat) (s0 : Nat) (s1 : Nat) (h : Hp) : Option Hp :=
  if okI h s1 44 then
  f_X8_init_1041 n v0 s0 s1 (hsi h s1 (ix 44) 102)
  else none
set_option maxRecDepth 100000 in
set_option maxHeartbeats 4000000 in
theorem r_X8_init_1035 {X : Nat → Int32} {d : Nat} (hd : 5 ≤ (d + 1)) {n : Nat} {v0 : Nat} {s0 : Nat} {s1 : Nat} {h : Hp} {o : Hp} (hf : f_X8_init_1035 n v0 s0 s1 h = some o) : Run X (d + 1) 125 1035 [some (.ref v0), none] [.ref s1, .ref s0] h (none, o) := by
  unfold f_X8_init_1035 at hf
  refine rs_dup i_X8_init_1035 rfl ?_
  refine rs_bipush i_X8_init_1036 (v := 44) (by decide) ?_
  refine rs_bipush i_X8_init_1038 (v := 102) (by decide) ?_
  obtain ⟨c1, hf⟩ := ite_some hf
  refine rs_iast i_X8_init_1040 c1 ?_
  exact r_X8_init_1041 hd hf
def f_X8_init_1029 (n : Nat) (v0 : Nat) (s0 : Nat) (s1 : Nat) (h : Hp) : Option Hp :=
  if okI h s1 43 then
  f_X8_init_1035 n v0 s0 s1 (hsi h s1 (ix 43) 102)
  else none
set_option maxRecDepth 100000 in
set_option maxHeartbeats 4000000 in
theorem r_X8_init_1029 {X : Nat → Int32} {d : Nat} (hd : 5 ≤ (d + 1)) {n : Nat} {v0 : Nat} {s0 : Nat} {s1 : Nat} {h : Hp} {o : Hp} (hf : f_X8_init_1029 n v0 s0 s1 h = some o) : Run X (d + 1) 125 1029 [some (.ref v0), none] [.ref s1, .ref s0] h (none, o) := by
  unfold f_X8_init_1029 at hf
  refine rs_dup i_X8_init_1029 rfl ?_
  refine rs_bipush i_X8_init_1030 (v := 43) (by decide) ?_
  refine rs_bipush i_X8_init_1032 (v := 102) (by decide) ?_
  obtain ⟨c1, hf⟩ := ite_some hf
  refine rs_iast i_X8_init_1034 c1 ?_
  exact r_X8_init_1035 hd hf
def f_X8_init_1023 (n : Nat) (v0 : Nat) (s0 : Nat) (s1 : Nat) (h : Hp) : Option Hp :=
  if okI h s1 42 then
  f_X8_init_1029 n v0 s0 s1 (hsi h s1 (ix 42) 105)
  else none
set_option maxRecDepth 100000 in
set_option maxHeartbeats 4000000 in
theorem r_X8_init_1023 {X : Nat → Int32} {d : Nat} (hd : 5 ≤ (d + 1)) {n : Nat} {v0 : Nat} {s0 : Nat} {s1 : Nat} {h : Hp} {o : Hp} (hf : f_X8_init_1023 n v0 s0 s1 h = some o) : Run X (d + 1) 125 1023 [some (.ref v0), none] [.ref s1, .ref s0] h (none, o) := by
  unfold f_X8_init_1023 at hf
  refine rs_dup i_X8_init_1023 rfl ?_
  refine rs_bipush i_X8_init_1024 (v := 42) (by decide) ?_
  refine rs_bipush i_X8_init_1026 (v := 105) (by decide) ?_
  obtain ⟨c1, hf⟩ := ite_some hf
  refine rs_iast i_X8_init_1028 c1 ?_
  exact r_X8_init_1029 hd hf
def f_X8_init_1017 (n : Nat) (v0 : Nat) (s0 : Nat) (s1 : Nat) (h : Hp) : Option Hp :=
  if okI h s1 41 then
  f_X8_init_1023 n v0 s0 s1 (hsi h s1 (ix 41) 116)
  else none
set_option maxRecDepth 100000 in
set_option maxHeartbeats 4000000 in
theorem r_X8_init_1017 {X : Nat → Int32} {d : Nat} (hd : 5 ≤ (d + 1)) {n : Nat} {v0 : Nat} {s0 : Nat} {s1 : Nat} {h : Hp} {o : Hp} (hf : f_X8_init_1017 n v0 s0 s1 h = some o) : Run X (d + 1) 125 1017 [some (.ref v0), none] [.ref s1, .ref s0] h (none, o) := by
  unfold f_X8_init_1017 at hf
  refine rs_dup i_X8_init_1017 rfl ?_
  refine rs_bipush i_X8_init_1018 (v := 41) (by decide) ?_
  refine rs_bipush i_X8_init_1020 (v := 116) (by decide) ?_
  obtain ⟨c1, hf⟩ := ite_some hf
  refine rs_iast i_X8_init_1022 c1 ?_
  exact r_X8_init_1023 hd hf
def f_X8_init_1011 (n : Nat) (v0 : Nat) (s0 : Nat) (s1 : Nat) (h : Hp) : Option Hp :=
  if okI h s1 40 then
  f_X8_init_1017 n v0 s0 s1 (hsi h s1 (ix 40) 115)
  else none
set_option maxRecDepth 100000 in
set_option maxHeartbeats 4000000 in
theorem r_X8_init_1011 {X : Nat → Int32} {d : Nat} (hd : 5 ≤ (d + 1)) {n : Nat} {v0 : Nat} {s0 : Nat} {s1 : Nat} {h : Hp} {o : Hp} (hf : f_X8_init_1011 n v0 s0 s1 h = some o) : Run X (d + 1) 125 1011 [some (.ref v0), none] [.ref s1, .ref s0] h (none, o) := by
  unfold f_X8_init_1011 at hf
  refine rs_dup i_X8_init_1011 rfl ?_
  refine rs_bipush i_X8_init_1012 (v := 40) (by decide) ?_
  refine rs_bipush i_X8_init_1014 (v := 115) (by decide) ?_
  obtain ⟨c1, hf⟩ := ite_some hf
  refine rs_iast i_X8_init_1016 c1 ?_
  exact r_X8_init_1017 hd hf
def f_X8_init_1005 (n : Nat) (v0 : Nat) (s0 : Nat) (s1 : Nat) (h : Hp) : Option Hp :=
  if okI h s1 39 then
  f_X8_init_1011 n v0 s0 s1 (hsi h s1 (ix 39) 32)
  else none
set_option maxRecDepth 100000 in
set_option maxHeartbeats 4000000 in
theorem r_X8_init_1005 {X : Nat → Int32} {d : Nat} (hd : 5 ≤ (d + 1)) {n : Nat} {v0 : Nat} {s0 : Nat} {s1 : Nat} {h : Hp} {o : Hp} (hf : f_X8_init_1005 n v0 s0 s1 h = some o) : Run X (d + 1) 125 1005 [some (.ref v0), none] [.ref s1, .ref s0] h (none, o) := by
  unfold f_X8_init_1005 at hf
  refine rs_dup i_X8_init_1005 rfl ?_
  refine rs_bipush i_X8_init_1006 (v := 39) (by decide) ?_
  refine rs_bipush i_X8_init_1008 (v := 32) (by decide) ?_
  obtain ⟨c1, hf⟩ := ite_some hf
  refine rs_iast i_X8_init_1010 c1 ?_
  exact r_X8_init_1011 hd hf
def f_X8_init_999 (n : Nat) (v0 : Nat) (s0 : Nat) (s1 : Nat) (h : Hp) : Option Hp :=
  if okI h s1 38 then
  f_X8_init_1005 n v0 s0 s1 (hsi h s1 (ix 38) 32)
  else none
set_option maxRecDepth 100000 in
set_option maxHeartbeats 4000000 in
theorem r_X8_init_999 {X : Nat → Int32} {d : Nat} (hd : 5 ≤ (d + 1)) {n : Nat} {v0 : Nat} {s0 : Nat} {s1 : Nat} {h : Hp} {o : Hp} (hf : f_X8_init_999 n v0 s0 s1 h = some o) : Run X (d + 1) 125 999 [some (.ref v0), none] [.ref s1, .ref s0] h (none, o) := by
  unfold f_X8_init_999 at hf
  refine rs_dup i_X8_init_999 rfl ?_
  refine rs_bipush i_X8_init_1000 (v := 38) (by decide) ?_
  refine rs_bipush i_X8_init_1002 (v := 32) (by decide) ?_
  obtain ⟨c1, hf⟩ := ite_some hf
  refine rs_iast i_X8_init_1004 c1 ?_
  exact r_X8_init_1005 hd hf
def f_X8_init_993 (n : Nat) (v0 : Nat) (s0 : Nat) (s1 : Nat) (h : Hp) : Option Hp :=
  if okI h s1 37 then
  f_X8_init_999 n v0 s0 s1 (hsi h s1 (ix 37) 32)
  else none
set_option maxRecDepth 100000 in
set_option maxHeartbeats 4000000 in
theorem r_X8_init_993 {X : Nat → Int32} {d : Nat} (hd : 5 ≤ (d + 1)) {n : Nat} {v0 : Nat} {s0 : Nat} {s1 : Nat} {h : Hp} {o : Hp} (hf : f_X8_init_993 n v0 s0 s1 h = some o) : Run X (d + 1) 125 993 [some (.ref v0), none] [.ref s1, .ref s0] h (none, o) := by
  unfold f_X8_init_993 at hf
  refine rs_dup i_X8_init_993 rfl ?_
  refine rs_bipush i_X8_init_994 (v := 37) (by decide) ?_
  refine rs_bipush i_X8_init_996 (v := 32) (by decide) ?_
  obtain ⟨c1, hf⟩ := ite_some hf
  refine rs_iast i_X8_init_998 c1 ?_
  exact r_X8_init_999 hd hf
def f_X8_init_987 (n : Nat) (v0 : Nat) (s0 : Nat) (s1 : Nat) (h : Hp) : Option Hp :=
  if okI h s1 36 then
  f_X8_init_993 n v0 s0 s1 (hsi h s1 (ix 36) 107)
  else none
set_option maxRecDepth 100000 in
set_option maxHeartbeats 4000000 in
theorem r_X8_init_987 {X : Nat → Int32} {d : Nat} (hd : 5 ≤ (d + 1)) {n : Nat} {v0 : Nat} {s0 : Nat} {s1 : Nat} {h : Hp} {o : Hp} (hf : f_X8_init_987 n v0 s0 s1 h = some o) : Run X (d + 1) 125 987 [some (.ref v0), none] [.ref s1, .ref s0] h (none, o) := by
  unfold f_X8_init_987 at hf
  refine rs_dup i_X8_init_987 rfl ?_
  refine rs_bipush i_X8_init_988 (v := 36) (by decide) ?_
  refine rs_bipush i_X8_init_990 (v := 107) (by decide) ?_
  obtain ⟨c1, hf⟩ := ite_some hf
  refine rs_iast i_X8_init_992 c1 ?_
  exact r_X8_init_993 hd hf
def f_X8_init_981 (n : Nat) (v0 : Nat) (s0 : Nat) (s1 : Nat) (h : Hp) : Option Hp :=
  if okI h s1 35 then
  f_X8_init_987 n v0 s0 s1 (hsi h s1 (ix 35) 99)
  else none
set_option maxRecDepth 100000 in
set_option maxHeartbeats 4000000 in
theorem r_X8_init_981 {X : Nat → Int32} {d : Nat} (hd : 5 ≤ (d + 1)) {n : Nat} {v0 : Nat} {s0 : Nat} {s1 : Nat} {h : Hp} {o : Hp} (hf : f_X8_init_981 n v0 s0 s1 h = some o) : Run X (d + 1) 125 981 [some (.ref v0), none] [.ref s1, .ref s0] h (none, o) := by
  unfold f_X8_init_981 at hf
  refine rs_dup i_X8_init_981 rfl ?_
  refine rs_bipush i_X8_init_982 (v := 35) (by decide) ?_
  refine rs_bipush i_X8_init_984 (v := 99) (by decide) ?_
  obtain ⟨c1, hf⟩ := ite_some hf
  refine rs_iast i_X8_init_986 c1 ?_
  exact r_X8_init_987 hd hf
def f_X8_init_975 (n : Nat) (v0 : Nat) (s0 : Nat) (s1 : Nat) (h : Hp) : Option Hp :=
  if okI h s1 34 then
  f_X8_init_981 n v0 s0 s1 (hsi h s1 (ix 34) 105)
  else none
set_option maxRecDepth 100000 in
set_option maxHeartbeats 4000000 in
theorem r_X8_init_975 {X : Nat → Int32} {d : Nat} (hd : 5 ≤ (d + 1)) {n : Nat} {v0 : Nat} {s0 : Nat} {s1 : Nat} {h : Hp} {o : Hp} (hf : f_X8_init_975 n v0 s0 s1 h = some o) : Run X (d + 1) 125 975 [some (.ref v0), none] [.ref s1, .ref s0] h (none, o) := by
  unfold f_X8_init_975 at hf
  refine rs_dup i_X8_init_975 rfl ?_
  refine rs_bipush i_X8_init_976 (v := 34) (by decide) ?_
  refine rs_bipush i_X8_init_978 (v := 105) (by decide) ?_
  obtain ⟨c1, hf⟩ := ite_some hf
  refine rs_iast i_X8_init_980 c1 ?_
  exact r_X8_init_981 hd hf
def f_X8_init_969 (n : Nat) (v0 : Nat) (s0 : Nat) (s1 : Nat) (h : Hp) : Option Hp :=
  if okI h s1 33 then
  f_X8_init_975 n v0 s0 s1 (hsi h s1 (ix 33) 104)
  else none
set_option maxRecDepth 100000 in
set_option maxHeartbeats 4000000 in
theorem r_X8_init_969 {X : Nat → Int32} {d : Nat} (hd : 5 ≤ (d + 1)) {n : Nat} {v0 : Nat} {s0 : Nat} {s1 : Nat} {h : Hp} {o : Hp} (hf : f_X8_init_969 n v0 s0 s1 h = some o) : Run X (d + 1) 125 969 [some (.ref v0), none] [.ref s1, .ref s0] h (none, o) := by
  unfold f_X8_init_969 at hf
  refine rs_dup i_X8_init_969 rfl ?_
  refine rs_bipush i_X8_init_970 (v := 33) (by decide) ?_
  refine rs_bipush i_X8_init_972 (v := 104) (by decide) ?_
  obtain ⟨c1, hf⟩ := ite_some hf
  refine rs_iast i_X8_init_974 c1 ?_
  exact r_X8_init_975 hd hf
def f_X8_init_963 (n : Nat) (v0 : Nat) (s0 : Nat) (s1 : Nat) (h : Hp) : Option Hp :=
  if okI h s1 32 then
  f_X8_init_969 n v0 s0 s1 (hsi h s1 (ix 32) 116)
  else none
set_option maxRecDepth 100000 in
set_option maxHeartbeats 4000000 in
theorem r_X8_init_963 {X : Nat → Int32} {d : Nat} (hd : 5 ≤ (d + 1)) {n : Nat} {v0 : Nat} {s0 : Nat} {s1 : Nat} {h : Hp} {o : Hp} (hf : f_X8_init_963 n v0 s0 s1 h = some o) : Run X (d + 1) 125 963 [some (.ref v0), none] [.ref s1, .ref s0] h (none, o) := by
  unfold f_X8_init_963 at hf
  refine rs_dup i_X8_init_963 rfl ?_
  refine rs_bipush i_X8_init_964 (v := 32) (by decide) ?_
  refine rs_bipush i_X8_init_966 (v := 116) (by decide) ?_
  obtain ⟨c1, hf⟩ := ite_some hf
  refine rs_iast i_X8_init_968 c1 ?_
  exact r_X8_init_969 hd hf
def f_X8_init_957 (n : Nat) (v0 : Nat) (s0 : Nat) (s1 : Nat) (h : Hp) : Option Hp :=
  if okI h s1 31 then
  f_X8_init_963 n v0 s0 s1 (hsi h s1 (ix 31) 32)
  else none
set_option maxRecDepth 100000 in
set_option maxHeartbeats 4000000 in
theorem r_X8_init_957 {X : Nat → Int32} {d : Nat} (hd : 5 ≤ (d + 1)) {n : Nat} {v0 : Nat} {s0 : Nat} {s1 : Nat} {h : Hp} {o : Hp} (hf : f_X8_init_957 n v0 s0 s1 h = some o) : Run X (d + 1) 125 957 [some (.ref v0), none] [.ref s1, .ref s0] h (none, o) := by
  unfold f_X8_init_957 at hf
  refine rs_dup i_X8_init_957 rfl ?_
  refine rs_bipush i_X8_init_958 (v := 31) (by decide) ?_
  refine rs_bipush i_X8_init_960 (v := 32) (by decide) ?_
  obtain ⟨c1, hf⟩ := ite_some hf
  refine rs_iast i_X8_init_962 c1 ?_
  exact r_X8_init_963 hd hf
def f_X8_init_951 (n : Nat) (v0 : Nat) (s0 : Nat) (s1 : Nat) (h : Hp) : Option Hp :=
  if okI h s1 30 then
  f_X8_init_957 n v0 s0 s1 (hsi h s1 (ix 30) 32)
  else none
set_option maxRecDepth 100000 in
set_option maxHeartbeats 4000000 in
theorem r_X8_init_951 {X : Nat → Int32} {d : Nat} (hd : 5 ≤ (d + 1)) {n : Nat} {v0 : Nat} {s0 : Nat} {s1 : Nat} {h : Hp} {o : Hp} (hf : f_X8_init_951 n v0 s0 s1 h = some o) : Run X (d + 1) 125 951 [some (.ref v0), none] [.ref s1, .ref s0] h (none, o) := by
  unfold f_X8_init_951 at hf
  refine rs_dup i_X8_init_951 rfl ?_
  refine rs_bipush i_X8_init_952 (v := 30) (by decide) ?_
  refine rs_bipush i_X8_init_954 (v := 32) (by decide) ?_
  obtain ⟨c1, hf⟩ := ite_some hf
  refine rs_iast i_X8_init_956 c1 ?_
  exact r_X8_init_957 hd hf
def f_X8_init_945 (n : Nat) (v0 : Nat) (s0 : Nat) (s1 : Nat) (h : Hp) : Option Hp :=
  if okI h s1 29 then
  f_X8_init_951 n v0 s0 s1 (hsi h s1 (ix 29) 32)
  else none
set_option maxRecDepth 100000 in
set_option maxHeartbeats 4000000 in
theorem r_X8_init_945 {X : Nat → Int32} {d : Nat} (hd : 5 ≤ (d + 1)) {n : Nat} {v0 : Nat} {s0 : Nat} {s1 : Nat} {h : Hp} {o : Hp} (hf : f_X8_init_945 n v0 s0 s1 h = some o) : Run X (d + 1) 125 945 [some (.ref v0), none] [.ref s1, .ref s0] h (none, o) := by
  unfold f_X8_init_945 at hf
  refine rs_dup i_X8_init_945 rfl ?_
  refine rs_bipush i_X8_init_946 (v := 29) (by decide) ?_
  refine rs_bipush i_X8_init_948 (v := 32) (by decide) ?_
  obtain ⟨c1, hf⟩ := ite_some hf
  refine rs_iast i_X8_init_950 c1 ?_
  exact r_X8_init_951 hd hf
def f_X8_init_939 (n : Nat) (v0 : Nat) (s0 : Nat) (s1 : Nat) (h : Hp) : Option Hp :=
  if okI h s1 28 then
  f_X8_init_945 n v0 s0 s1 (hsi h s1 (ix 28) 32)
  else none
set_option maxRecDepth 100000 in
set_option maxHeartbeats 4000000 in
theorem r_X8_init_939 {X : Nat → Int32} {d : Nat} (hd : 5 ≤ (d + 1)) {n : Nat} {v0 : Nat} {s0 : Nat} {s1 : Nat} {h : Hp} {o : Hp} (hf : f_X8_init_939 n v0 s0 s1 h = some o) : Run X (d + 1) 125 939 [some (.ref v0), none] [.ref s1, .ref s0] h (none, o) := by
  unfold f_X8_init_939 at hf
  refine rs_dup i_X8_init_939 rfl ?_
  refine rs_bipush i_X8_init_940 (v := 28) (by decide) ?_
  refine rs_bipush i_X8_init_942 (v := 32) (by decide) ?_
  obtain ⟨c1, hf⟩ := ite_some hf
  refine rs_iast i_X8_init_944 c1 ?_
  exact r_X8_init_945 hd hf
def f_X8_init_933 (n : Nat) (v0 : Nat) (s0 : Nat) (s1 : Nat) (h : Hp) : Option Hp :=
  if okI h s1 27 then
  f_X8_init_939 n v0 s0 s1 (hsi h s1 (ix 27) 32)
  else none
set_option maxRecDepth 100000 in
set_option maxHeartbeats 4000000 in
theorem r_X8_init_933 {X : Nat → Int32} {d : Nat} (hd : 5 ≤ (d + 1)) {n : Nat} {v0 : Nat} {s0 : Nat} {s1 : Nat} {h : Hp} {o : Hp} (hf : f_X8_init_933 n v0 s0 s1 h = some o) : Run X (d + 1) 125 933 [some (.ref v0), none] [.ref s1, .ref s0] h (none, o) := by
  unfold f_X8_init_933 at hf
  refine rs_dup i_X8_init_933 rfl ?_
  refine rs_bipush i_X8_init_934 (v := 27) (by decide) ?_
  refine rs_bipush i_X8_init_936 (v := 32) (by decide) ?_
  obtain ⟨c1, hf⟩ := ite_some hf
  refine rs_iast i_X8_init_938 c1 ?_
  exact r_X8_init_939 hd hf
def f_X8_init_927 (n : Nat) (v0 : Nat) (s0 : Nat) (s1 : Nat) (h : Hp) : Option Hp :=
  if okI h s1 26 then
  f_X8_init_933 n v0 s0 s1 (hsi h s1 (ix 26) 116)
  else none
set_option maxRecDepth 100000 in
set_option maxHeartbeats 4000000 in
theorem r_X8_init_927 {X : Nat → Int32} {d : Nat} (hd : 5 ≤ (d + 1)) {n : Nat} {v0 : Nat} {s0 : Nat} {s1 : Nat} {h : Hp} {o : Hp} (hf : f_X8_init_927 n v0 s0 s1 h = some o) : Run X (d + 1) 125 927 [some (.ref v0), none] [.ref s1, .ref s0] h (none, o) := by
  unfold f_X8_init_927 at hf
  refine rs_dup i_X8_init_927 rfl ?_
  refine rs_bipush i_X8_init_928 (v := 26) (by decide) ?_
  refine rs_bipush i_X8_init_930 (v := 116) (by decide) ?_
  obtain ⟨c1, hf⟩ := ite_some hf
  refine rs_iast i_X8_init_932 c1 ?_
  exact r_X8_init_933 hd hf
def f_X8_init_921 (n : Nat) (v0 : Nat) (s0 : Nat) (s1 : Nat) (h : Hp) : Option Hp :=
  if okI h s1 25 then
  f_X8_init_927 n v0 s0 s1 (hsi h s1 (ix 25) 101)
  else none
set_option maxRecDepth 100000 in
set_option maxHeartbeats 4000000 in
theorem r_X8_init_921 {X : Nat → Int32} {d : Nat} (hd : 5 ≤ (d + 1)) {n : Nat} {v0 : Nat} {s0 : Nat} {s1 : Nat} {h : Hp} {o : Hp} (hf : f_X8_init_921 n v0 s0 s1 h = some o) : Run X (d + 1) 125 921 [some (.ref v0), none] [.ref s1, .ref s0] h (none, o) := by
  unfold f_X8_init_921 at hf
  refine rs_dup i_X8_init_921 rfl ?_
  refine rs_bipush i_X8_init_922 (v := 25) (by decide) ?_
  refine rs_bipush i_X8_init_924 (v := 101) (by decide) ?_
  obtain ⟨c1, hf⟩ := ite_some hf
  refine rs_iast i_X8_init_926 c1 ?_
  exact r_X8_init_927 hd hf
def f_X8_init_915 (n : Nat) (v0 : Nat) (s0 : Nat) (s1 : Nat) (h : Hp) : Option Hp :=
  if okI h s1 24 then
  f_X8_init_921 n v0 s0 s1 (hsi h s1 (ix 24) 119)
  else none
set_option maxRecDepth 100000 in
set_option maxHeartbeats 4000000 in
theorem r_X8_init_915 {X : Nat → Int32} {d : Nat} (hd : 5 ≤ (d + 1)) {n : Nat} {v0 : Nat} {s0 : Nat} {s1 : Nat} {h : Hp} {o : Hp} (hf : f_X8_init_915 n v0 s0 s1 h = some o) : Run X (d + 1) 125 915 [some (.ref v0), none] [.ref s1, .ref s0] h (none, o) := by
  unfold f_X8_init_915 at hf
  refine rs_dup i_X8_init_915 rfl ?_
  refine rs_bipush i_X8_init_916 (v := 24) (by decide) ?_
  refine rs_bipush i_X8_init_918 (v := 119) (by decide) ?_
  obtain ⟨c1, hf⟩ := ite_some hf
  refine rs_iast i_X8_init_920 c1 ?_
  exact r_X8_init_921 hd hf
def f_X8_init_909 (n : Nat) (v0 : Nat) (s0 : Nat) (s1 : Nat) (h : Hp) : Option Hp :=
  if okI h s1 23 then
  f_X8_init_915 n v0 s0 s1 (hsi h s1 (ix 23) 32)
  else none
set_option maxRecDepth 100000 in
set_option maxHeartbeats 4000000 in
theorem r_X8_init_909 {X : Nat → Int32} {d : Nat} (hd : 5 ≤ (d + 1)) {n : Nat} {v0 : Nat} {s0 : Nat} {s1 : Nat} {h : Hp} {o : Hp} (hf : f_X8_init_909 n v0 s0 s1 h = some o) : Run X (d + 1) 125 909 [some (.ref v0), none] [.ref s1, .ref s0] h (none, o) := by
  unfold f_X8_init_909 at hf
  refine rs_dup i_X8_init_909 rfl ?_
  refine rs_bipush i_X8_init_910 (v := 23) (by decide) ?_
  refine rs_bipush i_X8_init_912 (v := 32) (by decide) ?_
  obtain ⟨c1, hf⟩ := ite_some hf
  refine rs_iast i_X8_init_914 c1 ?_
  exact r_X8_init_915 hd hf
def f_X8_init_903 (n : Nat) (v0 : Nat) (s0 : Nat) (s1 : Nat) (h : Hp) : Option Hp :=
  if okI h s1 22 then
  f_X8_init_909 n v0 s0 s1 (hsi h s1 (ix 22) 32)
  else none
set_option maxRecDepth 100000 in
set_option maxHeartbeats 4000000 in
theorem r_X8_init_903 {X : Nat → Int32} {d : Nat} (hd : 5 ≤ (d + 1)) {n : Nat} {v0 : Nat} {s0 : Nat} {s1 : Nat} {h : Hp} {o : Hp} (hf : f_X8_init_903 n v0 s0 s1 h = some o) : Run X (d + 1) 125 903 [some (.ref v0), none] [.ref s1, .ref s0] h (none, o) := by
  unfold f_X8_init_903 at hf
  refine rs_dup i_X8_init_903 rfl ?_
  refine rs_bipush i_X8_init_904 (v := 22) (by decide) ?_
  refine rs_bipush i_X8_init_906 (v := 32) (by decide) ?_
  obtain ⟨c1, hf⟩ := ite_some hf
  refine rs_iast i_X8_init_908 c1 ?_
  exact r_X8_init_909 hd hf
def f_X8_init_897 (n : Nat) (v0 : Nat) (s0 : Nat) (s1 : Nat) (h : Hp) : Option Hp :=
  if okI h s1 21 then
  f_X8_init_903 n v0 s0 s1 (hsi h s1 (ix 21) 115)
  else none
set_option maxRecDepth 100000 in
set_option maxHeartbeats 4000000 in
theorem r_X8_init_897 {X : Nat → Int32} {d : Nat} (hd : 5 ≤ (d + 1)) {n : Nat} {v0 : Nat} {s0 : Nat} {s1 : Nat} {h : Hp} {o : Hp} (hf : f_X8_init_897 n v0 s0 s1 h = some o) : Run X (d + 1) 125 897 [some (.ref v0), none] [.ref s1, .ref s0] h (none, o) := by
  unfold f_X8_init_897 at hf
  refine rs_dup i_X8_init_897 rfl ?_
  refine rs_bipush i_X8_init_898 (v := 21) (by decide) ?_
  refine rs_bipush i_X8_init_900 (v := 115) (by decide) ?_
  obtain ⟨c1, hf⟩ := ite_some hf
  refine rs_iast i_X8_init_902 c1 ?_
  exact r_X8_init_903 hd hf
def f_X8_init_891 (n : Nat) (v0 : Nat) (s0 : Nat) (s1 : Nat) (h : Hp) : Option Hp :=
  if okI h s1 20 then
  f_X8_init_897 n v0 s0 s1 (hsi h s1 (ix 20) 107)
  else none
set_option maxRecDepth 100000 in
set_option maxHeartbeats 4000000 in
theorem r_X8_init_891 {X : Nat → Int32} {d : Nat} (hd : 5 ≤ (d + 1)) {n : Nat} {v0 : Nat} {s0 : Nat} {s1 : Nat} {h : Hp} {o : Hp} (hf : f_X8_init_891 n v0 s0 s1 h = some o) : Run X (d + 1) 125 891 [some (.ref v0), none] [.ref s1, .ref s0] h (none, o) := by
  unfold f_X8_init_891 at hf
  refine rs_dup i_X8_init_891 rfl ?_
  refine rs_bipush i_X8_init_892 (v := 20) (by decide) ?_
  refine rs_bipush i_X8_init_894 (v := 107) (by decide) ?_
  obtain ⟨c1, hf⟩ := ite_some hf
  refine rs_iast i_X8_init_896 c1 ?_
  exact r_X8_init_897 hd hf
def f_X8_init_885 (n : Nat) (v0 : Nat) (s0 : Nat) (s1 : Nat) (h : Hp) : Option Hp :=
  if okI h s1 19 then
  f_X8_init_891 n v0 s0 s1 (hsi h s1 (ix 19) 99)
  else none
set_option maxRecDepth 100000 in
set_option maxHeartbeats 4000000 in
theorem r_X8_init_885 {X : Nat → Int32} {d : Nat} (hd : 5 ≤ (d + 1)) {n : Nat} {v0 : Nat} {s0 : Nat} {s1 : Nat} {h : Hp} {o : Hp} (hf : f_X8_init_885 n v0 s0 s1 h = some o) : Run X (d + 1) 125 885 [some (.ref v0), none] [.ref s1, .ref s0] h (none, o) := by
  unfold f_X8_init_885 at hf
  refine rs_dup i_X8_init_885 rfl ?_
  refine rs_bipush i_X8_init_886 (v := 19) (by decide) ?_
  refine rs_bipush i_X8_init_888 (v := 99) (by decide) ?_
  obtain ⟨c1, hf⟩ := ite_some hf
  refine rs_iast i_X8_init_890 c1 ?_
  exact r_X8_init_891 hd hf
def f_X8_init_879 (n : Nat) (v0 : Nat) (s0 : Nat) (s1 : Nat) (h : Hp) : Option Hp :=
  if okI h s1 18 then
  f_X8_init_885 n v0 s0 s1 (hsi h s1 (ix 18) 105)
  else none
set_option maxRecDepth 100000 in
set_option maxHeartbeats 4000000 in
theorem r_X8_init_879 {X : Nat → Int32} {d : Nat} (hd : 5 ≤ (d + 1)) {n : Nat} {v0 : Nat} {s0 : Nat} {s1 : Nat} {h : Hp} {o : Hp} (hf : f_X8_init_879 n v0 s0 s1 h = some o) : Run X (d + 1) 125 879 [some (.ref v0), none] [.ref s1, .ref s0] h (none, o) := by
  unfold f_X8_init_879 at hf
  refine rs_dup i_X8_init_879 rfl ?_
  refine rs_bipush i_X8_init_880 (v := 18) (by decide) ?_
  refine rs_bipush i_X8_init_882 (v := 105) (by decide) ?_
  obtain ⟨c1, hf⟩ := ite_some hf
  refine rs_iast i_X8_init_884 c1 ?_
  exact r_X8_init_885 hd hf
def f_X8_init_873 (n : Nat) (v0 : Nat) (s0 : Nat) (s1 : Nat) (h : Hp) : Option Hp :=
  if okI h s1 17 then
  f_X8_init_879 n v0 s0 s1 (hsi h s1 (ix 17) 116)
  else none
set_option maxRecDepth 100000 in
set_option maxHeartbeats 4000000 in
theorem r_X8_init_873 {X : Nat → Int32} {d : Nat} (hd : 5 ≤ (d + 1)) {n : Nat} {v0 : Nat} {s0 : Nat} {s1 : Nat} {h : Hp} {o : Hp} (hf : f_X8_init_873 n v0 s0 s1 h = some o) : Run X (d + 1) 125 873 [some (.ref v0), none] [.ref s1, .ref s0] h (none, o) := by
  unfold f_X8_init_873 at hf
  refine rs_dup i_X8_init_873 rfl ?_
  refine rs_bipush i_X8_init_874 (v := 17) (by decide) ?_
  refine rs_bipush i_X8_init_876 (v := 116) (by decide) ?_
  obtain ⟨c1, hf⟩ := ite_some hf
  refine rs_iast i_X8_init_878 c1 ?_
  exact r_X8_init_879 hd hf
def f_X8_init_867 (n : Nat) (v0 : Nat) (s0 : Nat) (s1 : Nat) (h : Hp) : Option Hp :=
  if okI h s1 16 then
  f_X8_init_873 n v0 s0 s1 (hsi h s1 (ix 16) 115)
  else none
set_option maxRecDepth 100000 in
set_option maxHeartbeats 4000000 in
theorem r_X8_init_867 {X : Nat → Int32} {d : Nat} (hd : 5 ≤ (d + 1)) {n : Nat} {v0 : Nat} {s0 : Nat} {s1 : Nat} {h : Hp} {o : Hp} (hf : f_X8_init_867 n v0 s0 s1 h = some o) : Run X (d + 1) 125 867 [some (.ref v0), none] [.ref s1, .ref s0] h (none, o) := by
  unfold f_X8_init_867 at hf
  refine rs_dup i_X8_init_867 rfl ?_
  refine rs_bipush i_X8_init_868 (v := 16) (by decide) ?_
  refine rs_bipush i_X8_init_870 (v := 115) (by decide) ?_
  obtain ⟨c1, hf⟩ := ite_some hf
  refine rs_iast i_X8_init_872 c1 ?_
  exact r_X8_init_873 hd hf
def f_X8_init_861 (n : Nat) (v0 : Nat) (s0 : Nat) (s1 : Nat) (h : Hp) : Option Hp :=
  if okI h s1 15 then
  f_X8_init_867 n v0 s0 s1 (hsi h s1 (ix 15) 32)
  else none
set_option maxRecDepth 100000 in
set_option maxHeartbeats 4000000 in
theorem r_X8_init_861 {X : Nat → Int32} {d : Nat} (hd : 5 ≤ (d + 1)) {n : Nat} {v0 : Nat} {s0 : Nat} {s1 : Nat} {h : Hp} {o : Hp} (hf : f_X8_init_861 n v0 s0 s1 h = some o) : Run X (d + 1) 125 861 [some (.ref v0), none] [.ref s1, .ref s0] h (none, o) := by
  unfold f_X8_init_861 at hf
  refine rs_dup i_X8_init_861 rfl ?_
  refine rs_bipush i_X8_init_862 (v := 15) (by decide) ?_
  refine rs_bipush i_X8_init_864 (v := 32) (by decide) ?_
  obtain ⟨c1, hf⟩ := ite_some hf
  refine rs_iast i_X8_init_866 c1 ?_
  exact r_X8_init_867 hd hf
def f_X8_init_855 (n : Nat) (v0 : Nat) (s0 : Nat) (s1 : Nat) (h : Hp) : Option Hp :=
  if okI h s1 14 then
  f_X8_init_861 n v0 s0 s1 (hsi h s1 (ix 14) 32)
  else none
set_option maxRecDepth 100000 in
set_option maxHeartbeats 4000000 in
theorem r_X8_init_855 {X : Nat → Int32} {d : Nat} (hd : 5 ≤ (d + 1)) {n : Nat} {v0 : Nat} {s0 : Nat} {s1 : Nat} {h : Hp} {o : Hp} (hf : f_X8_init_855 n v0 s0 s1 h = some o) : Run X (d + 1) 125 855 [some (.ref v0), none] [.ref s1, .ref s0] h (none, o) := by
  unfold f_X8_init_855 at hf
  refine rs_dup i_X8_init_855 rfl ?_
  refine rs_bipush i_X8_init_856 (v := 14) (by decide) ?_
  refine rs_bipush i_X8_init_858 (v := 32) (by decide) ?_
  obtain ⟨c1, hf⟩ := ite_some hf
  refine rs_iast i_X8_init_860 c1 ?_
  exact r_X8_init_861 hd hf
def f_X8_init_849 (n : Nat) (v0 : Nat) (s0 : Nat) (s1 : Nat) (h : Hp) : Option Hp :=
  if okI h s1 13 then
  f_X8_init_855 n v0 s0 s1 (hsi h s1 (ix 13) 32)
  else none
set_option maxRecDepth 100000 in
set_option maxHeartbeats 4000000 in
theorem r_X8_init_849 {X : Nat → Int32} {d : Nat} (hd : 5 ≤ (d + 1)) {n : Nat} {v0 : Nat} {s0 : Nat} {s1 : Nat} {h : Hp} {o : Hp} (hf : f_X8_init_849 n v0 s0 s1 h = some o) : Run X (d + 1) 125 849 [some (.ref v0), none] [.ref s1, .ref s0] h (none, o) := by
  unfold f_X8_init_849 at hf
  refine rs_dup i_X8_init_849 rfl ?_
  refine rs_bipush i_X8_init_850 (v := 13) (by decide) ?_
  refine rs_bipush i_X8_init_852 (v := 32) (by decide) ?_
  obtain ⟨c1, hf⟩ := ite_some hf
  refine rs_iast i_X8_init_854 c1 ?_
  exact r_X8_init_855 hd hf
def f_X8_init_843 (n : Nat) (v0 : Nat) (s0 : Nat) (s1 : Nat) (h : Hp) : Option Hp :=
  if okI h s1 12 then
  f_X8_init_849 n v0 s0 s1 (hsi h s1 (ix 12) 115)
  else none
set_option maxRecDepth 100000 in
set_option maxHeartbeats 4000000 in
theorem r_X8_init_843 {X : Nat → Int32} {d : Nat} (hd : 5 ≤ (d + 1)) {n : Nat} {v0 : Nat} {s0 : Nat} {s1 : Nat} {h : Hp} {o : Hp} (hf : f_X8_init_843 n v0 s0 s1 h = some o) : Run X (d + 1) 125 843 [some (.ref v0), none] [.ref s1, .ref s0] h (none, o) := by
  unfold f_X8_init_843 at hf
  refine rs_dup i_X8_init_843 rfl ?_
  refine rs_bipush i_X8_init_844 (v := 12) (by decide) ?_
  refine rs_bipush i_X8_init_846 (v := 115) (by decide) ?_
  obtain ⟨c1, hf⟩ := ite_some hf
  refine rs_iast i_X8_init_848 c1 ?_
  exact r_X8_init_849 hd hf
def f_X8_init_837 (n : Nat) (v0 : Nat) (s0 : Nat) (s1 : Nat) (h : Hp) : Option Hp :=
  if okI h s1 11 then
  f_X8_init_843 n v0 s0 s1 (hsi h s1 (ix 11) 114)
  else none
set_option maxRecDepth 100000 in
set_option maxHeartbeats 4000000 in
theorem r_X8_init_837 {X : Nat → Int32} {d : Nat} (hd : 5 ≤ (d + 1)) {n : Nat} {v0 : Nat} {s0 : Nat} {s1 : Nat} {h : Hp} {o : Hp} (hf : f_X8_init_837 n v0 s0 s1 h = some o) : Run X (d + 1) 125 837 [some (.ref v0), none] [.ref s1, .ref s0] h (none, o) := by
  unfold f_X8_init_837 at hf
  refine rs_dup i_X8_init_837 rfl ?_
  refine rs_bipush i_X8_init_838 (v := 11) (by decide) ?_
  refine rs_bipush i_X8_init_840 (v := 114) (by decide) ?_
  obtain ⟨c1, hf⟩ := ite_some hf
  refine rs_iast i_X8_init_842 c1 ?_
  exact r_X8_init_843 hd hf
def f_X8_init_831 (n : Nat) (v0 : Nat) (s0 : Nat) (s1 : Nat) (h : Hp) : Option Hp :=
  if okI h s1 10 then
  f_X8_init_837 n v0 s0 s1 (hsi h s1 (ix 10) 97)
  else none
set_option maxRecDepth 100000 in
set_option maxHeartbeats 4000000 in
theorem r_X8_init_831 {X : Nat → Int32} {d : Nat} (hd : 5 ≤ (d + 1)) {n : Nat} {v0 : Nat} {s0 : Nat} {s1 : Nat} {h : Hp} {o : Hp} (hf : f_X8_init_831 n v0 s0 s1 h = some o) : Run X (d + 1) 125 831 [some (.ref v0), none] [.ref s1, .ref s0] h (none, o) := by
  unfold f_X8_init_831 at hf
  refine rs_dup i_X8_init_831 rfl ?_
  refine rs_bipush i_X8_init_832 (v := 10) (by decide) ?_
  refine rs_bipush i_X8_init_834 (v := 97) (by decide) ?_
  obtain ⟨c1, hf⟩ := ite_some hf
  refine rs_iast i_X8_init_836 c1 ?_
  exact r_X8_init_837 hd hf
def f_X8_init_825 (n : Nat) (v0 : Nat) (s0 : Nat) (s1 : Nat) (h : Hp) : Option Hp :=
  if okI h s1 9 then
  f_X8_init_831 n v0 s0 s1 (hsi h s1 (ix 9) 101)
  else none
set_option maxRecDepth 100000 in
set_option maxHeartbeats 4000000 in
theorem r_X8_init_825 {X : Nat → Int32} {d : Nat} (hd : 5 ≤ (d + 1)) {n : Nat} {v0 : Nat} {s0 : Nat} {s1 : Nat} {h : Hp} {o : Hp} (hf : f_X8_init_825 n v0 s0 s1 h = some o) : Run X (d + 1) 125 825 [some (.ref v0), none] [.ref s1, .ref s0] h (none, o) := by
  unfold f_X8_init_825 at hf
  refine rs_dup i_X8_init_825 rfl ?_
  refine rs_bipush i_X8_init_826 (v := 9) (by decide) ?_
  refine rs_bipush i_X8_init_828 (v := 101) (by decide) ?_
  obtain ⟨c1, hf⟩ := ite_some hf
  refine rs_iast i_X8_init_830 c1 ?_
  exact r_X8_init_831 hd hf
def f_X8_init_819 (n : Nat) (v0 : Nat) (s0 : Nat) (s1 : Nat) (h : Hp) : Option Hp :=
  if okI h s1 8 then
  f_X8_init_825 n v0 s0 s1 (hsi h s1 (ix 8) 116)
  else none
set_option maxRecDepth 100000 in
set_option maxHeartbeats 4000000 in
theorem r_X8_init_819 {X : Nat → Int32} {d : Nat} (hd : 5 ≤ (d + 1)) {n : Nat} {v0 : Nat} {s0 : Nat} {s1 : Nat} {h : Hp} {o : Hp} (hf : f_X8_init_819 n v0 s0 s1 h = some o) : Run X (d + 1) 125 819 [some (.ref v0), none] [.ref s1, .ref s0] h (none, o) := by
  unfold f_X8_init_819 at hf
  refine rs_dup i_X8_init_819 rfl ?_
  refine rs_bipush i_X8_init_820 (v := 8) (by decide) ?_
  refine rs_bipush i_X8_init_822 (v := 116) (by decide) ?_
  obtain ⟨c1, hf⟩ := ite_some hf
  refine rs_iast i_X8_init_824 c1 ?_
  exact r_X8_init_825 hd hf
def f_X8_init_813 (n : Nat) (v0 : Nat) (s0 : Nat) (s1 : Nat) (h : Hp) : Option Hp :=
  if okI h s1 7 then
  f_X8_init_819 n v0 s0 s1 (hsi h s1 (ix 7) 32)
  else none
set_option maxRecDepth 100000 in
set_option maxHeartbeats 4000000 in
theorem r_X8_init_813 {X : Nat → Int32} {d : Nat} (hd : 5 ≤ (d + 1)) {n : Nat} {v0 : Nat} {s0 : Nat} {s1 : Nat} {h : Hp} {o : Hp} (hf : f_X8_init_813 n v0 s0 s1 h = some o) : Run X (d + 1) 125 813 [some (.ref v0), none] [.ref s1, .ref s0] h (none, o) := by
  unfold f_X8_init_813 at hf
  refine rs_dup i_X8_init_813 rfl ?_
  refine rs_bipush i_X8_init_814 (v := 7) (by decide) ?_
  refine rs_bipush i_X8_init_816 (v := 32) (by decide) ?_
  obtain ⟨c1, hf⟩ := ite_some hf
  refine rs_iast i_X8_init_818 c1 ?_
  exact r_X8_init_819 hd hf
def f_X8_init_807 (n : Nat) (v0 : Nat) (s0 : Nat) (s1 : Nat) (h : Hp) : Option Hp :=
  if okI h s1 6 then
  f_X8_init_813 n v0 s0 s1 (hsi h s1 (ix 6) 32)
  else none
set_option maxRecDepth 100000 in
set_option maxHeartbeats 4000000 in
theorem r_X8_init_807 {X : Nat → Int32} {d : Nat} (hd : 5 ≤ (d + 1)) {n : Nat} {v0 : Nat} {s0 : Nat} {s1 : Nat} {h : Hp} {o : Hp} (hf : f_X8_init_807 n v0 s0 s1 h = some o) : Run X (d + 1) 125 807 [some (.ref v0), none] [.ref s1, .ref s0] h (none, o) := by
  unfold f_X8_init_807 at hf
  refine rs_dup i_X8_init_807 rfl ?_
  refine rs_bipush i_X8_init_808 (v := 6) (by decide) ?_
  refine rs_bipush i_X8_init_810 (v := 32) (by decide) ?_
  obtain ⟨c1, hf⟩ := ite_some hf
  refine rs_iast i_X8_init_812 c1 ?_
  exact r_X8_init_813 hd hf
def f_X8_init_802 (n : Nat) (v0 : Nat) (s0 : Nat) (s1 : Nat) (h : Hp) : Option Hp :=
  if okI h s1 5 then
  f_X8_init_807 n v0 s0 s1 (hsi h s1 (ix 5) 32)
  else none
set_option maxRecDepth 100000 in
set_option maxHeartbeats 4000000 in
theorem r_X8_init_802 {X : Nat → Int32} {d : Nat} (hd : 5 ≤ (d + 1)) {n : Nat} {v0 : Nat} {s0 : Nat} {s1 : Nat} {h : Hp} {o : Hp} (hf : f_X8_init_802 n v0 s0 s1 h = some o) : Run X (d + 1) 125 802 [some (.ref v0), none] [.ref s1, .ref s0] h (none, o) := by
  unfold f_X8_init_802 at hf
  refine rs_dup i_X8_init_802 rfl ?_
  refine rs_iconst i_X8_init_803 (v := 5) (by decide) ?_
  refine rs_bipush i_X8_init_804 (v := 32) (by decide) ?_
  obtain ⟨c1, hf⟩ := ite_some hf
  refine rs_iast i_X8_init_806 c1 ?_
  exact r_X8_init_807 hd hf
def f_X8_init_797 (n : Nat) (v0 : Nat) (s0 : Nat) (s1 : Nat) (h : Hp) : Option Hp :=
  if okI h s1 4 then
  f_X8_init_802 n v0 s0 s1 (hsi h s1 (ix 4) 32)
  else none
set_option maxRecDepth 100000 in
set_option maxHeartbeats 4000000 in
theorem r_X8_init_797 {X : Nat → Int32} {d : Nat} (hd : 5 ≤ (d + 1)) {n : Nat} {v0 : Nat} {s0 : Nat} {s1 : Nat} {h : Hp} {o : Hp} (hf : f_X8_init_797 n v0 s0 s1 h = some o) : Run X (d + 1) 125 797 [some (.ref v0), none] [.ref s1, .ref s0] h (none, o) := by
  unfold f_X8_init_797 at hf
  refine rs_dup i_X8_init_797 rfl ?_
  refine rs_iconst i_X8_init_798 (v := 4) (by decide) ?_
  refine rs_bipush i_X8_init_799 (v := 32) (by decide) ?_
  obtain ⟨c1, hf⟩ := ite_some hf
  refine rs_iast i_X8_init_801 c1 ?_
  exact r_X8_init_802 hd hf
def f_X8_init_792 (n : Nat) (v0 : Nat) (s0 : Nat) (s1 : Nat) (h : Hp) : Option Hp :=
  if okI h s1 3 then
  f_X8_init_797 n v0 s0 s1 (hsi h s1 (ix 3) 119)
  else none
set_option maxRecDepth 100000 in
set_option maxHeartbeats 4000000 in
theorem r_X8_init_792 {X : Nat → Int32} {d : Nat} (hd : 5 ≤ (d + 1)) {n : Nat} {v0 : Nat} {s0 : Nat} {s1 : Nat} {h : Hp} {o : Hp} (hf : f_X8_init_792 n v0 s0 s1 h = some o) : Run X (d + 1) 125 792 [some (.ref v0), none] [.ref s1, .ref s0] h (none, o) := by
  unfold f_X8_init_792 at hf
  refine rs_dup i_X8_init_792 rfl ?_
  refine rs_iconst i_X8_init_793 (v := 3) (by decide) ?_
  refine rs_bipush i_X8_init_794 (v := 119) (by decide) ?_
  obtain ⟨c1, hf⟩ := ite_some hf
  refine rs_iast i_X8_init_796 c1 ?_
  exact r_X8_init_797 hd hf
def f_X8_init_787 (n : Nat) (v0 : Nat) (s0 : Nat) (s1 : Nat) (h : Hp) : Option Hp :=
  if okI h s1 2 then
  f_X8_init_792 n v0 s0 s1 (hsi h s1 (ix 2) 97)
  else none
set_option maxRecDepth 100000 in
set_option maxHeartbeats 4000000 in
theorem r_X8_init_787 {X : Nat → Int32} {d : Nat} (hd : 5 ≤ (d + 1)) {n : Nat} {v0 : Nat} {s0 : Nat} {s1 : Nat} {h : Hp} {o : Hp} (hf : f_X8_init_787 n v0 s0 s1 h = some o) : Run X (d + 1) 125 787 [some (.ref v0), none] [.ref s1, .ref s0] h (none, o) := by
  unfold f_X8_init_787 at hf
  refine rs_dup i_X8_init_787 rfl ?_
  refine rs_iconst i_X8_init_788 (v := 2) (by decide) ?_
  refine rs_bipush i_X8_init_789 (v := 97) (by decide) ?_
  obtain ⟨c1, hf⟩ := ite_some hf
  refine rs_iast i_X8_init_791 c1 ?_
  exact r_X8_init_792 hd hf
def f_X8_init_782 (n : Nat) (v0 : Nat) (s0 : Nat) (s1 : Nat) (h : Hp) : Option Hp :=
  if okI h s1 1 then
  f_X8_init_787 n v0 s0 s1 (hsi h s1 (ix 1) 114)
  else none
set_option maxRecDepth 100000 in
set_option maxHeartbeats 4000000 in
theorem r_X8_init_782 {X : Nat → Int32} {d : Nat} (hd : 5 ≤ (d + 1)) {n : Nat} {v0 : Nat} {s0 : Nat} {s1 : Nat} {h : Hp} {o : Hp} (hf : f_X8_init_782 n v0 s0 s1 h = some o) : Run X (d + 1) 125 782 [some (.ref v0), none] [.ref s1, .ref s0] h (none, o) := by
  unfold f_X8_init_782 at hf
  refine rs_dup i_X8_init_782 rfl ?_
  refine rs_iconst i_X8_init_783 (v := 1) (by decide) ?_
  refine rs_bipush i_X8_init_784 (v := 114) (by decide) ?_
  obtain ⟨c1, hf⟩ := ite_some hf
  refine rs_iast i_X8_init_786 c1 ?_
  exact r_X8_init_787 hd hf
def f_X8_init_777 (n : Nat) (v0 : Nat) (s0 : Nat) (s1 : Nat) (h : Hp) : Option Hp :=
  if okI h s1 0 then
  f_X8_init_782 n v0 s0 s1 (hsi h s1 (ix 0) 100)
  else none
set_option maxRecDepth 100000 in
set_option maxHeartbeats 4000000 in
theorem r_X8_init_777 {X : Nat → Int32} {d : Nat} (hd : 5 ≤ (d + 1)) {n : Nat} {v0 : Nat} {s0 : Nat} {s1 : Nat} {h : Hp} {o : Hp} (hf : f_X8_init_777 n v0 s0 s1 h = some o) : Run X (d + 1) 125 777 [some (.ref v0), none] [.ref s1, .ref s0] h (none, o) := by
  unfold f_X8_init_777 at hf
  refine rs_dup i_X8_init_777 rfl ?_
  refine rs_iconst i_X8_init_778 (v := 0) (by decide) ?_
  refine rs_bipush i_X8_init_779 (v := 100) (by decide) ?_
  obtain ⟨c1, hf⟩ := ite_some hf
  refine rs_iast i_X8_init_781 c1 ?_
  exact r_X8_init_782 hd hf
def f_X8_init_772 (n : Nat) (v0 : Nat) (h : Hp) : Option Hp :=
  f_X8_init_777 n v0 v0 h.1.length (hnew h (9, ix 96))
set_option maxRecDepth 100000 in
set_option maxHeartbeats 4000000 in
theorem r_X8_init_772 {X : Nat → Int32} {d : Nat} (hd : 5 ≤ (d + 1)) {n : Nat} {v0 : Nat} {h : Hp} {o : Hp} (hf : f_X8_init_772 n v0 h = some o) : Run X (d + 1) 125 772 [some (.ref v0), none] [] h (none, o) := by
  unfold f_X8_init_772 at hf
  refine rs_aload_n i_X8_init_772 rfl ?_
  refine rs_bipush i_X8_init_773 (v := 96) (by decide) ?_
  refine rs_newa i_X8_init_775 (by decide) ?_
  exact r_X8_init_777 hd hf
def f_X8_init_769 (n : Nat) (v0 : Nat) (s0 : Nat) (s1 : Nat) (h : Hp) : Option Hp :=
  if okO h s0 8 then
  if 16 ≤ s1 then
  f_X8_init_772 n v0 (hsr h s0 25 (some s1))
  else none
  else none
set_option maxRecDepth 100000 in
set_option maxHeartbeats 4000000 in
theorem r_X8_init_769 {X : Nat → Int32} {d : Nat} (hd : 5 ≤ (d + 1)) {n : Nat} {v0 : Nat} {s0 : Nat} {s1 : Nat} {h : Hp} {o : Hp} (hf : f_X8_init_769 n v0 s0 s1 h = some o) : Run X (d + 1) 125 769 [some (.ref v0), none] [.ref s1, .ref s0] h (none, o) := by
  unfold f_X8_init_769 at hf
  obtain ⟨c1, hf⟩ := ite_some hf
  obtain ⟨c2, hf⟩ := ite_some hf
  refine rs_putR i_X8_init_769 (by decide) c2 c1 ?_
  exact r_X8_init_772 hd hf
def f_X8_init_763 (n : Nat) (v0 : Nat) (s0 : Nat) (s1 : Nat) (h : Hp) : Option Hp :=
  if okI h s1 82 then
  f_X8_init_769 n v0 s0 s1 (hsi h s1 (ix 82) 59)
  else none
set_option maxRecDepth 100000 in
set_option maxHeartbeats 4000000 in
theorem r_X8_init_763 {X : Nat → Int32} {d : Nat} (hd : 5 ≤ (d + 1)) {n : Nat} {v0 : Nat} {s0 : Nat} {s1 : Nat} {h : Hp} {o : Hp} (hf : f_X8_init_763 n v0 s0 s1 h = some o) : Run X (d + 1) 125 763 [some (.ref v0), none] [.ref s1, .ref s0] h (none, o) := by
  unfold f_X8_init_763 at hf
  refine rs_dup i_X8_init_763 rfl ?_
  refine rs_bipush i_X8_init_764 (v := 82) (by decide) ?_
  refine rs_bipush i_X8_init_766 (v := 59) (by decide) ?_
  obtain ⟨c1, hf⟩ := ite_some hf
  refine rs_iast i_X8_init_768 c1 ?_
  exact r_X8_init_769 hd hf
def f_X8_init_757 (n : Nat) (v0 : Nat) (s0 : Nat) (s1 : Nat) (h : Hp) : Option Hp :=
  if okI h s1 81 then
  f_X8_init_763 n v0 s0 s1 (hsi h s1 (ix 81) 32)
  else none
set_option maxRecDepth 100000 in
set_option maxHeartbeats 4000000 in
theorem r_X8_init_757 {X : Nat → Int32} {d : Nat} (hd : 5 ≤ (d + 1)) {n : Nat} {v0 : Nat} {s0 : Nat} {s1 : Nat} {h : Hp} {o : Hp} (hf : f_X8_init_757 n v0 s0 s1 h = some o) : Run X (d + 1) 125 757 [some (.ref v0), none] [.ref s1, .ref s0] h (none, o) := by
  unfold f_X8_init_757 at hf
  refine rs_dup i_X8_init_757 rfl ?_
  refine rs_bipush i_X8_init_758 (v := 81) (by decide) ?_
  refine rs_bipush i_X8_init_760 (v := 32) (by decide) ?_
  obtain ⟨c1, hf⟩ := ite_some hf
  refine rs_iast i_X8_init_762 c1 ?_
  exact r_X8_init_763 hd hf
def f_X8_init_751 (n : Nat) (v0 : Nat) (s0 : Nat) (s1 : Nat) (h : Hp) : Option Hp :=
  if okI h s1 80 then
  f_X8_init_757 n v0 s0 s1 (hsi h s1 (ix 80) 116)
  else none
set_option maxRecDepth 100000 in
set_option maxHeartbeats 4000000 in
theorem r_X8_init_751 {X : Nat → Int32} {d : Nat} (hd : 5 ≤ (d + 1)) {n : Nat} {v0 : Nat} {s0 : Nat} {s1 : Nat} {h : Hp} {o : Hp} (hf : f_X8_init_751 n v0 s0 s1 h = some o) : Run X (d + 1) 125 751 [some (.ref v0), none] [.ref s1, .ref s0] h (none, o) := by
  unfold f_X8_init_751 at hf
  refine rs_dup i_X8_init_751 rfl ?_
  refine rs_bipush i_X8_init_752 (v := 80) (by decide) ?_
  refine rs_bipush i_X8_init_754 (v := 116) (by decide) ?_
  obtain ⟨c1, hf⟩ := ite_some hf
  refine rs_iast i_X8_init_756 c1 ?_
  exact r_X8_init_757 hd hf
def f_X8_init_745 (n : Nat) (v0 : Nat) (s0 : Nat) (s1 : Nat) (h : Hp) : Option Hp :=
  if okI h s1 79 then
  f_X8_init_751 n v0 s0 s1 (hsi h s1 (ix 79) 115)
  else none
set_option maxRecDepth 100000 in
set_option maxHeartbeats 4000000 in
theorem r_X8_init_745 {X : Nat → Int32} {d : Nat} (hd : 5 ≤ (d + 1)) {n : Nat} {v0 : Nat} {s0 : Nat} {s1 : Nat} {h : Hp} {o : Hp} (hf : f_X8_init_745 n v0 s0 s1 h = some o) : Run X (d + 1) 125 745 [some (.ref v0), none] [.ref s1, .ref s0] h (none, o) := by
  unfold f_X8_init_745 at hf
  refine rs_dup i_X8_init_745 rfl ?_
  refine rs_bipush i_X8_init_746 (v := 79) (by decide) ?_
  refine rs_bipush i_X8_init_748 (v := 115) (by decide) ?_
  obtain ⟨c1, hf⟩ := ite_some hf
  refine rs_iast i_X8_init_750 c1 ?_
  exact r_X8_init_751 hd hf
def f_X8_init_739 (n : Nat) (v0 : Nat) (s0 : Nat) (s1 : Nat) (h : Hp) : Option Hp :=
  if okI h s1 78 then
  f_X8_init_745 n v0 s0 s1 (hsi h s1 (ix 78) 117)
  else none
set_option maxRecDepth 100000 in
set_option maxHeartbeats 4000000 in
theorem r_X8_init_739 {X : Nat → Int32} {d : Nat} (hd : 5 ≤ (d + 1)) {n : Nat} {v0 : Nat} {s0 : Nat} {s1 : Nat} {h : Hp} {o : Hp} (hf : f_X8_init_739 n v0 s0 s1 h = some o) : Run X (d + 1) 125 739 [some (.ref v0), none] [.ref s1, .ref s0] h (none, o) := by
  unfold f_X8_init_739 at hf
  refine rs_dup i_X8_init_739 rfl ?_
  refine rs_bipush i_X8_init_740 (v := 78) (by decide) ?_
  refine rs_bipush i_X8_init_742 (v := 117) (by decide) ?_
  obtain ⟨c1, hf⟩ := ite_some hf
  refine rs_iast i_X8_init_744 c1 ?_
  exact r_X8_init_745 hd hf
def f_X8_init_733 (n : Nat) (v0 : Nat) (s0 : Nat) (s1 : Nat) (h : Hp) : Option Hp :=
  if okI h s1 77 then
  f_X8_init_739 n v0 s0 s1 (hsi h s1 (ix 77) 100)
  else none
set_option maxRecDepth 100000 in
set_option maxHeartbeats 4000000 in
theorem r_X8_init_733 {X : Nat → Int32} {d : Nat} (hd : 5 ≤ (d + 1)) {n : Nat} {v0 : Nat} {s0 : Nat} {s1 : Nat} {h : Hp} {o : Hp} (hf : f_X8_init_733 n v0 s0 s1 h = some o) : Run X (d + 1) 125 733 [some (.ref v0), none] [.ref s1, .ref s0] h (none, o) := by
  unfold f_X8_init_733 at hf
  refine rs_dup i_X8_init_733 rfl ?_
  refine rs_bipush i_X8_init_734 (v := 77) (by decide) ?_
  refine rs_bipush i_X8_init_736 (v := 100) (by decide) ?_
  obtain ⟨c1, hf⟩ := ite_some hf
  refine rs_iast i_X8_init_738 c1 ?_
  exact r_X8_init_739 hd hf
def f_X8_init_727 (n : Nat) (v0 : Nat) (s0 : Nat) (s1 : Nat) (h : Hp) : Option Hp :=
  if okI h s1 76 then
  f_X8_init_733 n v0 s0 s1 (hsi h s1 (ix 76) 32)
  else none
set_option maxRecDepth 100000 in
set_option maxHeartbeats 4000000 in
theorem r_X8_init_727 {X : Nat → Int32} {d : Nat} (hd : 5 ≤ (d + 1)) {n : Nat} {v0 : Nat} {s0 : Nat} {s1 : Nat} {h : Hp} {o : Hp} (hf : f_X8_init_727 n v0 s0 s1 h = some o) : Run X (d + 1) 125 727 [some (.ref v0), none] [.ref s1, .ref s0] h (none, o) := by
  unfold f_X8_init_727 at hf
  refine rs_dup i_X8_init_727 rfl ?_
  refine rs_bipush i_X8_init_728 (v := 76) (by decide) ?_
  refine rs_bipush i_X8_init_730 (v := 32) (by decide) ?_
  obtain ⟨c1, hf⟩ := ite_some hf
  refine rs_iast i_X8_init_732 c1 ?_
  exact r_X8_init_733 hd hf
def f_X8_init_721 (n : Nat) (v0 : Nat) (s0 : Nat) (s1 : Nat) (h : Hp) : Option Hp :=
  if okI h s1 75 then
  f_X8_init_727 n v0 s0 s1 (hsi h s1 (ix 75) 45)
  else none
set_option maxRecDepth 100000 in
set_option maxHeartbeats 4000000 in
theorem r_X8_init_721 {X : Nat → Int32} {d : Nat} (hd : 5 ≤ (d + 1)) {n : Nat} {v0 : Nat} {s0 : Nat} {s1 : Nat} {h : Hp} {o : Hp} (hf : f_X8_init_721 n v0 s0 s1 h = some o) : Run X (d + 1) 125 721 [some (.ref v0), none] [.ref s1, .ref s0] h (none, o) := by
  unfold f_X8_init_721 at hf
  refine rs_dup i_X8_init_721 rfl ?_
  refine rs_bipush i_X8_init_722 (v := 75) (by decide) ?_
  refine rs_bipush i_X8_init_724 (v := 45) (by decide) ?_
  obtain ⟨c1, hf⟩ := ite_some hf
  refine rs_iast i_X8_init_726 c1 ?_
  exact r_X8_init_727 hd hf
def f_X8_init_715 (n : Nat) (v0 : Nat) (s0 : Nat) (s1 : Nat) (h : Hp) : Option Hp :=
  if okI h s1 74 then
  f_X8_init_721 n v0 s0 s1 (hsi h s1 (ix 74) 32)
  else none
set_option maxRecDepth 100000 in
set_option maxHeartbeats 4000000 in
theorem r_X8_init_715 {X : Nat → Int32} {d : Nat} (hd : 5 ≤ (d + 1)) {n : Nat} {v0 : Nat} {s0 : Nat} {s1 : Nat} {h : Hp} {o : Hp} (hf : f_X8_init_715 n v0 s0 s1 h = some o) : Run X (d + 1) 125 715 [some (.ref v0), none] [.ref s1, .ref s0] h (none, o) := by
  unfold f_X8_init_715 at hf
  refine rs_dup i_X8_init_715 rfl ?_
  refine rs_bipush i_X8_init_716 (v := 74) (by decide) ?_
  refine rs_bipush i_X8_init_718 (v := 32) (by decide) ?_
  obtain ⟨c1, hf⟩ := ite_some hf
  refine rs_iast i_X8_init_720 c1 ?_
  exact r_X8_init_721 hd hf
def f_X8_init_709 (n : Nat) (v0 : Nat) (s0 : Nat) (s1 : Nat) (h : Hp) : Option Hp :=
  if okI h s1 73 then
  f_X8_init_715 n v0 s0 s1 (hsi h s1 (ix 73) 50)
  else none
set_option maxRecDepth 100000 in
set_option maxHeartbeats 4000000 in
theorem r_X8_init_709 {X : Nat → Int32} {d : Nat} (hd : 5 ≤ (d + 1)) {n : Nat} {v0 : Nat} {s0 : Nat} {s1 : Nat} {h : Hp} {o : Hp} (hf : f_X8_init_709 n v0 s0 s1 h = some o) : Run X (d + 1) 125 709 [some (.ref v0), none] [.ref s1, .ref s0] h (none, o) := by
  unfold f_X8_init_709 at hf
  refine rs_dup i_X8_init_709 rfl ?_
  refine rs_bipush i_X8_init_710 (v := 73) (by decide) ?_
  refine rs_bipush i_X8_init_712 (v := 50) (by decide) ?_
  obtain ⟨c1, hf⟩ := ite_some hf
  refine rs_iast i_X8_init_714 c1 ?_
  exact r_X8_init_715 hd hf
def f_X8_init_703 (n : Nat) (v0 : Nat) (s0 : Nat) (s1 : Nat) (h : Hp) : Option Hp :=
  if okI h s1 72 then
  f_X8_init_709 n v0 s0 s1 (hsi h s1 (ix 72) 32)
  else none
set_option maxRecDepth 100000 in
set_option maxHeartbeats 4000000 in
theorem r_X8_init_703 {X : Nat → Int32} {d : Nat} (hd : 5 ≤ (d + 1)) {n : Nat} {v0 : Nat} {s0 : Nat} {s1 : Nat} {h : Hp} {o : Hp} (hf : f_X8_init_703 n v0 s0 s1 h = some o) : Run X (d + 1) 125 703 [some (.ref v0), none] [.ref s1, .ref s0] h (none, o) := by
  unfold f_X8_init_703 at hf
  refine rs_dup i_X8_init_703 rfl ?_
  refine rs_bipush i_X8_init_704 (v := 72) (by decide) ?_
  refine rs_bipush i_X8_init_706 (v := 32) (by decide) ?_
  obtain ⟨c1, hf⟩ := ite_some hf
  refine rs_iast i_X8_init_708 c1 ?_
  exact r_X8_init_709 hd hf
def f_X8_init_697 (n : Nat) (v0 : Nat) (s0 : Nat) (s1 : Nat) (h : Hp) : Option Hp :=
  if okI h s1 71 then
  f_X8_init_703 n v0 s0 s1 (hsi h s1 (ix 71) 42)
  else none
set_option maxRecDepth 100000 in
set_option maxHeartbeats 4000000 in
theorem r_X8_init_697 {X : Nat → Int32} {d : Nat} (hd : 5 ≤ (d + 1)) {n : Nat} {v0 : Nat} {s0 : Nat} {s1 : Nat} {h : Hp} {o : Hp} (hf : f_X8_init_697 n v0 s0 s1 h = some o) : Run X (d + 1) 125 697 [some (.ref v0), none] [.ref s1, .ref s0] h (none, o) := by
  unfold f_X8_init_697 at hf
  refine rs_dup i_X8_init_697 rfl ?_
  refine rs_bipush i_X8_init_698 (v := 71) (by decide) ?_
  refine rs_bipush i_X8_init_700 (v := 42) (by decide) ?_
  obtain ⟨c1, hf⟩ := ite_some hf
  refine rs_iast i_X8_init_702 c1 ?_
  exact r_X8_init_703 hd hf
def f_X8_init_691 (n : Nat) (v0 : Nat) (s0 : Nat) (s1 : Nat) (h : Hp) : Option Hp :=
  if okI h s1 70 then
  f_X8_init_697 n v0 s0 s1 (hsi h s1 (ix 70) 32)
  else none
set_option maxRecDepth 100000 in
set_option maxHeartbeats 4000000 in
theorem r_X8_init_691 {X : Nat → Int32} {d : Nat} (hd : 5 ≤ (d + 1)) {n : Nat} {v0 : Nat} {s0 : Nat} {s1 : Nat} {h : Hp} {o : Hp} (hf : f_X8_init_691 n v0 s0 s1 h = some o) : Run X (d + 1) 125 691 [some (.ref v0), none] [.ref s1, .ref s0] h (none, o) := by
  unfold f_X8_init_691 at hf
  refine rs_dup i_X8_init_691 rfl ?_
  refine rs_bipush i_X8_init_692 (v := 70) (by decide) ?_
  refine rs_bipush i_X8_init_694 (v := 32) (by decide) ?_
  obtain ⟨c1, hf⟩ := ite_some hf
  refine rs_iast i_X8_init_696 c1 ?_
  exact r_X8_init_697 hd hf
def f_X8_init_685 (n : Nat) (v0 : Nat) (s0 : Nat) (s1 : Nat) (h : Hp) : Option Hp :=
  if okI h s1 69 then
  f_X8_init_691 n v0 s0 s1 (hsi h s1 (ix 69) 115)
  else none
set_option maxRecDepth 100000 in
set_option maxHeartbeats 4000000 in
theorem r_X8_init_685 {X : Nat → Int32} {d : Nat} (hd : 5 ≤ (d + 1)) {n : Nat} {v0 : Nat} {s0 : Nat} {s1 : Nat} {h : Hp} {o : Hp} (hf : f_X8_init_685 n v0 s0 s1 h = some o) : Run X (d + 1) 125 685 [some (.ref v0), none] [.ref s1, .ref s0] h (none, o) := by
  unfold f_X8_init_685 at hf
  refine rs_dup i_X8_init_685 rfl ?_
  refine rs_bipush i_X8_init_686 (v := 69) (by decide) ?_
  refine rs_bipush i_X8_init_688 (v := 115) (by decide) ?_
  obtain ⟨c1, hf⟩ := ite_some hf
  refine rs_iast i_X8_init_690 c1 ?_
  exact r_X8_init_691 hd hf
def f_X8_init_679 (n : Nat) (v0 : Nat) (s0 : Nat) (s1 : Nat) (h : Hp) : Option Hp :=
  if okI h s1 68 then
  f_X8_init_685 n v0 s0 s1 (hsi h s1 (ix 68) 100)
  else none
set_option maxRecDepth 100000 in
set_option maxHeartbeats 4000000 in
theorem r_X8_init_679 {X : Nat → Int32} {d : Nat} (hd : 5 ≤ (d + 1)) {n : Nat} {v0 : Nat} {s0 : Nat} {s1 : Nat} {h : Hp} {o : Hp} (hf : f_X8_init_679 n v0 s0 s1 h = some o) : Run X (d + 1) 125 679 [some (.ref v0), none] [.ref s1, .ref s0] h (none, o) := by
  unfold f_X8_init_679 at hf
  refine rs_dup i_X8_init_679 rfl ?_
  refine rs_bipush i_X8_init_680 (v := 68) (by decide) ?_
  refine rs_bipush i_X8_init_682 (v := 100) (by decide) ?_
  obtain ⟨c1, hf⟩ := ite_some hf
  refine rs_iast i_X8_init_684 c1 ?_
  exact r_X8_init_685 hd hf
def f_X8_init_673 (n : Nat) (v0 : Nat) (s0 : Nat) (s1 : Nat) (h : Hp) : Option Hp :=
  if okI h s1 67 then
  f_X8_init_679 n v0 s0 s1 (hsi h s1 (ix 67) 108)
  else none
set_option maxRecDepth 100000 in
set_option maxHeartbeats 4000000 in
theorem r_X8_init_673 {X : Nat → Int32} {d : Nat} (hd : 5 ≤ (d + 1)) {n : Nat} {v0 : Nat} {s0 : Nat} {s1 : Nat} {h : Hp} {o : Hp} (hf : f_X8_init_673 n v0 s0 s1 h = some o) : Run X (d + 1) 125 673 [some (.ref v0), none] [.ref s1, .ref s0] h (none, o) := by
  unfold f_X8_init_673 at hf
  refine rs_dup i_X8_init_673 rfl ?_
  refine rs_bipush i_X8_init_674 (v := 67) (by decide) ?_
  refine rs_bipush i_X8_init_676 (v := 108) (by decide) ?_
  obtain ⟨c1, hf⟩ := ite_some hf
  refine rs_iast i_X8_init_678 c1 ?_
  exact r_X8_init_679 hd hf
def f_X8_init_667 (n : Nat) (v0 : Nat) (s0 : Nat) (s1 : Nat) (h : Hp) : Option Hp :=
  if okI h s1 66 then
  f_X8_init_673 n v0 s0 s1 (hsi h s1 (ix 66) 111)
  else none
set_option maxRecDepth 100000 in
set_option maxHeartbeats 4000000 in
theorem r_X8_init_667 {X : Nat → Int32} {d : Nat} (hd : 5 ≤ (d + 1)) {n : Nat} {v0 : Nat} {s0 : Nat} {s1 : Nat} {h : Hp} {o : Hp} (hf : f_X8_init_667 n v0 s0 s1 h = some o) : Run X (d + 1) 125 667 [some (.ref v0), none] [.ref s1, .ref s0] h (none, o) := by
  unfold f_X8_init_667 at hf
  refine rs_dup i_X8_init_667 rfl ?_
  refine rs_bipush i_X8_init_668 (v := 66) (by decide) ?_
  refine rs_bipush i_X8_init_670 (v := 111) (by decide) ?_
  obtain ⟨c1, hf⟩ := ite_some hf
  refine rs_iast i_X8_init_672 c1 ?_
  exact r_X8_init_673 hd hf
def f_X8_init_661 (n : Nat) (v0 : Nat) (s0 : Nat) (s1 : Nat) (h : Hp) : Option Hp :=
  if okI h s1 65 then
  f_X8_init_667 n v0 s0 s1 (hsi h s1 (ix 65) 102)
  else none
set_option maxRecDepth 100000 in
set_option maxHeartbeats 4000000 in
theorem r_X8_init_661 {X : Nat → Int32} {d : Nat} (hd : 5 ≤ (d + 1)) {n : Nat} {v0 : Nat} {s0 : Nat} {s1 : Nat} {h : Hp} {o : Hp} (hf : f_X8_init_661 n v0 s0 s1 h = some o) : Run X (d + 1) 125 661 [some (.ref v0), none] [.ref s1, .ref s0] h (none, o) := by
  unfold f_X8_init_661 at hf
  refine rs_dup i_X8_init_661 rfl ?_
  refine rs_bipush i_X8_init_662 (v := 65) (by decide) ?_
  refine rs_bipush i_X8_init_664 (v := 102) (by decide) ?_
  obtain ⟨c1, hf⟩ := ite_some hf
  refine rs_iast i_X8_init_666 c1 ?_
  exact r_X8_init_667 hd hf
def f_X8_init_655 (n : Nat) (v0 : Nat) (s0 : Nat) (s1 : Nat) (h : Hp) : Option Hp :=
  if okI h s1 64 then
  f_X8_init_661 n v0 s0 s1 (hsi h s1 (ix 64) 32)
  else none
set_option maxRecDepth 100000 in
set_option maxHeartbeats 4000000 in
theorem r_X8_init_655 {X : Nat → Int32} {d : Nat} (hd : 5 ≤ (d + 1)) {n : Nat} {v0 : Nat} {s0 : Nat} {s1 : Nat} {h : Hp} {o : Hp} (hf : f_X8_init_655 n v0 s0 s1 h = some o) : Run X (d + 1) 125 655 [some (.ref v0), none] [.ref s1, .ref s0] h (none, o) := by
  unfold f_X8_init_655 at hf
  refine rs_dup i_X8_init_655 rfl ?_
  refine rs_bipush i_X8_init_656 (v := 64) (by decide) ?_
  refine rs_bipush i_X8_init_658 (v := 32) (by decide) ?_
  obtain ⟨c1, hf⟩ := ite_some hf
  refine rs_iast i_X8_init_660 c1 ?_
  exact r_X8_init_661 hd hf
def f_X8_init_649 (n : Nat) (v0 : Nat) (s0 : Nat) (s1 : Nat) (h : Hp) : Option Hp :=
  if okI h s1 63 then
  f_X8_init_655 n v0 s0 s1 (hsi h s1 (ix 63) 115)
  else none
set_option maxRecDepth 100000 in
set_option maxHeartbeats 4000000 in
theorem r_X8_init_649 {X : Nat → Int32} {d : Nat} (hd : 5 ≤ (d + 1)) {n : Nat} {v0 : Nat} {s0 : Nat} {s1 : Nat} {h : Hp} {o : Hp} (hf : f_X8_init_649 n v0 s0 s1 h = some o) : Run X (d + 1) 125 649 [some (.ref v0), none] [.ref s1, .ref s0] h (none, o) := by
  unfold f_X8_init_649 at hf
  refine rs_dup i_X8_init_649 rfl ?_
  refine rs_bipush i_X8_init_650 (v := 63) (by decide) ?_
  refine rs_bipush i_X8_init_652 (v := 115) (by decide) ?_
  obtain ⟨c1, hf⟩ := ite_some hf
  refine rs_iast i_X8_init_654 c1 ?_
  exact r_X8_init_655 hd hf
def f_X8_init_643 (n : Nat) (v0 : Nat) (s0 : Nat) (s1 : Nat) (h : Hp) : Option Hp :=
  if okI h s1 62 then
  f_X8_init_649 n v0 s0 s1 (hsi h s1 (ix 62) 107)
  else none
set_option maxRecDepth 100000 in
set_option maxHeartbeats 4000000 in
theorem r_X8_init_643 {X : Nat → Int32} {d : Nat} (hd : 5 ≤ (d + 1)) {n : Nat} {v0 : Nat} {s0 : Nat} {s1 : Nat} {h : Hp} {o : Hp} (hf : f_X8_init_643 n v0 s0 s1 h = some o) : Run X (d + 1) 125 643 [some (.ref v0), none] [.ref s1, .ref s0] h (none, o) := by
  unfold f_X8_init_643 at hf
  refine rs_dup i_X8_init_643 rfl ?_
  refine rs_bipush i_X8_init_644 (v := 62) (by decide) ?_
  refine rs_bipush i_X8_init_646 (v := 107) (by decide) ?_
  obtain ⟨c1, hf⟩ := ite_some hf
  refine rs_iast i_X8_init_648 c1 ?_
  exact r_X8_init_649 hd hf
def f_X8_init_637 (n : Nat) (v0 : Nat) (s0 : Nat) (s1 : Nat) (h : Hp) : Option Hp :=
  if okI h s1 61 then
  f_X8_init_643 n v0 s0 s1 (hsi h s1 (ix 61) 99)
  else none
set_option maxRecDepth 100000 in
set_option maxHeartbeats 4000000 in
theorem r_X8_init_637 {X : Nat → Int32} {d : Nat} (hd : 5 ≤ (d + 1)) {n : Nat} {v0 : Nat} {s0 : Nat} {s1 : Nat} {h : Hp} {o : Hp} (hf : f_X8_init_637 n v0 s0 s1 h = some o) : Run X (d + 1) 125 637 [some (.ref v0), none] [.ref s1, .ref s0] h (none, o) := by
  unfold f_X8_init_637 at hf
  refine rs_dup i_X8_init_637 rfl ?_
  refine rs_bipush i_X8_init_638 (v := 61) (by decide) ?_
  refine rs_bipush i_X8_init_640 (v := 99) (by decide) ?_
  obtain ⟨c1, hf⟩ := ite_some hf
  refine rs_iast i_X8_init_642 c1 ?_
  exact r_X8_init_643 hd hf
def f_X8_init_631 (n : Nat) (v0 : Nat) (s0 : Nat) (s1 : Nat) (h : Hp) : Option Hp :=
  if okI h s1 60 then
  f_X8_init_637 n v0 s0 s1 (hsi h s1 (ix 60) 105)
  else none
set_option maxRecDepth 100000 in
set_option maxHeartbeats 4000000 in
theorem r_X8_init_631 {X : Nat → Int32} {d : Nat} (hd : 5 ≤ (d + 1)) {n : Nat} {v0 : Nat} {s0 : Nat} {s1 : Nat} {h : Hp} {o : Hp} (hf : f_X8_init_631 n v0 s0 s1 h = some o) : Run X (d + 1) 125 631 [some (.ref v0), none] [.ref s1, .ref s0] h (none, o) := by
  unfold f_X8_init_631 at hf
  refine rs_dup i_X8_init_631 rfl ?_
  refine rs_bipush i_X8_init_632 (v := 60) (by decide) ?_
  refine rs_bipush i_X8_init_634 (v := 105) (by decide) ?_
  obtain ⟨c1, hf⟩ := ite_some hf
  refine rs_iast i_X8_init_636 c1 ?_
  exact r_X8_init_637 hd hf
def f_X8_init_625 (n : Nat) (v0 : Nat) (s0 : Nat) (s1 : Nat) (h : Hp) : Option Hp :=
  if okI h s1 59 then
  f_X8_init_631 n v0 s0 s1 (hsi h s1 (ix 59) 116)
  else none
set_option maxRecDepth 100000 in
set_option maxHeartbeats 4000000 in
theorem r_X8_init_625 {X : Nat → Int32} {d : Nat} (hd : 5 ≤ (d + 1)) {n : Nat} {v0 : Nat} {s0 : Nat} {s1 : Nat} {h : Hp} {o : Hp} (hf : f_X8_init_625 n v0 s0 s1 h = some o) : Run X (d + 1) 125 625 [some (.ref v0), none] [.ref s1, .ref s0] h (none, o) := by
  unfold f_X8_init_625 at hf
  refine rs_dup i_X8_init_625 rfl ?_
  refine rs_bipush i_X8_init_626 (v := 59) (by decide) ?_
  refine rs_bipush i_X8_init_628 (v := 116) (by decide) ?_
  obtain ⟨c1, hf⟩ := ite_some hf
  refine rs_iast i_X8_init_630 c1 ?_
  exact r_X8_init_631 hd hf
def f_X8_init_619 (n : Nat) (v0 : Nat) (s0 : Nat) (s1 : Nat) (h : Hp) : Option Hp :=
  if okI h s1 58 then
  f_X8_init_625 n v0 s0 s1 (hsi h s1 (ix 58) 115)
  else none
set_option maxRecDepth 100000 in
set_option maxHeartbeats 4000000 in
theorem r_X8_init_619 {X : Nat → Int32} {d : Nat} (hd : 5 ≤ (d + 1)) {n : Nat} {v0 : Nat} {s0 : Nat} {s1 : Nat} {h : Hp} {o : Hp} (hf : f_X8_init_619 n v0 s0 s1 h = some o) : Run X (d + 1) 125 619 [some (.ref v0), none] [.ref s1, .ref s0] h (none, o) := by
  unfold f_X8_init_619 at hf
  refine rs_dup i_X8_init_619 rfl ?_
  refine rs_bipush i_X8_init_620 (v := 58) (by decide) ?_
  refine rs_bipush i_X8_init_622 (v := 115) (by decide) ?_
  obtain ⟨c1, hf⟩ := ite_some hf
  refine rs_iast i_X8_init_624 c1 ?_
  exact r_X8_init_625 hd hf
def f_X8_init_613 (n : Nat) (v0 : Nat) (s0 : Nat) (s1 : Nat) (h : Hp) : Option Hp :=
  if okI h s1 57 then
  f_X8_init_619 n v0 s0 s1 (hsi h s1 (ix 57) 32)
  else none
set_option maxRecDepth 100000 in
set_option maxHeartbeats 4000000 in
theorem r_X8_init_613 {X : Nat → Int32} {d : Nat} (hd : 5 ≤ (d + 1)) {n : Nat} {v0 : Nat} {s0 : Nat} {s1 : Nat} {h : Hp} {o : Hp} (hf : f_X8_init_613 n v0 s0 s1 h = some o) : Run X (d + 1) 125 613 [some (.ref v0), none] [.ref s1, .ref s0] h (none, o) := by
  unfold f_X8_init_613 at hf
  refine rs_dup i_X8_init_613 rfl ?_
  refine rs_bipush i_X8_init_614 (v := 57) (by decide) ?_
  refine rs_bipush i_X8_init_616 (v := 32) (by decide) ?_
  obtain ⟨c1, hf⟩ := ite_some hf
  refine rs_iast i_X8_init_618 c1 ?_
  exact r_X8_init_619 hd hf
def f_X8_init_607 (n : Nat) (v0 : Nat) (s0 : Nat) (s1 : Nat) (h : Hp) : Option Hp :=
  if okI h s1 56 then
  f_X8_init_613 n v0 s0 s1 (hsi h s1 (ix 56) 59)
  else none
set_option maxRecDepth 100000 in
set_option maxHeartbeats 4000000 in
theorem r_X8_init_607 {X : Nat → Int32} {d : Nat} (hd : 5 ≤ (d + 1)) {n : Nat} {v0 : Nat} {s0 : Nat} {s1 : Nat} {h : Hp} {o : Hp} (hf : f_X8_init_607 n v0 s0 s1 h = some o) : Run X (d + 1) 125 607 [some (.ref v0), none] [.ref s1, .ref s0] h (none, o) := by
  unfold f_X8_init_607 at hf
  refine rs_dup i_X8_init_607 rfl ?_
  refine rs_bipush i_X8_init_608 (v := 56) (by decide) ?_
  refine rs_bipush i_X8_init_610 (v := 59) (by decide) ?_
  obtain ⟨c1, hf⟩ := ite_some hf
  refine rs_iast i_X8_init_612 c1 ?_
  exact r_X8_init_613 hd hf
def f_X8_init_601 (n : Nat) (v0 : Nat) (s0 : Nat) (s1 : Nat) (h : Hp) : Option Hp :=
  if okI h s1 55 then
  f_X8_init_607 n v0 s0 s1 (hsi h s1 (ix 55) 32)
  else none
set_option maxRecDepth 100000 in
set_option maxHeartbeats 4000000 in
theorem r_X8_init_601 {X : Nat → Int32} {d : Nat} (hd : 5 ≤ (d + 1)) {n : Nat} {v0 : Nat} {s0 : Nat} {s1 : Nat} {h : Hp} {o : Hp} (hf : f_X8_init_601 n v0 s0 s1 h = some o) : Run X (d + 1) 125 601 [some (.ref v0), none] [.ref s1, .ref s0] h (none, o) := by
  unfold f_X8_init_601 at hf
  refine rs_dup i_X8_init_601 rfl ?_
  refine rs_bipush i_X8_init_602 (v := 55) (by decide) ?_
  refine rs_bipush i_X8_init_604 (v := 32) (by decide) ?_
  obtain ⟨c1, hf⟩ := ite_some hf
  refine rs_iast i_X8_init_606 c1 ?_
  exact r_X8_init_607 hd hf
def f_X8_init_595 (n : Nat) (v0 : Nat) (s0 : Nat) (s1 : Nat) (h : Hp) : Option Hp :=
  if okI h s1 54 then
  f_X8_init_601 n v0 s0 s1 (hsi h s1 (ix 54) 107)
  else none
set_option maxRecDepth 100000 in
set_option maxHeartbeats 4000000 in
theorem r_X8_init_595 {X : Nat → Int32} {d : Nat} (hd : 5 ≤ (d + 1)) {n : Nat} {v0 : Nat} {s0 : Nat} {s1 : Nat} {h : Hp} {o : Hp} (hf : f_X8_init_595 n v0 s0 s1 h = some o) : Run X (d + 1) 125 595 [some (.ref v0), none] [.ref s1, .ref s0] h (none, o) := by
  unfold f_X8_init_595 at hf
  refine rs_dup i_X8_init_595 rfl ?_
  refine rs_bipush i_X8_init_596 (v := 54) (by decide) ?_
  refine rs_bipush i_X8_init_598 (v := 107) (by decide) ?_
  obtain ⟨c1, hf⟩ := ite_some hf
  refine rs_iast i_X8_init_600 c1 ?_
  exact r_X8_init_601 hd hf
def f_X8_init_589 (n : Nat) (v0 : Nat) (s0 : Nat) (s1 : Nat) (h : Hp) : Option Hp :=
  if okI h s1 53 then
  f_X8_init_595 n v0 s0 s1 (hsi h s1 (ix 53) 99)
  else none
set_option maxRecDepth 100000 in
set_option maxHeartbeats 4000000 in
theorem r_X8_init_589 {X : Nat → Int32} {d : Nat} (hd : 5 ≤ (d + 1)) {n : Nat} {v0 : Nat} {s0 : Nat} {s1 : Nat} {h : Hp} {o : Hp} (hf : f_X8_init_589 n v0 s0 s1 h = some o) : Run X (d + 1) 125 589 [some (.ref v0), none] [.ref s1, .ref s0] h (none, o) := by
  unfold f_X8_init_589 at hf
  refine rs_dup i_X8_init_589 rfl ?_
  refine rs_bipush i_X8_init_590 (v := 53) (by decide) ?_
  refine rs_bipush i_X8_init_592 (v := 99) (by decide) ?_
  obtain ⟨c1, hf⟩ := ite_some hf
  refine rs_iast i_X8_init_594 c1 ?_
  exact r_X8_init_595 hd hf
def f_X8_init_583 (n : Nat) (v0 : Nat) (s0 : Nat) (s1 : Nat) (h : Hp) : Option Hp :=
  if okI h s1 52 then
  f_X8_init_589 n v0 s0 s1 (hsi h s1 (ix 52) 105)
  else none
set_option maxRecDepth 100000 in
set_option maxHeartbeats 4000000 in
theorem r_X8_init_583 {X : Nat → Int32} {d : Nat} (hd : 5 ≤ (d + 1)) {n : Nat} {v0 : Nat} {s0 : Nat} {s1 : Nat} {h : Hp} {o : Hp} (hf : f_X8_init_583 n v0 s0 s1 h = some o) : Run X (d + 1) 125 583 [some (.ref v0), none] [.ref s1, .ref s0] h (none, o) := by
  unfold f_X8_init_583 at hf
  refine rs_dup i_X8_init_583 rfl ?_
  refine rs_bipush i_X8_init_584 (v := 52) (by decide) ?_
  refine rs_bipush i_X8_init_586 (v := 105) (by decide) ?_
  obtain ⟨c1, hf⟩ := ite_some hf
  refine rs_iast i_X8_init_588 c1 ?_
  exact r_X8_init_589 hd hf
def f_X8_init_577 (n : Nat) (v0 : Nat) (s0 : Nat) (s1 : Nat) (h : Hp) : Option Hp :=
  if okI h s1 51 then
  f_X8_init_583 n v0 s0 s1 (hsi h s1 (ix 51) 104)
  else none
set_option maxRecDepth 100000 in
set_option maxHeartbeats 4000000 in
theorem r_X8_init_577 {X : Nat → Int32} {d : Nat} (hd : 5 ≤ (d + 1)) {n : Nat} {v0 : Nat} {s0 : Nat} {s1 : Nat} {h : Hp} {o : Hp} (hf : f_X8_init_577 n v0 s0 s1 h = some o) : Run X (d + 1) 125 577 [some (.ref v0), none] [.ref s1, .ref s0] h (none, o) := by
  unfold f_X8_init_577 at hf
  refine rs_dup i_X8_init_577 rfl ?_
  refine rs_bipush i_X8_init_578 (v := 51) (by decide) ?_
  refine rs_bipush i_X8_init_580 (v := 104) (by decide) ?_
  obtain ⟨c1, hf⟩ := ite_some hf
  refine rs_iast i_X8_init_582 c1 ?_
  exact r_X8_init_583 hd hf
def f_X8_init_571 (n : Nat) (v0 : Nat) (s0 : Nat) (s1 : Nat) (h : Hp) : Option Hp :=
  if okI h s1 50 then
  f_X8_init_577 n v0 s0 s1 (hsi h s1 (ix 50) 116)
  else none
set_option maxRecDepth 100000 in
set_option maxHeartbeats 4000000 in
theorem r_X8_init_571 {X : Nat → Int32} {d : Nat} (hd : 5 ≤ (d + 1)) {n : Nat} {v0 : Nat} {s0 : Nat} {s1 : Nat} {h : Hp} {o : Hp} (hf : f_X8_init_571 n v0 s0 s1 h = some o) : Run X (d + 1) 125 571 [some (.ref v0), none] [.ref s1, .ref s0] h (none, o) := by
  unfold f_X8_init_571 at hf
  refine rs_dup i_X8_init_571 rfl ?_
  refine rs_bipush i_X8_init_572 (v := 50) (by decide) ?_
  refine rs_bipush i_X8_init_574 (v := 116) (by decide) ?_
  obtain ⟨c1, hf⟩ := ite_some hf
  refine rs_iast i_X8_init_576 c1 ?_
  exact r_X8_init_577 hd hf
def f_X8_init_565 (n : Nat) (v0 : Nat) (s0 : Nat) (s1 : Nat) (h : Hp) : Option Hp :=
  if okI h s1 49 then
  f_X8_init_571 n v0 s0 s1 (hsi h s1 (ix 49) 32)
  else none
set_option maxRecDepth 100000 in
set_option maxHeartbeats 4000000 in
theorem r_X8_init_565 {X : Nat → Int32} {d : Nat} (hd : 5 ≤ (d + 1)) {n : Nat} {v0 : Nat} {s0 : Nat} {s1 : Nat} {h : Hp} {o : Hp} (hf : f_X8_init_565 n v0 s0 s1 h = some o) : Run X (d + 1) 125 565 [some (.ref v0), none] [.ref s1, .ref s0] h (none, o) := by
  unfold f_X8_init_565 at hf
  refine rs_dup i_X8_init_565 rfl ?_
  refine rs_bipush i_X8_init_566 (v := 49) (by decide) ?_
  refine rs_bipush i_X8_init_568 (v := 32) (by decide) ?_
  obtain ⟨c1, hf⟩ := ite_some hf
  refine rs_iast i_X8_init_570 c1 ?_
  exact r_X8_init_571 hd hf
def f_X8_init_559 (n : Nat) (v0 : Nat) (s0 : Nat) (s1 : Nat) (h : Hp) : Option Hp :=
  if okI h s1 48 then
  f_X8_init_565 n v0 s0 s1 (hsi h s1 (ix 48) 45)
  else none
set_option maxRecDepth 100000 in
set_option maxHeartbeats 4000000 in
theorem r_X8_init_559 {X : Nat → Int32} {d : Nat} (hd : 5 ≤ (d + 1)) {n : Nat} {v0 : Nat} {s0 : Nat} {s1 : Nat} {h : Hp} {o : Hp} (hf : f_X8_init_559 n v0 s0 s1 h = some o) : Run X (d + 1) 125 559 [some (.ref v0), none] [.ref s1, .ref s0] h (none, o) := by
  unfold f_X8_init_559 at hf
  refine rs_dup i_X8_init_559 rfl ?_
  refine rs_bipush i_X8_init_560 (v := 48) (by decide) ?_
  refine rs_bipush i_X8_init_562 (v := 45) (by decide) ?_
  obtain ⟨c1, hf⟩ := ite_some hf
  refine rs_iast i_X8_init_564 c1 ?_
  exact r_X8_init_565 hd hf
def f_X8_init_553 (n : Nat) (v0 : Nat) (s0 : Nat) (s1 : Nat) (h : Hp) : Option Hp :=
  if okI h s1 47 then
  f_X8_init_559 n v0 s0 s1 (hsi h s1 (ix 47) 32)
  else none
set_option maxRecDepth 100000 in
set_option maxHeartbeats 4000000 in
theorem r_X8_init_553 {X : Nat → Int32} {d : Nat} (hd : 5 ≤ (d + 1)) {n : Nat} {v0 : Nat} {s0 : Nat} {s1 : Nat} {h : Hp} {o : Hp} (hf : f_X8_init_553 n v0 s0 s1 h = some o) : Run X (d + 1) 125 553 [some (.ref v0), none] [.ref s1, .ref s0] h (none, o) := by
  unfold f_X8_init_553 at hf
  refine rs_dup i_X8_init_553 rfl ?_
  refine rs_bipush i_X8_init_554 (v := 47) (by decide) ?_
  refine rs_bipush i_X8_init_556 (v := 32) (by decide) ?_
  obtain ⟨c1, hf⟩ := ite_some hf
  refine rs_iast i_X8_init_558 c1 ?_
  exact r_X8_init_559 hd hf
def f_X8_init_547 (n : Nat) (v0 : Nat) (s0 : Nat) (s1 : Nat) (h : Hp) : Option Hp :=
  if okI h s1 46 then
  f_X8_init_553 n v0 s0 s1 (hsi h s1 (ix 46) 57)
  else none
set_option maxRecDepth 100000 in
set_option maxHeartbeats 4000000 in
theorem r_X8_init_547 {X : Nat → Int32} {d : Nat} (hd : 5 ≤ (d + 1)) {n : Nat} {v0 : Nat} {s0 : Nat} {s1 : Nat} {h : Hp} {o : Hp} (hf : f_X8_init_547 n v0 s0 s1 h = some o) : Run X (d + 1) 125 547 [some (.ref v0), none] [.ref s1, .ref s0] h (none, o) := by
  unfold f_X8_init_547 at hf
  refine rs_dup i_X8_init_547 rfl ?_
  refine rs_bipush i_X8_init_548 (v := 46) (by decide) ?_
  refine rs_bipush i_X8_init_550 (v := 57) (by decide) ?_
  obtain ⟨c1, hf⟩ := ite_some hf
  refine rs_iast i_X8_init_552 c1 ?_
  exact r_X8_init_553 hd hf
def f_X8_init_541 (n : Nat) (v0 : Nat) (s0 : Nat) (s1 : Nat) (h : Hp) : Option Hp :=
  if okI h s1 45 then
  f_X8_init_547 n v0 s0 s1 (hsi h s1 (ix 45) 32)
  else none
set_option maxRecDepth 100000 in
set_option maxHeartbeats 4000000 in
theorem r_X8_init_541 {X : Nat → Int32} {d : Nat} (hd : 5 ≤ (d + 1)) {n : Nat} {v0 : Nat} {s0 : Nat} {s1 : Nat} {h : Hp} {o : Hp} (hf : f_X8_init_541 n v0 s0 s1 h = some o) : Run X (d + 1) 125 541 [some (.ref v0), none] [.ref s1, .ref s0] h (none, o) := by
  unfold f_X8_init_541 at hf
  refine rs_dup i_X8_init_541 rfl ?_
  refine rs_bipush i_X8_init_542 (v := 45) (by decide) ?_
  refine rs_bipush i_X8_init_544 (v := 32) (by decide) ?_
  obtain ⟨c1, hf⟩ := ite_some hf
  refine rs_iast i_X8_init_546 c1 ?_
  exact r_X8_init_547 hd hf
def f_X8_init_535 (n : Nat) (v0 : Nat) (s0 : Nat) (s1 : Nat) (h : Hp) : Option Hp :=
  if okI h s1 44 then
  f_X8_init_541 n v0 s0 s1 (hsi h s1 (ix 44) 42)
  else none
set_option maxRecDepth 100000 in
set_option maxHeartbeats 4000000 in
theorem r_X8_init_535 {X : Nat → Int32} {d : Nat} (hd : 5 ≤ (d + 1)) {n : Nat} {v0 : Nat} {s0 : Nat} {s1 : Nat} {h : Hp} {o : Hp} (hf : f_X8_init_535 n v0 s0 s1 h = some o) : Run X (d + 1) 125 535 [some (.ref v0), none] [.ref s1, .ref s0] h (none, o) := by
  unfold f_X8_init_535 at hf
  refine rs_dup i_X8_init_535 rfl ?_
  refine rs_bipush i_X8_init_536 (v := 44) (by decide) ?_
  refine rs_bipush i_X8_init_538 (v := 42) (by decide) ?_
  obtain ⟨c1, hf⟩ := ite_some hf
  refine rs_iast i_X8_init_540 c1 ?_
  exact r_X8_init_541 hd hf
def f_X8_init_529 (n : Nat) (v0 : Nat) (s0 : Nat) (s1 : Nat) (h : Hp) : Option Hp :=
  if okI h s1 43 then
  f_X8_init_535 n v0 s0 s1 (hsi h s1 (ix 43) 32)
  else none
set_option maxRecDepth 100000 in
set_option maxHeartbeats 4000000 in
theorem r_X8_init_529 {X : Nat → Int32} {d : Nat} (hd : 5 ≤ (d + 1)) {n : Nat} {v0 : Nat} {s0 : Nat} {s1 : Nat} {h : Hp} {o : Hp} (hf : f_X8_init_529 n v0 s0 s1 h = some o) : Run X (d + 1) 125 529 [some (.ref v0), none] [.ref s1, .ref s0] h (none, o) := by
  unfold f_X8_init_529 at hf
  refine rs_dup i_X8_init_529 rfl ?_
  refine rs_bipush i_X8_init_530 (v := 43) (by decide) ?_
  refine rs_bipush i_X8_init_532 (v := 32) (by decide) ?_
  obtain ⟨c1, hf⟩ := ite_some hf
  refine rs_iast i_X8_init_534 c1 ?_
  exact r_X8_init_535 hd hf
def f_X8_init_523 (n : Nat) (v0 : Nat) (s0 : Nat) (s1 : Nat) (h : Hp) : Option Hp :=
  if okI h s1 42 then
  f_X8_init_529 n v0 s0 s1 (hsi h s1 (ix 42) 101)
  else none
set_option maxRecDepth 100000 in
set_option maxHeartbeats 4000000 in
theorem r_X8_init_523 {X : Nat → Int32} {d : Nat} (hd : 5 ≤ (d + 1)) {n : Nat} {v0 : Nat} {s0 : Nat} {s1 : Nat} {h : Hp} {o : Hp} (hf : f_X8_init_523 n v0 s0 s1 h = some o) : Run X (d + 1) 125 523 [some (.ref v0), none] [.ref s1, .ref s0] h (none, o) := by
  unfold f_X8_init_523 at hf
  refine rs_dup i_X8_init_523 rfl ?_
  refine rs_bipush i_X8_init_524 (v := 42) (by decide) ?_
  refine rs_bipush i_X8_init_526 (v := 101) (by decide) ?_
  obtain ⟨c1, hf⟩ := ite_some hf
  refine rs_iast i_X8_init_528 c1 ?_
  exact r_X8_init_529 hd hf
def f_X8_init_517 (n : Nat) (v0 : Nat) (s0 : Nat) (s1 : Nat) (h : Hp) : Option Hp :=
  if okI h s1 41 then
  f_X8_init_523 n v0 s0 s1 (hsi h s1 (ix 41) 99)
  else none
set_option maxRecDepth 100000 in
set_option maxHeartbeats 4000000 in
theorem r_X8_init_517 {X : Nat → Int32} {d : Nat} (hd : 5 ≤ (d + 1)) {n : Nat} {v0 : Nat} {s0 : Nat} {s1 : Nat} {h : Hp} {o : Hp} (hf : f_X8_init_517 n v0 s0 s1 h = some o) : Run X (d + 1) 125 517 [some (.ref v0), none] [.ref s1, .ref s0] h (none, o) := by
  unfold f_X8_init_517 at hf
  refine rs_dup i_X8_init_517 rfl ?_
  refine rs_bipush i_X8_init_518 (v := 41) (by decide) ?_
  refine rs_bipush i_X8_init_520 (v := 99) (by decide) ?_
  obtain ⟨c1, hf⟩ := ite_some hf
  refine rs_iast i_X8_init_522 c1 ?_
  exact r_X8_init_523 hd hf
def f_X8_init_511 (n : Nat) (v0 : Nat) (s0 : Nat) (s1 : Nat) (h : Hp) : Option Hp :=
  if okI h s1 40 then
  f_X8_init_517 n v0 s0 s1 (hsi h s1 (ix 40) 97)
  else none
set_option maxRecDepth 100000 in
set_option maxHeartbeats 4000000 in
theorem r_X8_init_511 {X : Nat → Int32} {d : Nat} (hd : 5 ≤ (d + 1)) {n : Nat} {v0 : Nat} {s0 : Nat} {s1 : Nat} {h : Hp} {o : Hp} (hf : f_X8_init_511 n v0 s0 s1 h = some o) : Run X (d + 1) 125 511 [some (.ref v0), none] [.ref s1, .ref s0] h (none, o) := by
  unfold f_X8_init_511 at hf
  refine rs_dup i_X8_init_511 rfl ?_
  refine rs_bipush i_X8_init_512 (v := 40) (by decide) ?_
  refine rs_bipush i_X8_init_514 (v := 97) (by decide) ?_
  obtain ⟨c1, hf⟩ := ite_some hf
  refine rs_iast i_X8_init_516 c1 ?_
  exact r_X8_init_517 hd hf
def f_X8_init_505 (n : Nat) (v0 : Nat) (s0 : Nat) (s1 : Nat) (h : Hp) : Option Hp :=
  if okI h s1 39 then
  f_X8_init_511 n v0 s0 s1 (hsi h s1 (ix 39) 112)
  else none
set_option maxRecDepth 100000 in
set_option maxHeartbeats 4000000 in
theorem r_X8_init_505 {X : Nat → Int32} {d : Nat} (hd : 5 ≤ (d + 1)) {n : Nat} {v0 : Nat} {s0 : Nat} {s1 : Nat} {h : Hp} {o : Hp} (hf : f_X8_init_505 n v0 s0 s1 h = some o) : Run X (d + 1) 125 505 [some (.ref v0), none] [.ref s1, .ref s0] h (none, o) := by
  unfold f_X8_init_505 at hf
  refine rs_dup i_X8_init_505 rfl ?_
  refine rs_bipush i_X8_init_506 (v := 39) (by decide) ?_
  refine rs_bipush i_X8_init_508 (v := 112) (by decide) ?_
  obtain ⟨c1, hf⟩ := ite_some hf
  refine rs_iast i_X8_init_510 c1 ?_
  exact r_X8_init_511 hd hf
def f_X8_init_499 (n : Nat) (v0 : Nat) (s0 : Nat) (s1 : Nat) (h : Hp) : Option Hp :=
  if okI h s1 38 then
  f_X8_init_505 n v0 s0 s1 (hsi h s1 (ix 38) 32)
  else none
set_option maxRecDepth 100000 in
set_option maxHeartbeats 4000000 in
theorem r_X8_init_499 {X : Nat → Int32} {d : Nat} (hd : 5 ≤ (d + 1)) {n : Nat} {v0 : Nat} {s0 : Nat} {s1 : Nat} {h : Hp} {o : Hp} (hf : f_X8_init_499 n v0 s0 s1 h = some o) : Run X (d + 1) 125 499 [some (.ref v0), none] [.ref s1, .ref s0] h (none, o) := by
  unfold f_X8_init_499 at hf
  refine rs_dup i_X8_init_499 rfl ?_
  refine rs_bipush i_X8_init_500 (v := 38) (by decide) ?_
  refine rs_bipush i_X8_init_502 (v := 32) (by decide) ?_
  obtain ⟨c1, hf⟩ := ite_some hf
  refine rs_iast i_X8_init_504 c1 ?_
  exact r_X8_init_505 hd hf
def f_X8_init_493 (n : Nat) (v0 : Nat) (s0 : Nat) (s1 : Nat) (h : Hp) : Option Hp :=
  if okI h s1 37 then
  f_X8_init_499 n v0 s0 s1 (hsi h s1 (ix 37) 60)
  else none
set_option maxRecDepth 100000 in
set_option maxHeartbeats 4000000 in
theorem r_X8_init_493 {X : Nat → Int32} {d : Nat} (hd : 5 ≤ (d + 1)) {n : Nat} {v0 : Nat} {s0 : Nat} {s1 : Nat} {h : Hp} {o : Hp} (hf : f_X8_init_493 n v0 s0 s1 h = some o) : Run X (d + 1) 125 493 [some (.ref v0), none] [.ref s1, .ref s0] h (none, o) := by
  unfold f_X8_init_493 at hf
  refine rs_dup i_X8_init_493 rfl ?_
  refine rs_bipush i_X8_init_494 (v := 37) (by decide) ?_
  refine rs_bipush i_X8_init_496 (v := 60) (by decide) ?_
  obtain ⟨c1, hf⟩ := ite_some hf
  refine rs_iast i_X8_init_498 c1 ?_
  exact r_X8_init_499 hd hf
def f_X8_init_487 (n : Nat) (v0 : Nat) (s0 : Nat) (s1 : Nat) (h : Hp) : Option Hp :=
  if okI h s1 36 then
  f_X8_init_493 n v0 s0 s1 (hsi h s1 (ix 36) 32)
  else none
set_option maxRecDepth 100000 in
set_option maxHeartbeats 4000000 in
theorem r_X8_init_487 {X : Nat → Int32} {d : Nat} (hd : 5 ≤ (d + 1)) {n : Nat} {v0 : Nat} {s0 : Nat} {s1 : Nat} {h : Hp} {o : Hp} (hf : f_X8_init_487 n v0 s0 s1 h = some o) : Run X (d + 1) 125 487 [some (.ref v0), none] [.ref s1, .ref s0] h (none, o) := by
  unfold f_X8_init_487 at hf
  refine rs_dup i_X8_init_487 rfl ?_
  refine rs_bipush i_X8_init_488 (v := 36) (by decide) ?_
  refine rs_bipush i_X8_init_490 (v := 32) (by decide) ?_
  obtain ⟨c1, hf⟩ := ite_some hf
  refine rs_iast i_X8_init_492 c1 ?_
  exact r_X8_init_493 hd hf
def f_X8_init_481 (n : Nat) (v0 : Nat) (s0 : Nat) (s1 : Nat) (h : Hp) : Option Hp :=
  if okI h s1 35 then
  f_X8_init_487 n v0 s0 s1 (hsi h s1 (ix 35) 48)
  else none
set_option maxRecDepth 100000 in
set_option maxHeartbeats 4000000 in
theorem r_X8_init_481 {X : Nat → Int32} {d : Nat} (hd : 5 ≤ (d + 1)) {n : Nat} {v0 : Nat} {s0 : Nat} {s1 : Nat} {h : Hp} {o : Hp} (hf : f_X8_init_481 n v0 s0 s1 h = some o) : Run X (d + 1) 125 481 [some (.ref v0), none] [.ref s1, .ref s0] h (none, o) := by
  unfold f_X8_init_481 at hf
  refine rs_dup i_X8_init_481 rfl ?_
  refine rs_bipush i_X8_init_482 (v := 35) (by decide) ?_
  refine rs_bipush i_X8_init_484 (v := 48) (by decide) ?_
  obtain ⟨c1, hf⟩ := ite_some hf
  refine rs_iast i_X8_init_486 c1 ?_
  exact r_X8_init_487 hd hf
def f_X8_init_475 (n : Nat) (v0 : Nat) (s0 : Nat) (s1 : Nat) (h : Hp) : Option Hp :=
  if okI h s1 34 then
  f_X8_init_481 n v0 s0 s1 (hsi h s1 (ix 34) 52)
  else none
set_option maxRecDepth 100000 in
set_option maxHeartbeats 4000000 in
theorem r_X8_init_475 {X : Nat → Int32} {d : Nat} (hd : 5 ≤ (d + 1)) {n : Nat} {v0 : Nat} {s0 : Nat} {s1 : Nat} {h : Hp} {o : Hp} (hf : f_X8_init_475 n v0 s0 s1 h = some o) : Run X (d + 1) 125 475 [some (.ref v0), none] [.ref s1, .ref s0] h (none, o) := by
  unfold f_X8_init_475 at hf
  refine rs_dup i_X8_init_475 rfl ?_
  refine rs_bipush i_X8_init_476 (v := 34) (by decide) ?_
  refine rs_bipush i_X8_init_478 (v := 52) (by decide) ?_
  obtain ⟨c1, hf⟩ := ite_some hf
  refine rs_iast i_X8_init_480 c1 ?_
  exact r_X8_init_481 hd hf
def f_X8_init_469 (n : Nat) (v0 : Nat) (s0 : Nat) (s1 : Nat) (h : Hp) : Option Hp :=
  if okI h s1 33 then
  f_X8_init_475 n v0 s0 s1 (hsi h s1 (ix 33) 32)
  else none
set_option maxRecDepth 100000 in
set_option maxHeartbeats 4000000 in
theorem r_X8_init_469 {X : Nat → Int32} {d : Nat} (hd : 5 ≤ (d + 1)) {n : Nat} {v0 : Nat} {s0 : Nat} {s1 : Nat} {h : Hp} {o : Hp} (hf : f_X8_init_469 n v0 s0 s1 h = some o) : Run X (d + 1) 125 469 [some (.ref v0), none] [.ref s1, .ref s0] h (none, o) := by
  unfold f_X8_init_469 at hf
  refine rs_dup i_X8_init_469 rfl ?_
  refine rs_bipush i_X8_init_470 (v := 33) (by decide) ?_
  refine rs_bipush i_X8_init_472 (v := 32) (by decide) ?_
  obtain ⟨c1, hf⟩ := ite_some hf
  refine rs_iast i_X8_init_474 c1 ?_
  exact r_X8_init_475 hd hf
def f_X8_init_463 (n : Nat) (v0 : Nat) (s0 : Nat) (s1 : Nat) (h : Hp) : Option Hp :=
  if okI h s1 32 then
  f_X8_init_469 n v0 s0 s1 (hsi h s1 (ix 32) 115)
  else none
set_option maxRecDepth 100000 in
set_option maxHeartbeats 4000000 in
theorem r_X8_init_463 {X : Nat → Int32} {d : Nat} (hd : 5 ≤ (d + 1)) {n : Nat} {v0 : Nat} {s0 : Nat} {s1 : Nat} {h : Hp} {o : Hp} (hf : f_X8_init_463 n v0 s0 s1 h = some o) : Run X (d + 1) 125 463 [some (.ref v0), none] [.ref s1, .ref s0] h (none, o) := by
  unfold f_X8_init_463 at hf
  refine rs_dup i_X8_init_463 rfl ?_
  refine rs_bipush i_X8_init_464 (v := 32) (by decide) ?_
  refine rs_bipush i_X8_init_466 (v := 115) (by decide) ?_
  obtain ⟨c1, hf⟩ := ite_some hf
  refine rs_iast i_X8_init_468 c1 ?_
  exact r_X8_init_469 hd hf
def f_X8_init_457 (n : Nat) (v0 : Nat) (s0 : Nat) (s1 : Nat) (h : Hp) : Option Hp :=
  if okI h s1 31 then
  f_X8_init_463 n v0 s0 s1 (hsi h s1 (ix 31) 114)
  else none
set_option maxRecDepth 100000 in
set_option maxHeartbeats 4000000 in
theorem r_X8_init_457 {X : Nat → Int32} {d : Nat} (hd : 5 ≤ (d + 1)) {n : Nat} {v0 : Nat} {s0 : Nat} {s1 : Nat} {h : Hp} {o : Hp} (hf : f_X8_init_457 n v0 s0 s1 h = some o) : Run X (d + 1) 125 457 [some (.ref v0), none] [.ref s1, .ref s0] h (none, o) := by
  unfold f_X8_init_457 at hf
  refine rs_dup i_X8_init_457 rfl ?_
  refine rs_bipush i_X8_init_458 (v := 31) (by decide) ?_
  refine rs_bipush i_X8_init_460 (v := 114) (by decide) ?_
  obtain ⟨c1, hf⟩ := ite_some hf
  refine rs_iast i_X8_init_462 c1 ?_
  exact r_X8_init_463 hd hf
def f_X8_init_451 (n : Nat) (v0 : Nat) (s0 : Nat) (s1 : Nat) (h : Hp) : Option Hp :=
  if okI h s1 30 then
  f_X8_init_457 n v0 s0 s1 (hsi h s1 (ix 30) 97)
  else none
set_option maxRecDepth 100000 in
set_option maxHeartbeats 4000000 in
theorem r_X8_init_451 {X : Nat → Int32} {d : Nat} (hd : 5 ≤ (d + 1)) {n : Nat} {v0 : Nat} {s0 : Nat} {s1 : Nat} {h : Hp} {o : Hp} (hf : f_X8_init_451 n v0 s0 s1 h = some o) : Run X (d + 1) 125 451 [some (.ref v0), none] [.ref s1, .ref s0] h (none, o) := by
  unfold f_X8_init_451 at hf
  refine rs_dup i_X8_init_451 rfl ?_
  refine rs_bipush i_X8_init_452 (v := 30) (by decide) ?_
  refine rs_bipush i_X8_init_454 (v := 97) (by decide) ?_
  obtain ⟨c1, hf⟩ := ite_some hf
  refine rs_iast i_X8_init_456 c1 ?_
  exact r_X8_init_457 hd hf
def f_X8_init_445 (n : Nat) (v0 : Nat) (s0 : Nat) (s1 : Nat) (h : Hp) : Option Hp :=
  if okI h s1 29 then
  f_X8_init_451 n v0 s0 s1 (hsi h s1 (ix 29) 101)
  else none
set_option maxRecDepth 100000 in
set_option maxHeartbeats 4000000 in
theorem r_X8_init_445 {X : Nat → Int32} {d : Nat} (hd : 5 ≤ (d + 1)) {n : Nat} {v0 : Nat} {s0 : Nat} {s1 : Nat} {h : Hp} {o : Hp} (hf : f_X8_init_445 n v0 s0 s1 h = some o) : Run X (d + 1) 125 445 [some (.ref v0), none] [.ref s1, .ref s0] h (none, o) := by
  unfold f_X8_init_445 at hf
  refine rs_dup i_X8_init_445 rfl ?_
  refine rs_bipush i_X8_init_446 (v := 29) (by decide) ?_
  refine rs_bipush i_X8_init_448 (v := 101) (by decide) ?_
  obtain ⟨c1, hf⟩ := ite_some hf
  refine rs_iast i_X8_init_450 c1 ?_
  exact r_X8_init_451 hd hf
def f_X8_init_439 (n : Nat) (v0 : Nat) (s0 : Nat) (s1 : Nat) (h : Hp) : Option Hp :=
  if okI h s1 28 then
  f_X8_init_445 n v0 s0 s1 (hsi h s1 (ix 28) 116)
  else none
set_option maxRecDepth 100000 in
set_option maxHeartbeats 4000000 in
theorem r_X8_init_439 {X : Nat → Int32} {d : Nat} (hd : 5 ≤ (d + 1)) {n : Nat} {v0 : Nat} {s0 : Nat} {s1 : Nat} {h : Hp} {o : Hp} (hf : f_X8_init_439 n v0 s0 s1 h = some o) : Run X (d + 1) 125 439 [some (.ref v0), none] [.ref s1, .ref s0] h (none, o) := by
  unfold f_X8_init_439 at hf
  refine rs_dup i_X8_init_439 rfl ?_
  refine rs_bipush i_X8_init_440 (v := 28) (by decide) ?_
  refine rs_bipush i_X8_init_442 (v := 116) (by decide) ?_
  obtain ⟨c1, hf⟩ := ite_some hf
  refine rs_iast i_X8_init_444 c1 ?_
  exact r_X8_init_445 hd hf
def f_X8_init_433 (n : Nat) (v0 : Nat) (s0 : Nat) (s1 : Nat) (h : Hp) : Option Hp :=
  if okI h s1 27 then
  f_X8_init_439 n v0 s0 s1 (hsi h s1 (ix 27) 32)
  else none
set_option maxRecDepth 100000 in
set_option maxHeartbeats 4000000 in
theorem r_X8_init_433 {X : Nat → Int32} {d : Nat} (hd : 5 ≤ (d + 1)) {n : Nat} {v0 : Nat} {s0 : Nat} {s1 : Nat} {h : Hp} {o : Hp} (hf : f_X8_init_433 n v0 s0 s1 h = some o) : Run X (d + 1) 125 433 [some (.ref v0), none] [.ref s1, .ref s0] h (none, o) := by
  unfold f_X8_init_433 at hf
  refine rs_dup i_X8_init_433 rfl ?_
  refine rs_bipush i_X8_init_434 (v := 27) (by decide) ?_
  refine rs_bipush i_X8_init_436 (v := 32) (by decide) ?_
  obtain ⟨c1, hf⟩ := ite_some hf
  refine rs_iast i_X8_init_438 c1 ?_
  exact r_X8_init_439 hd hf
def f_X8_init_427 (n : Nat) (v0 : Nat) (s0 : Nat) (s1 : Nat) (h : Hp) : Option Hp :=
  if okI h s1 26 then
  f_X8_init_433 n v0 s0 s1 (hsi h s1 (ix 26) 59)
  else none
set_option maxRecDepth 100000 in
set_option maxHeartbeats 4000000 in
theorem r_X8_init_427 {X : Nat → Int32} {d : Nat} (hd : 5 ≤ (d + 1)) {n : Nat} {v0 : Nat} {s0 : Nat} {s1 : Nat} {h : Hp} {o : Hp} (hf : f_X8_init_427 n v0 s0 s1 h = some o) : Run X (d + 1) 125 427 [some (.ref v0), none] [.ref s1, .ref s0] h (none, o) := by
  unfold f_X8_init_427 at hf
  refine rs_dup i_X8_init_427 rfl ?_
  refine rs_bipush i_X8_init_428 (v := 26) (by decide) ?_
  refine rs_bipush i_X8_init_430 (v := 59) (by decide) ?_
  obtain ⟨c1, hf⟩ := ite_some hf
  refine rs_iast i_X8_init_432 c1 ?_
  exact r_X8_init_433 hd hf
def f_X8_init_421 (n : Nat) (v0 : Nat) (s0 : Nat) (s1 : Nat) (h : Hp) : Option Hp :=
  if okI h s1 25 then
  f_X8_init_427 n v0 s0 s1 (hsi h s1 (ix 25) 32)
  else none
set_option maxRecDepth 100000 in
set_option maxHeartbeats 4000000 in
theorem r_X8_init_421 {X : Nat → Int32} {d : Nat} (hd : 5 ≤ (d + 1)) {n : Nat} {v0 : Nat} {s0 : Nat} {s1 : Nat} {h : Hp} {o : Hp} (hf : f_X8_init_421 n v0 s0 s1 h = some o) : Run X (d + 1) 125 421 [some (.ref v0), none] [.ref s1, .ref s0] h (none, o) := by
  unfold f_X8_init_421 at hf
  refine rs_dup i_X8_init_421 rfl ?_
  refine rs_bipush i_X8_init_422 (v := 25) (by decide) ?_
  refine rs_bipush i_X8_init_424 (v := 32) (by decide) ?_
  obtain ⟨c1, hf⟩ := ite_some hf
  refine rs_iast i_X8_init_426 c1 ?_
  exact r_X8_init_427 hd hf
def f_X8_init_415 (n : Nat) (v0 : Nat) (s0 : Nat) (s1 : Nat) (h : Hp) : Option Hp :=
  if okI h s1 24 then
  f_X8_init_421 n v0 s0 s1 (hsi h s1 (ix 24) 102)
  else none
set_option maxRecDepth 100000 in
set_option maxHeartbeats 4000000 in
theorem r_X8_init_415 {X : Nat → Int32} {d : Nat} (hd : 5 ≤ (d + 1)) {n : Nat} {v0 : Nat} {s0 : Nat} {s1 : Nat} {h : Hp} {o : Hp} (hf : f_X8_init_415 n v0 s0 s1 h = some o) : Run X (d + 1) 125 415 [some (.ref v0), none] [.ref s1, .ref s0] h (none, o) := by
  unfold f_X8_init_415 at hf
  refine rs_dup i_X8_init_415 rfl ?_
  refine rs_bipush i_X8_init_416 (v := 24) (by decide) ?_
  refine rs_bipush i_X8_init_418 (v := 102) (by decide) ?_
  obtain ⟨c1, hf⟩ := ite_some hf
  refine rs_iast i_X8_init_420 c1 ?_
  exact r_X8_init_421 hd hf
def f_X8_init_409 (n : Nat) (v0 : Nat) (s0 : Nat) (s1 : Nat) (h : Hp) : Option Hp :=
  if okI h s1 23 then
  f_X8_init_415 n v0 s0 s1 (hsi h s1 (ix 23) 102)
  else none
set_option maxRecDepth 100000 in
set_option maxHeartbeats 4000000 in
theorem r_X8_init_409 {X : Nat → Int32} {d : Nat} (hd : 5 ≤ (d + 1)) {n : Nat} {v0 : Nat} {s0 : Nat} {s1 : Nat} {h : Hp} {o : Hp} (hf : f_X8_init_409 n v0 s0 s1 h = some o) : Run X (d + 1) 125 409 [some (.ref v0), none] [.ref s1, .ref s0] h (none, o) := by
  unfold f_X8_init_409 at hf
  refine rs_dup i_X8_init_409 rfl ?_
  refine rs_bipush i_X8_init_410 (v := 23) (by decide) ?_
  refine rs_bipush i_X8_init_412 (v := 102) (by decide) ?_
  obtain ⟨c1, hf⟩ := ite_some hf
  refine rs_iast i_X8_init_414 c1 ?_
  exact r_X8_init_415 hd hf
def f_X8_init_403 (n : Nat) (v0 : Nat) (s0 : Nat) (s1 : Nat) (h : Hp) : Option Hp :=
  if okI h s1 22 then
  f_X8_init_409 n v0 s0 s1 (hsi h s1 (ix 22) 105)
  else none
set_option maxRecDepth 100000 in
set_option maxHeartbeats 4000000 in
theorem r_X8_init_403 {X : Nat → Int32} {d : Nat} (hd : 5 ≤ (d + 1)) {n : Nat} {v0 : Nat} {s0 : Nat} {s1 : Nat} {h : Hp} {o : Hp} (hf : f_X8_init_403 n v0 s0 s1 h = some o) : Run X (d + 1) 125 403 [some (.ref v0), none] [.ref s1, .ref s0] h (none, o) := by
  unfold f_X8_init_403 at hf
  refine rs_dup i_X8_init_403 rfl ?_
  refine rs_bipush i_X8_init_404 (v := 22) (by decide) ?_
  refine rs_bipush i_X8_init_406 (v := 105) (by decide) ?_
  obtain ⟨c1, hf⟩ := ite_some hf
  refine rs_iast i_X8_init_408 c1 ?_
  exact r_X8_init_409 hd hf
def f_X8_init_397 (n : Nat) (v0 : Nat) (s0 : Nat) (s1 : Nat) (h : Hp) : Option Hp :=
  if okI h s1 21 then
  f_X8_init_403 n v0 s0 s1 (hsi h s1 (ix 21) 116)
  else none
set_option maxRecDepth 100000 in
set_option maxHeartbeats 4000000 in
theorem r_X8_init_397 {X : Nat → Int32} {d : Nat} (hd : 5 ≤ (d + 1)) {n : Nat} {v0 : Nat} {s0 : Nat} {s1 : Nat} {h : Hp} {o : Hp} (hf : f_X8_init_397 n v0 s0 s1 h = some o) : Run X (d + 1) 125 397 [some (.ref v0), none] [.ref s1, .ref s0] h (none, o) := by
  unfold f_X8_init_397 at hf
  refine rs_dup i_X8_init_397 rfl ?_
  refine rs_bipush i_X8_init_398 (v := 21) (by decide) ?_
  refine rs_bipush i_X8_init_400 (v := 116) (by decide) ?_
  obtain ⟨c1, hf⟩ := ite_some hf
  refine rs_iast i_X8_init_402 c1 ?_
  exact r_X8_init_403 hd hf
def f_X8_init_391 (n : Nat) (v0 : Nat) (s0 : Nat) (s1 : Nat) (h : Hp) : Option Hp :=
  if okI h s1 20 then
  f_X8_init_397 n v0 s0 s1 (hsi h s1 (ix 20) 115)
  else none
set_option maxRecDepth 100000 in
set_option maxHeartbeats 4000000 in
theorem r_X8_init_391 {X : Nat → Int32} {d : Nat} (hd : 5 ≤ (d + 1)) {n : Nat} {v0 : Nat} {s0 : Nat} {s1 : Nat} {h : Hp} {o : Hp} (hf : f_X8_init_391 n v0 s0 s1 h = some o) : Run X (d + 1) 125 391 [some (.ref v0), none] [.ref s1, .ref s0] h (none, o) := by
  unfold f_X8_init_391 at hf
  refine rs_dup i_X8_init_391 rfl ?_
  refine rs_bipush i_X8_init_392 (v := 20) (by decide) ?_
  refine rs_bipush i_X8_init_394 (v := 115) (by decide) ?_
  obtain ⟨c1, hf⟩ := ite_some hf
  refine rs_iast i_X8_init_396 c1 ?_
  exact r_X8_init_397 hd hf
def f_X8_init_385 (n : Nat) (v0 : Nat) (s0 : Nat) (s1 : Nat) (h : Hp) : Option Hp :=
  if okI h s1 19 then
  f_X8_init_391 n v0 s0 s1 (hsi h s1 (ix 19) 32)
  else none
set_option maxRecDepth 100000 in
set_option maxHeartbeats 4000000 in
theorem r_X8_init_385 {X : Nat → Int32} {d : Nat} (hd : 5 ≤ (d + 1)) {n : Nat} {v0 : Nat} {s0 : Nat} {s1 : Nat} {h : Hp} {o : Hp} (hf : f_X8_init_385 n v0 s0 s1 h = some o) : Run X (d + 1) 125 385 [some (.ref v0), none] [.ref s1, .ref s0] h (none, o) := by
  unfold f_X8_init_385 at hf
  refine rs_dup i_X8_init_385 rfl ?_
  refine rs_bipush i_X8_init_386 (v := 19) (by decide) ?_
  refine rs_bipush i_X8_init_388 (v := 32) (by decide) ?_
  obtain ⟨c1, hf⟩ := ite_some hf
  refine rs_iast i_X8_init_390 c1 ?_
  exact r_X8_init_391 hd hf
def f_X8_init_379 (n : Nat) (v0 : Nat) (s0 : Nat) (s1 : Nat) (h : Hp) : Option Hp :=
  if okI h s1 18 then
  f_X8_init_385 n v0 s0 s1 (hsi h s1 (ix 18) 45)
  else none
set_option maxRecDepth 100000 in
set_option maxHeartbeats 4000000 in
theorem r_X8_init_379 {X : Nat → Int32} {d : Nat} (hd : 5 ≤ (d + 1)) {n : Nat} {v0 : Nat} {s0 : Nat} {s1 : Nat} {h : Hp} {o : Hp} (hf : f_X8_init_379 n v0 s0 s1 h = some o) : Run X (d + 1) 125 379 [some (.ref v0), none] [.ref s1, .ref s0] h (none, o) := by
  unfold f_X8_init_379 at hf
  refine rs_dup i_X8_init_379 rfl ?_
  refine rs_bipush i_X8_init_380 (v := 18) (by decide) ?_
  refine rs_bipush i_X8_init_382 (v := 45) (by decide) ?_
  obtain ⟨c1, hf⟩ := ite_some hf
  refine rs_iast i_X8_init_384 c1 ?_
  exact r_X8_init_385 hd hf
def f_X8_init_373 (n : Nat) (v0 : Nat) (s0 : Nat) (s1 : Nat) (h : Hp) : Option Hp :=
  if okI h s1 17 then
  f_X8_init_379 n v0 s0 s1 (hsi h s1 (ix 17) 32)
  else none
set_option maxRecDepth 100000 in
set_option maxHeartbeats 4000000 in
theorem r_X8_init_373 {X : Nat → Int32} {d : Nat} (hd : 5 ≤ (d + 1)) {n : Nat} {v0 : Nat} {s0 : Nat} {s1 : Nat} {h : Hp} {o : Hp} (hf : f_X8_init_373 n v0 s0 s1 h = some o) : Run X (d + 1) 125 373 [some (.ref v0), none] [.ref s1, .ref s0] h (none, o) := by
  unfold f_X8_init_373 at hf
  refine rs_dup i_X8_init_373 rfl ?_
  refine rs_bipush i_X8_init_374 (v := 17) (by decide) ?_
  refine rs_bipush i_X8_init_376 (v := 32) (by decide) ?_
  obtain ⟨c1, hf⟩ := ite_some hf
  refine rs_iast i_X8_init_378 c1 ?_
  exact r_X8_init_379 hd hf
def f_X8_init_367 (n : Nat) (v0 : Nat) (s0 : Nat) (s1 : Nat) (h : Hp) : Option Hp :=
  if okI h s1 16 then
  f_X8_init_373 n v0 s0 s1 (hsi h s1 (ix 16) 50)
  else none
set_option maxRecDepth 100000 in
set_option maxHeartbeats 4000000 in
theorem r_X8_init_367 {X : Nat → Int32} {d : Nat} (hd : 5 ≤ (d + 1)) {n : Nat} {v0 : Nat} {s0 : Nat} {s1 : Nat} {h : Hp} {o : Hp} (hf : f_X8_init_367 n v0 s0 s1 h = some o) : Run X (d + 1) 125 367 [some (.ref v0), none] [.ref s1, .ref s0] h (none, o) := by
  unfold f_X8_init_367 at hf
  refine rs_dup i_X8_init_367 rfl ?_
  refine rs_bipush i_X8_init_368 (v := 16) (by decide) ?_
  refine rs_bipush i_X8_init_370 (v := 50) (by decide) ?_
  obtain ⟨c1, hf⟩ := ite_some hf
  refine rs_iast i_X8_init_372 c1 ?_
  exact r_X8_init_373 hd hf
def f_X8_init_361 (n : Nat) (v0 : Nat) (s0 : Nat) (s1 : Nat) (h : Hp) : Option Hp :=
  if okI h s1 15 then
  f_X8_init_367 n v0 s0 s1 (hsi h s1 (ix 15) 32)
  else none
set_option maxRecDepth 100000 in
set_option maxHeartbeats 4000000 in
theorem r_X8_init_361 {X : Nat → Int32} {d : Nat} (hd : 5 ≤ (d + 1)) {n : Nat} {v0 : Nat} {s0 : Nat} {s1 : Nat} {h : Hp} {o : Hp} (hf : f_X8_init_361 n v0 s0 s1 h = some o) : Run X (d + 1) 125 361 [some (.ref v0), none] [.ref s1, .ref s0] h (none, o) := by
  unfold f_X8_init_361 at hf
  refine rs_dup i_X8_init_361 rfl ?_
  refine rs_bipush i_X8_init_362 (v := 15) (by decide) ?_
  refine rs_bipush i_X8_init_364 (v := 32) (by decide) ?_
  obtain ⟨c1, hf⟩ := ite_some hf
  refine rs_iast i_X8_init_366 c1 ?_
  exact r_X8_init_367 hd hf
def f_X8_init_355 (n : Nat) (v0 : Nat) (s0 : Nat) (s1 : Nat) (h : Hp) : Option Hp :=
  if okI h s1 14 then
  f_X8_init_361 n v0 s0 s1 (hsi h s1 (ix 14) 42)
  else none
set_option maxRecDepth 100000 in
set_option maxHeartbeats 4000000 in
theorem r_X8_init_355 {X : Nat → Int32} {d : Nat} (hd : 5 ≤ (d + 1)) {n : Nat} {v0 : Nat} {s0 : Nat} {s1 : Nat} {h : Hp} {o : Hp} (hf : f_X8_init_355 n v0 s0 s1 h = some o) : Run X (d + 1) 125 355 [some (.ref v0), none] [.ref s1, .ref s0] h (none, o) := by
  unfold f_X8_init_355 at hf
  refine rs_dup i_X8_init_355 rfl ?_
  refine rs_bipush i_X8_init_356 (v := 14) (by decide) ?_
  refine rs_bipush i_X8_init_358 (v := 42) (by decide) ?_
  obtain ⟨c1, hf⟩ := ite_some hf
  refine rs_iast i_X8_init_360 c1 ?_
  exact r_X8_init_361 hd hf
def f_X8_init_349 (n : Nat) (v0 : Nat) (s0 : Nat) (s1 : Nat) (h : Hp) : Option Hp :=
  if okI h s1 13 then
  f_X8_init_355 n v0 s0 s1 (hsi h s1 (ix 13) 32)
  else none
set_option maxRecDepth 100000 in
set_option maxHeartbeats 4000000 in
theorem r_X8_init_349 {X : Nat → Int32} {d : Nat} (hd : 5 ≤ (d + 1)) {n : Nat} {v0 : Nat} {s0 : Nat} {s1 : Nat} {h : Hp} {o : Hp} (hf : f_X8_init_349 n v0 s0 s1 h = some o) : Run X (d + 1) 125 349 [some (.ref v0), none] [.ref s1, .ref s0] h (none, o) := by
  unfold f_X8_init_349 at hf
  refine rs_dup i_X8_init_349 rfl ?_
  refine rs_bipush i_X8_init_350 (v := 13) (by decide) ?_
  refine rs_bipush i_X8_init_352 (v := 32) (by decide) ?_
  obtain ⟨c1, hf⟩ := ite_some hf
  refine rs_iast i_X8_init_354 c1 ?_
  exact r_X8_init_355 hd hf
def f_X8_init_343 (n : Nat) (v0 : Nat) (s0 : Nat) (s1 : Nat) (h : Hp) : Option Hp :=
  if okI h s1 12 then
  f_X8_init_349 n v0 s0 s1 (hsi h s1 (ix 12) 116)
  else none
set_option maxRecDepth 100000 in
set_option maxHeartbeats 4000000 in
theorem r_X8_init_343 {X : Nat → Int32} {d : Nat} (hd : 5 ≤ (d + 1)) {n : Nat} {v0 : Nat} {s0 : Nat} {s1 : Nat} {h : Hp} {o : Hp} (hf : f_X8_init_343 n v0 s0 s1 h = some o) : Run X (d + 1) 125 343 [some (.ref v0), none] [.ref s1, .ref s0] h (none, o) := by
  unfold f_X8_init_343 at hf
  refine rs_dup i_X8_init_343 rfl ?_
  refine rs_bipush i_X8_init_344 (v := 12) (by decide) ?_
  refine rs_bipush i_X8_init_346 (v := 116) (by decide) ?_
  obtain ⟨c1, hf⟩ := ite_some hf
  refine rs_iast i_X8_init_348 c1 ?_
  exact r_X8_init_349 hd hf
def f_X8_init_337 (n : Nat) (v0 : Nat) (s0 : Nat) (s1 : Nat) (h : Hp) : Option Hp :=
  if okI h s1 11 then
  f_X8_init_343 n v0 s0 s1 (hsi h s1 (ix 11) 101)
  else none
set_option maxRecDepth 100000 in
set_option maxHeartbeats 4000000 in
theorem r_X8_init_337 {X : Nat → Int32} {d : Nat} (hd : 5 ≤ (d + 1)) {n : Nat} {v0 : Nat} {s0 : Nat} {s1 : Nat} {h : Hp} {o : Hp} (hf : f_X8_init_337 n v0 s0 s1 h = some o) : Run X (d + 1) 125 337 [some (.ref v0), none] [.ref s1, .ref s0] h (none, o) := by
  unfold f_X8_init_337 at hf
  refine rs_dup i_X8_init_337 rfl ?_
  refine rs_bipush i_X8_init_338 (v := 11) (by decide) ?_
  refine rs_bipush i_X8_init_340 (v := 101) (by decide) ?_
  obtain ⟨c1, hf⟩ := ite_some hf
  refine rs_iast i_X8_init_342 c1 ?_
  exact r_X8_init_343 hd hf
def f_X8_init_331 (n : Nat) (v0 : Nat) (s0 : Nat) (s1 : Nat) (h : Hp) : Option Hp :=
  if okI h s1 10 then
  f_X8_init_337 n v0 s0 s1 (hsi h s1 (ix 10) 119)
  else none
set_option maxRecDepth 100000 in
set_option maxHeartbeats 4000000 in
theorem r_X8_init_331 {X : Nat → Int32} {d : Nat} (hd : 5 ≤ (d + 1)) {n : Nat} {v0 : Nat} {s0 : Nat} {s1 : Nat} {h : Hp} {o : Hp} (hf : f_X8_init_331 n v0 s0 s1 h = some o) : Run X (d + 1) 125 331 [some (.ref v0), none] [.ref s1, .ref s0] h (none, o) := by
  unfold f_X8_init_331 at hf
  refine rs_dup i_X8_init_331 rfl ?_
  refine rs_bipush i_X8_init_332 (v := 10) (by decide) ?_
  refine rs_bipush i_X8_init_334 (v := 119) (by decide) ?_
  obtain ⟨c1, hf⟩ := ite_some hf
  refine rs_iast i_X8_init_336 c1 ?_
  exact r_X8_init_337 hd hf
def f_X8_init_325 (n : Nat) (v0 : Nat) (s0 : Nat) (s1 : Nat) (h : Hp) : Option Hp :=
  if okI h s1 9 then
  f_X8_init_331 n v0 s0 s1 (hsi h s1 (ix 9) 32)
  else none
set_option maxRecDepth 100000 in
set_option maxHeartbeats 4000000 in
theorem r_X8_init_325 {X : Nat → Int32} {d : Nat} (hd : 5 ≤ (d + 1)) {n : Nat} {v0 : Nat} {s0 : Nat} {s1 : Nat} {h : Hp} {o : Hp} (hf : f_X8_init_325 n v0 s0 s1 h = some o) : Run X (d + 1) 125 325 [some (.ref v0), none] [.ref s1, .ref s0] h (none, o) := by
  unfold f_X8_init_325 at hf
  refine rs_dup i_X8_init_325 rfl ?_
  refine rs_bipush i_X8_init_326 (v := 9) (by decide) ?_
  refine rs_bipush i_X8_init_328 (v := 32) (by decide) ?_
  obtain ⟨c1, hf⟩ := ite_some hf
  refine rs_iast i_X8_init_330 c1 ?_
  exact r_X8_init_331 hd hf
def f_X8_init_319 (n : Nat) (v0 : Nat) (s0 : Nat) (s1 : Nat) (h : Hp) : Option Hp :=
  if okI h s1 8 then
  f_X8_init_325 n v0 s0 s1 (hsi h s1 (ix 8) 43)
  else none
set_option maxRecDepth 100000 in
set_option maxHeartbeats 4000000 in
theorem r_X8_init_319 {X : Nat → Int32} {d : Nat} (hd : 5 ≤ (d + 1)) {n : Nat} {v0 : Nat} {s0 : Nat} {s1 : Nat} {h : Hp} {o : Hp} (hf : f_X8_init_319 n v0 s0 s1 h = some o) : Run X (d + 1) 125 319 [some (.ref v0), none] [.ref s1, .ref s0] h (none, o) := by
  unfold f_X8_init_319 at hf
  refine rs_dup i_X8_init_319 rfl ?_
  refine rs_bipush i_X8_init_320 (v := 8) (by decide) ?_
  refine rs_bipush i_X8_init_322 (v := 43) (by decide) ?_
  obtain ⟨c1, hf⟩ := ite_some hf
  refine rs_iast i_X8_init_324 c1 ?_
  exact r_X8_init_325 hd hf
def f_X8_init_313 (n : Nat) (v0 : Nat) (s0 : Nat) (s1 : Nat) (h : Hp) : Option Hp :=
  if okI h s1 7 then
  f_X8_init_319 n v0 s0 s1 (hsi h s1 (ix 7) 32)
  else none
set_option maxRecDepth 100000 in
set_option maxHeartbeats 4000000 in
theorem r_X8_init_313 {X : Nat → Int32} {d : Nat} (hd : 5 ≤ (d + 1)) {n : Nat} {v0 : Nat} {s0 : Nat} {s1 : Nat} {h : Hp} {o : Hp} (hf : f_X8_init_313 n v0 s0 s1 h = some o) : Run X (d + 1) 125 313 [some (.ref v0), none] [.ref s1, .ref s0] h (none, o) := by
  unfold f_X8_init_313 at hf
  refine rs_dup i_X8_init_313 rfl ?_
  refine rs_bipush i_X8_init_314 (v := 7) (by decide) ?_
  refine rs_bipush i_X8_init_316 (v := 32) (by decide) ?_
  obtain ⟨c1, hf⟩ := ite_some hf
  refine rs_iast i_X8_init_318 c1 ?_
  exact r_X8_init_319 hd hf
def f_X8_init_307 (n : Nat) (v0 : Nat) (s0 : Nat) (s1 : Nat) (h : Hp) : Option Hp :=
  if okI h s1 6 then
  f_X8_init_313 n v0 s0 s1 (hsi h s1 (ix 6) 48)
  else none
set_option maxRecDepth 100000 in
set_option maxHeartbeats 4000000 in
theorem r_X8_init_307 {X : Nat → Int32} {d : Nat} (hd : 5 ≤ (d + 1)) {n : Nat} {v0 : Nat} {s0 : Nat} {s1 : Nat} {h : Hp} {o : Hp} (hf : f_X8_init_307 n v0 s0 s1 h = some o) : Run X (d + 1) 125 307 [some (.ref v0), none] [.ref s1, .ref s0] h (none, o) := by
  unfold f_X8_init_307 at hf
  refine rs_dup i_X8_init_307 rfl ?_
  refine rs_bipush i_X8_init_308 (v := 6) (by decide) ?_
  refine rs_bipush i_X8_init_310 (v := 48) (by decide) ?_
  obtain ⟨c1, hf⟩ := ite_some hf
  refine rs_iast i_X8_init_312 c1 ?_
  exact r_X8_init_313 hd hf
def f_X8_init_302 (n : Nat) (v0 : Nat) (s0 : Nat) (s1 : Nat) (h : Hp) : Option Hp :=
  if okI h s1 5 then
  f_X8_init_307 n v0 s0 s1 (hsi h s1 (ix 5) 50)
  else none
set_option maxRecDepth 100000 in
set_option maxHeartbeats 4000000 in
theorem r_X8_init_302 {X : Nat → Int32} {d : Nat} (hd : 5 ≤ (d + 1)) {n : Nat} {v0 : Nat} {s0 : Nat} {s1 : Nat} {h : Hp} {o : Hp} (hf : f_X8_init_302 n v0 s0 s1 h = some o) : Run X (d + 1) 125 302 [some (.ref v0), none] [.ref s1, .ref s0] h (none, o) := by
  unfold f_X8_init_302 at hf
  refine rs_dup i_X8_init_302 rfl ?_
  refine rs_iconst i_X8_init_303 (v := 5) (by decide) ?_
  refine rs_bipush i_X8_init_304 (v := 50) (by decide) ?_
  obtain ⟨c1, hf⟩ := ite_some hf
  refine rs_iast i_X8_init_306 c1 ?_
  exact r_X8_init_307 hd hf
def f_X8_init_297 (n : Nat) (v0 : Nat) (s0 : Nat) (s1 : Nat) (h : Hp) : Option Hp :=
  if okI h s1 4 then
  f_X8_init_302 n v0 s0 s1 (hsi h s1 (ix 4) 32)
  else none
set_option maxRecDepth 100000 in
set_option maxHeartbeats 4000000 in
theorem r_X8_init_297 {X : Nat → Int32} {d : Nat} (hd : 5 ≤ (d + 1)) {n : Nat} {v0 : Nat} {s0 : Nat} {s1 : Nat} {h : Hp} {o : Hp} (hf : f_X8_init_297 n v0 s0 s1 h = some o) : Run X (d + 1) 125 297 [some (.ref v0), none] [.ref s1, .ref s0] h (none, o) := by
  unfold f_X8_init_297 at hf
  refine rs_dup i_X8_init_297 rfl ?_
  refine rs_iconst i_X8_init_298 (v := 4) (by decide) ?_
  refine rs_bipush i_X8_init_299 (v := 32) (by decide) ?_
  obtain ⟨c1, hf⟩ := ite_some hf
  refine rs_iast i_X8_init_301 c1 ?_
  exact r_X8_init_302 hd hf
def f_X8_init_292 (n : Nat) (v0 : Nat) (s0 : Nat) (s1 : Nat) (h : Hp) : Option Hp :=
  if okI h s1 3 then
  f_X8_init_297 n v0 s0 s1 (hsi h s1 (ix 3) 119)
  else none
set_option maxRecDepth 100000 in
set_option maxHeartbeats 4000000 in
theorem r_X8_init_292 {X : Nat → Int32} {d : Nat} (hd : 5 ≤ (d + 1)) {n : Nat} {v0 : Nat} {s0 : Nat} {s1 : Nat} {h : Hp} {o : Hp} (hf : f_X8_init_292 n v0 s0 s1 h = some o) : Run X (d + 1) 125 292 [some (.ref v0), none] [.ref s1, .ref s0] h (none, o) := by
  unfold f_X8_init_292 at hf
  refine rs_dup i_X8_init_292 rfl ?_
  refine rs_iconst i_X8_init_293 (v := 3) (by decide) ?_
  refine rs_bipush i_X8_init_294 (v := 119) (by decide) ?_
  obtain ⟨c1, hf⟩ := ite_some hf
  refine rs_iast i_X8_init_296 c1 ?_
  exact r_X8_init_297 hd hf
def f_X8_init_287 (n : Nat) (v0 : Nat) (s0 : Nat) (s1 : Nat) (h : Hp) : Option Hp :=
  if okI h s1 2 then
  f_X8_init_292 n v0 s0 s1 (hsi h s1 (ix 2) 97)
  else none
set_option maxRecDepth 100000 in
set_option maxHeartbeats 4000000 in
theorem r_X8_init_287 {X : Nat → Int32} {d : Nat} (hd : 5 ≤ (d + 1)) {n : Nat} {v0 : Nat} {s0 : Nat} {s1 : Nat} {h : Hp} {o : Hp} (hf : f_X8_init_287 n v0 s0 s1 h = some o) : Run X (d + 1) 125 287 [some (.ref v0), none] [.ref s1, .ref s0] h (none, o) := by
  unfold f_X8_init_287 at hf
  refine rs_dup i_X8_init_287 rfl ?_
  refine rs_iconst i_X8_init_288 (v := 2) (by decide) ?_
  refine rs_bipush i_X8_init_289 (v := 97) (by decide) ?_
  obtain ⟨c1, hf⟩ := ite_some hf
  refine rs_iast i_X8_init_291 c1 ?_
  exact r_X8_init_292 hd hf
def f_X8_init_282 (n : Nat) (v0 : Nat) (s0 : Nat) (s1 : Nat) (h : Hp) : Option Hp :=
  if okI h s1 1 then
  f_X8_init_287 n v0 s0 s1 (hsi h s1 (ix 1) 114)
  else none
set_option maxRecDepth 100000 in
set_option maxHeartbeats 4000000 in
theorem r_X8_init_282 {X : Nat → Int32} {d : Nat} (hd : 5 ≤ (d + 1)) {n : Nat} {v0 : Nat} {s0 : Nat} {s1 : Nat} {h : Hp} {o : Hp} (hf : f_X8_init_282 n v0 s0 s1 h = some o) : Run X (d + 1) 125 282 [some (.ref v0), none] [.ref s1, .ref s0] h (none, o) := by
  unfold f_X8_init_282 at hf
  refine rs_dup i_X8_init_282 rfl ?_
  refine rs_iconst i_X8_init_283 (v := 1) (by decide) ?_
  refine rs_bipush i_X8_init_284 (v := 114) (by decide) ?_
  obtain ⟨c1, hf⟩ := ite_some hf
  refine rs_iast i_X8_init_286 c1 ?_
  exact r_X8_init_287 hd hf
def f_X8_init_277 (n : Nat) (v0 : Nat) (s0 : Nat) (s1 : Nat) (h : Hp) : Option Hp :=
  if okI h s1 0 then
  f_X8_init_282 n v0 s0 s1 (hsi h s1 (ix 0) 100)
  else none
set_option maxRecDepth 100000 in
set_option maxHeartbeats 4000000 in
theorem r_X8_init_277 {X : Nat → Int32} {d : Nat} (hd : 5 ≤ (d + 1)) {n : Nat} {v0 : Nat} {s0 : Nat} {s1 : Nat} {h : Hp} {o : Hp} (hf : f_X8_init_277 n v0 s0 s1 h = some o) : Run X (d + 1) 125 277 [some (.ref v0), none] [.ref s1, .ref s0] h (none, o) := by
  unfold f_X8_init_277 at hf
  refine rs_dup i_X8_init_277 rfl ?_
  refine rs_iconst i_X8_init_278 (v := 0) (by decide) ?_
  refine rs_bipush i_X8_init_279 (v := 100) (by decide) ?_
  obtain ⟨c1, hf⟩ := ite_some hf
  refine rs_iast i_X8_init_281 c1 ?_
  exact r_X8_init_282 hd hf
def f_X8_init_272 (n : Nat) (v0 : Nat) (h : Hp) : Option Hp :=
  f_X8_init_277 n v0 v0 h.1.length (hnew h (9, ix 83))
set_option maxRecDepth 100000 in
set_option maxHeartbeats 4000000 in
theorem r_X8_init_272 {X : Nat → Int32} {d : Nat} (hd : 5 ≤ (d + 1)) {n : Nat} {v0 : Nat} {h : Hp} {o : Hp} (hf : f_X8_init_272 n v0 h = some o) : Run X (d + 1) 125 272 [some (.ref v0), none] [] h (none, o) := by
  unfold f_X8_init_272 at hf
  refine rs_aload_n i_X8_init_272 rfl ?_
  refine rs_bipush i_X8_init_273 (v := 83) (by decide) ?_
  refine rs_newa i_X8_init_275 (by decide) ?_
  exact r_X8_init_277 hd hf
def f_X8_init_269 (n : Nat) (v0 : Nat) (s0 : Nat) (s1 : Nat) (h : Hp) : Option Hp :=
  if okO h s0 8 then
  if 16 ≤ s1 then
  f_X8_init_272 n v0 (hsr h s0 24 (some s1))
  else none
  else none
set_option maxRecDepth 100000 in
set_option maxHeartbeats 4000000 in
theorem r_X8_init_269 {X : Nat → Int32} {d : Nat} (hd : 5 ≤ (d + 1)) {n : Nat} {v0 : Nat} {s0 : Nat} {s1 : Nat} {h : Hp} {o : Hp} (hf : f_X8_init_269 n v0 s0 s1 h = some o) : Run X (d + 1) 125 269 [some (.ref v0), none] [.ref s1, .ref s0] h (none, o) := by
  unfold f_X8_init_269 at hf
  obtain ⟨c1, hf⟩ := ite_some hf
  obtain ⟨c2, hf⟩ := ite_some hf
  refine rs_putR i_X8_init_269 (by decide) c2 c1 ?_
  exact r_X8_init_272 hd hf
def f_X8_init_263 (n : Nat) (v0 : Nat) (h : Hp) : Option Hp :=
  f_X8_init_269 n v0 v0 h.1.length (hnew h (9, ix 160))
set_option maxRecDepth 100000 in
set_option maxHeartbeats 4000000 in
theorem r_X8_init_263 {X : Nat → Int32} {d : Nat} (hd : 5 ≤ (d + 1)) {n : Nat} {v0 : Nat} {h : Hp} {o : Hp} (hf : f_X8_init_263 n v0 h = some o) : Run X (d + 1) 125 263 [some (.ref v0), none] [] h (none, o) := by
  unfold f_X8_init_263 at hf
  refine rs_aload_n i_X8_init_263 rfl ?_
  refine rs_sipush i_X8_init_264 (v := 160) (by decide) ?_
  refine rs_newa i_X8_init_267 (by decide) ?_
  exact r_X8_init_269 hd hf
def f_X8_init_260 (n : Nat) (v0 : Nat) (s0 : Nat) (s1 : Nat) (h : Hp) : Option Hp :=
  if okO h s0 8 then
  if 16 ≤ s1 then
  f_X8_init_263 n v0 (hsr h s0 23 (some s1))
  else none
  else none
set_option maxRecDepth 100000 in
set_option maxHeartbeats 4000000 in
theorem r_X8_init_260 {X : Nat → Int32} {d : Nat} (hd : 5 ≤ (d + 1)) {n : Nat} {v0 : Nat} {s0 : Nat} {s1 : Nat} {h : Hp} {o : Hp} (hf : f_X8_init_260 n v0 s0 s1 h = some o) : Run X (d + 1) 125 260 [some (.ref v0), none] [.ref s1, .ref s0] h (none, o) := by
  unfold f_X8_init_260 at hf
  obtain ⟨c1, hf⟩ := ite_some hf
  obtain ⟨c2, hf⟩ := ite_some hf
  refine rs_putR i_X8_init_260 (by decide) c2 c1 ?_
  exact r_X8_init_263 hd hf
def f_X8_init_256 (n : Nat) (v0 : Nat) (h : Hp) : Option Hp :=
  f_X8_init_260 n v0 v0 h.1.length (hnew h (9, ix 4))
set_option maxRecDepth 100000 in
set_option maxHeartbeats 4000000 in
theorem r_X8_init_256 {X : Nat → Int32} {d : Nat} (hd : 5 ≤ (d + 1)) {n : Nat} {v0 : Nat} {h : Hp} {o : Hp} (hf : f_X8_init_256 n v0 h = some o) : Run X (d + 1) 125 256 [some (.ref v0), none] [] h (none, o) := by
  unfold f_X8_init_256 at hf
  refine rs_aload_n i_X8_init_256 rfl ?_
  refine rs_iconst i_X8_init_257 (v := 4) (by decide) ?_
  refine rs_newa i_X8_init_258 (by decide) ?_
  exact r_X8_init_260 hd hf
def f_X8_init_253 (n : Nat) (v0 : Nat) (s0 : Nat) (s1 : Nat) (h : Hp) : Option Hp :=
  if okO h s0 8 then
  if 16 ≤ s1 then
  f_X8_init_256 n v0 (hsr h s0 22 (some s1))
  else none
  else none
set_option maxRecDepth 100000 in
set_option maxHeartbeats 4000000 in
theorem r_X8_init_253 {X : Nat → Int32} {d : Nat} (hd : 5 ≤ (d + 1)) {n : Nat} {v0 : Nat} {s0 : Nat} {s1 : Nat} {h : Hp} {o : Hp} (hf : f_X8_init_253 n v0 s0 s1 h = some o) : Run X (d + 1) 125 253 [some (.ref v0), none] [.ref s1, .ref s0] h (none, o) := by
  unfold f_X8_init_253 at hf
  obtain ⟨c1, hf⟩ := ite_some hf
  obtain ⟨c2, hf⟩ := ite_some hf
  refine rs_putR i_X8_init_253 (by decide) c2 c1 ?_
  exact r_X8_init_256 hd hf
def f_X8_init_249 (n : Nat) (v0 : Nat) (s0 : Nat) (s1 : Nat) (h : Hp) : Option Hp :=
  if okI h s1 3 then
  f_X8_init_253 n v0 s0 s1 (hsi h s1 (ix 3) (-1))
  else none
set_option maxRecDepth 100000 in
set_option maxHeartbeats 4000000 in
theorem r_X8_init_249 {X : Nat → Int32} {d : Nat} (hd : 5 ≤ (d + 1)) {n : Nat} {v0 : Nat} {s0 : Nat} {s1 : Nat} {h : Hp} {o : Hp} (hf : f_X8_init_249 n v0 s0 s1 h = some o) : Run X (d + 1) 125 249 [some (.ref v0), none] [.ref s1, .ref s0] h (none, o) := by
  unfold f_X8_init_249 at hf
  refine rs_dup i_X8_init_249 rfl ?_
  refine rs_iconst i_X8_init_250 (v := 3) (by decide) ?_
  refine rs_iconst i_X8_init_251 (v := (-1)) (by decide) ?_
  obtain ⟨c1, hf⟩ := ite_some hf
  refine rs_iast i_X8_init_252 c1 ?_
  exact r_X8_init_253 hd hf
def f_X8_init_245 (n : Nat) (v0 : Nat) (s0 : Nat) (s1 : Nat) (h : Hp) : Option Hp :=
  if okI h s1 2 then
  f_X8_init_249 n v0 s0 s1 (hsi h s1 (ix 2) (-1))
  else none
set_option maxRecDepth 100000 in
set_option maxHeartbeats 4000000 in
theorem r_X8_init_245 {X : Nat → Int32} {d : Nat} (hd : 5 ≤ (d + 1)) {n : Nat} {v0 : Nat} {s0 : Nat} {s1 : Nat} {h : Hp} {o : Hp} (hf : f_X8_init_245 n v0 s0 s1 h = some o) : Run X (d + 1) 125 245 [some (.ref v0), none] [.ref s1, .ref s0] h (none, o) := by
  unfold f_X8_init_245 at hf
  refine rs_dup i_X8_init_245 rfl ?_
  refine rs_iconst i_X8_init_246 (v := 2) (by decide) ?_
  refine rs_iconst i_X8_init_247 (v := (-1)) (by decide) ?_
  obtain ⟨c1, hf⟩ := ite_some hf
  refine rs_iast i_X8_init_248 c1 ?_
  exact r_X8_init_249 hd hf
def f_X8_init_241 (n : Nat) (v0 : Nat) (s0 : Nat) (s1 : Nat) (h : Hp) : Option Hp :=
  if okI h s1 1 then
  f_X8_init_245 n v0 s0 s1 (hsi h s1 (ix 1) (-1))
  else none
set_option maxRecDepth 100000 in
set_option maxHeartbeats 4000000 in
theorem r_X8_init_241 {X : Nat → Int32} {d : Nat} (hd : 5 ≤ (d + 1)) {n : Nat} {v0 : Nat} {s0 : Nat} {s1 : Nat} {h : Hp} {o : Hp} (hf : f_X8_init_241 n v0 s0 s1 h = some o) : Run X (d + 1) 125 241 [some (.ref v0), none] [.ref s1, .ref s0] h (none, o) := by
  unfold f_X8_init_241 at hf
  refine rs_dup i_X8_init_241 rfl ?_
  refine rs_iconst i_X8_init_242 (v := 1) (by decide) ?_
  refine rs_iconst i_X8_init_243 (v := (-1)) (by decide) ?_
  obtain ⟨c1, hf⟩ := ite_some hf
  refine rs_iast i_X8_init_244 c1 ?_
  exact r_X8_init_245 hd hf
def f_X8_init_237 (n : Nat) (v0 : Nat) (s0 : Nat) (s1 : Nat) (h : Hp) : Option Hp :=
  if okI h s1 0 then
  f_X8_init_241 n v0 s0 s1 (hsi h s1 (ix 0) (-1))
  else none
set_option maxRecDepth 100000 in
set_option maxHeartbeats 4000000 in
theorem r_X8_init_237 {X : Nat → Int32} {d : Nat} (hd : 5 ≤ (d + 1)) {n : Nat} {v0 : Nat} {s0 : Nat} {s1 : Nat} {h : Hp} {o : Hp} (hf : f_X8_init_237 n v0 s0 s1 h = some o) : Run X (d + 1) 125 237 [some (.ref v0), none] [.ref s1, .ref s0] h (none, o) := by
  unfold f_X8_init_237 at hf
  refine rs_dup i_X8_init_237 rfl ?_
  refine rs_iconst i_X8_init_238 (v := 0) (by decide) ?_
  refine rs_iconst i_X8_init_239 (v := (-1)) (by decide) ?_
  obtain ⟨c1, hf⟩ := ite_some hf
  refine rs_iast i_X8_init_240 c1 ?_
  exact r_X8_init_241 hd hf
def f_X8_init_233 (n : Nat) (v0 : Nat) (h : Hp) : Option Hp :=
  f_X8_init_237 n v0 v0 h.1.length (hnew h (9, ix 4))
set_option maxRecDepth 100000 in
set_option maxHeartbeats 4000000 in
theorem r_X8_init_233 {X : Nat → Int32} {d : Nat} (hd : 5 ≤ (d + 1)) {n : Nat} {v0 : Nat} {h : Hp} {o : Hp} (hf : f_X8_init_233 n v0 h = some o) : Run X (d + 1) 125 233 [some (.ref v0), none] [] h (none, o) := by
  unfold f_X8_init_233 at hf
  refine rs_aload_n i_X8_init_233 rfl ?_
  refine rs_iconst i_X8_init_234 (v := 4) (by decide) ?_
  refine rs_newa i_X8_init_235 (by decide) ?_
  exact r_X8_init_237 hd hf
def f_X8_init_230 (n : Nat) (v0 : Nat) (s0 : Nat) (s1 : Nat) (h : Hp) : Option Hp :=
  if okO h s0 8 then
  if 16 ≤ s1 then
  f_X8_init_233 n v0 (hsr h s0 21 (some s1))
  else none
  else none
set_option maxRecDepth 100000 in
set_option maxHeartbeats 4000000 in
theorem r_X8_init_230 {X : Nat → Int32} {d : Nat} (hd : 5 ≤ (d + 1)) {n : Nat} {v0 : Nat} {s0 : Nat} {s1 : Nat} {h : Hp} {o : Hp} (hf : f_X8_init_230 n v0 s0 s1 h = some o) : Run X (d + 1) 125 230 [some (.ref v0), none] [.ref s1, .ref s0] h (none, o) := by
  unfold f_X8_init_230 at hf
  obtain ⟨c1, hf⟩ := ite_some hf
  obtain ⟨c2, hf⟩ := ite_some hf
  refine rs_putR i_X8_init_230 (by decide) c2 c1 ?_
  exact r_X8_init_233 hd hf
def f_X8_init_225 (n : Nat) (v0 : Nat) (h : Hp) : Option Hp :=
  f_X8_init_230 n v0 v0 h.1.length (hnew h (9, ix 12))
set_option maxRecDepth 100000 in
set_option maxHeartbeats 4000000 in
theorem r_X8_init_225 {X : Nat → Int32} {d : Nat} (hd : 5 ≤ (d + 1)) {n : Nat} {v0 : Nat} {h : Hp} {o : Hp} (hf : f_X8_init_225 n v0 h = some o) : Run X (d + 1) 125 225 [some (.ref v0), none] [] h (none, o) := by
  unfold f_X8_init_225 at hf
  refine rs_aload_n i_X8_init_225 rfl ?_
  refine rs_bipush i_X8_init_226 (v := 12) (by decide) ?_
  refine rs_newa i_X8_init_228 (by decide) ?_
  exact r_X8_init_230 hd hf
def f_X8_init_222 (n : Nat) (v0 : Nat) (s0 : Nat) (s1 : Nat) (h : Hp) : Option Hp :=
  if okO h s0 8 then
  if 16 ≤ s1 then
  f_X8_init_225 n v0 (hsr h s0 20 (some s1))
  else none
  else none
set_option maxRecDepth 100000 in
set_option maxHeartbeats 4000000 in
theorem r_X8_init_222 {X : Nat → Int32} {d : Nat} (hd : 5 ≤ (d + 1)) {n : Nat} {v0 : Nat} {s0 : Nat} {s1 : Nat} {h : Hp} {o : Hp} (hf : f_X8_init_222 n v0 s0 s1 h = some o) : Run X (d + 1) 125 222 [some (.ref v0), none] [.ref s1, .ref s0] h (none, o) := by
  unfold f_X8_init_222 at hf
  obtain ⟨c1, hf⟩ := ite_some hf
  obtain ⟨c2, hf⟩ := ite_some hf
  refine rs_putR i_X8_init_222 (by decide) c2 c1 ?_
  exact r_X8_init_225 hd hf
def f_X8_init_217 (n : Nat) (v0 : Nat) (h : Hp) : Option Hp :=
  f_X8_init_222 n v0 v0 h.1.length (hnew h (9, ix 12))
set_option maxRecDepth 100000 in
set_option maxHeartbeats 4000000 in
theorem r_X8_init_217 {X : Nat → Int32} {d : Nat} (hd : 5 ≤ (d + 1)) {n : Nat} {v0 : Nat} {h : Hp} {o : Hp} (hf : f_X8_init_217 n v0 h = some o) : Run X (d + 1) 125 217 [some (.ref v0), none] [] h (none, o) := by
  unfold f_X8_init_217 at hf
  refine rs_aload_n i_X8_init_217 rfl ?_
  refine rs_bipush i_X8_init_218 (v := 12) (by decide) ?_
  refine rs_newa i_X8_init_220 (by decide) ?_
  exact r_X8_init_222 hd hf
def f_X8_init_214 (n : Nat) (v0 : Nat) (s0 : Nat) (s1 : Nat) (h : Hp) : Option Hp :=
  if okO h s0 8 then
  if 16 ≤ s1 then
  f_X8_init_217 n v0 (hsr h s0 12 (some s1))
  else none
  else none
set_option maxRecDepth 100000 in
set_option maxHeartbeats 4000000 in
theorem r_X8_init_214 {X : Nat → Int32} {d : Nat} (hd : 5 ≤ (d + 1)) {n : Nat} {v0 : Nat} {s0 : Nat} {s1 : Nat} {h : Hp} {o : Hp} (hf : f_X8_init_214 n v0 s0 s1 h = some o) : Run X (d + 1) 125 214 [some (.ref v0), none] [.ref s1, .ref s0] h (none, o) := by
  unfold f_X8_init_214 at hf
  obtain ⟨c1, hf⟩ := ite_some hf
  obtain ⟨c2, hf⟩ := ite_some hf
  refine rs_putR i_X8_init_214 (by decide) c2 c1 ?_
  exact r_X8_init_217 hd hf
def f_X8_init_209 (n : Nat) (v0 : Nat) (h : Hp) : Option Hp :=
  f_X8_init_214 n v0 v0 h.1.length (hnew h (9, ix 24))
set_option maxRecDepth 100000 in
set_option maxHeartbeats 4000000 in
theorem r_X8_init_209 {X : Nat → Int32} {d : Nat} (hd : 5 ≤ (d + 1)) {n : Nat} {v0 : Nat} {h : Hp} {o : Hp} (hf : f_X8_init_209 n v0 h = some o) : Run X (d + 1) 125 209 [some (.ref v0), none] [] h (none, o) := by
  unfold f_X8_init_209 at hf
  refine rs_aload_n i_X8_init_209 rfl ?_
  refine rs_bipush i_X8_init_210 (v := 24) (by decide) ?_
  refine rs_newa i_X8_init_212 (by decide) ?_
  exact r_X8_init_214 hd hf
def f_X8_init_206 (n : Nat) (v0 : Nat) (s0 : Nat) (s1 : Nat) (h : Hp) : Option Hp :=
  if okO h s0 8 then
  if 16 ≤ s1 then
  f_X8_init_209 n v0 (hsr h s0 11 (some s1))
  else none
  else none
set_option maxRecDepth 100000 in
set_option maxHeartbeats 4000000 in
theorem r_X8_init_206 {X : Nat → Int32} {d : Nat} (hd : 5 ≤ (d + 1)) {n : Nat} {v0 : Nat} {s0 : Nat} {s1 : Nat} {h : Hp} {o : Hp} (hf : f_X8_init_206 n v0 s0 s1 h = some o) : Run X (d + 1) 125 206 [some (.ref v0), none] [.ref s1, .ref s0] h (none, o) := by
  unfold f_X8_init_206 at hf
  obtain ⟨c1, hf⟩ := ite_some hf
  obtain ⟨c2, hf⟩ := ite_some hf
  refine rs_putR i_X8_init_206 (by decide) c2 c1 ?_
  exact r_X8_init_209 hd hf
def f_X8_init_200 (n : Nat) (v0 : Nat) (h : Hp) : Option Hp :=
  f_X8_init_206 n v0 v0 h.1.length (hnew h (9, ix 1200))
set_option maxRecDepth 100000 in
set_option maxHeartbeats 4000000 in
theorem r_X8_init_200 {X : Nat → Int32} {d : Nat} (hd : 5 ≤ (d + 1)) {n : Nat} {v0 : Nat} {h : Hp} {o : Hp} (hf : f_X8_init_200 n v0 h = some o) : Run X (d + 1) 125 200 [some (.ref v0), none] [] h (none, o) := by
  unfold f_X8_init_200 at hf
  refine rs_aload_n i_X8_init_200 rfl ?_
  refine rs_sipush i_X8_init_201 (v := 1200) (by decide) ?_
  refine rs_newa i_X8_init_204 (by decide) ?_
  exact r_X8_init_206 hd hf
def f_X8_init_197 (n : Nat) (v0 : Nat) (s0 : Nat) (s1 : Nat) (h : Hp) : Option Hp :=
  if okO h s0 8 then
  if 16 ≤ s1 then
  f_X8_init_200 n v0 (hsr h s0 9 (some s1))
  else none
  else none
set_option maxRecDepth 100000 in
set_option maxHeartbeats 4000000 in
theorem r_X8_init_197 {X : Nat → Int32} {d : Nat} (hd : 5 ≤ (d + 1)) {n : Nat} {v0 : Nat} {s0 : Nat} {s1 : Nat} {h : Hp} {o : Hp} (hf : f_X8_init_197 n v0 s0 s1 h = some o) : Run X (d + 1) 125 197 [some (.ref v0), none] [.ref s1, .ref s0] h (none, o) := by
  unfold f_X8_init_197 at hf
  obtain ⟨c1, hf⟩ := ite_some hf
  obtain ⟨c2, hf⟩ := ite_some hf
  refine rs_putR i_X8_init_197 (by decide) c2 c1 ?_
  exact r_X8_init_200 hd hf
def f_X8_init_191 (n : Nat) (v0 : Nat) (h : Hp) : Option Hp :=
  f_X8_init_197 n v0 v0 h.1.length (hnew h (9, ix 160))
set_option maxRecDepth 100000 in
set_option maxHeartbeats 4000000 in
theorem r_X8_init_191 {X : Nat → Int32} {d : Nat} (hd : 5 ≤ (d + 1)) {n : Nat} {v0 : Nat} {h : Hp} {o : Hp} (hf : f_X8_init_191 n v0 h = some o) : Run X (d + 1) 125 191 [some (.ref v0), none] [] h (none, o) := by
  unfold f_X8_init_191 at hf
  refine rs_aload_n i_X8_init_191 rfl ?_
  refine rs_sipush i_X8_init_192 (v := 160) (by decide) ?_
  refine rs_newa i_X8_init_195 (by decide) ?_
  exact r_X8_init_197 hd hf
def f_X8_init_188 (n : Nat) (v0 : Nat) (s0 : Nat) (s1 : Nat) (h : Hp) : Option Hp :=
  if okO h s0 8 then
  if 16 ≤ s1 then
  f_X8_init_191 n v0 (hsr h s0 8 (some s1))
  else none
  else none
set_option maxRecDepth 100000 in
set_option maxHeartbeats 4000000 in
theorem r_X8_init_188 {X : Nat → Int32} {d : Nat} (hd : 5 ≤ (d + 1)) {n : Nat} {v0 : Nat} {s0 : Nat} {s1 : Nat} {h : Hp} {o : Hp} (hf : f_X8_init_188 n v0 s0 s1 h = some o) : Run X (d + 1) 125 188 [some (.ref v0), none] [.ref s1, .ref s0] h (none, o) := by
  unfold f_X8_init_188 at hf
  obtain ⟨c1, hf⟩ := ite_some hf
  obtain ⟨c2, hf⟩ := ite_some hf
  refine rs_putR i_X8_init_188 (by decide) c2 c1 ?_
  exact r_X8_init_191 hd hf
def f_X8_init_183 (n : Nat) (v0 : Nat) (h : Hp) : Option Hp :=
  f_X8_init_188 n v0 v0 h.1.length (hnew h (9, ix 12))
set_option maxRecDepth 100000 in
set_option maxHeartbeats 4000000 in
theorem r_X8_init_183 {X : Nat → Int32} {d : Nat} (hd : 5 ≤ (d + 1)) {n : Nat} {v0 : Nat} {h : Hp} {o : Hp} (hf : f_X8_init_183 n v0 h = some o) : Run X (d + 1) 125 183 [some (.ref v0), none] [] h (none, o) := by
  unfold f_X8_init_183 at hf
  refine rs_aload_n i_X8_init_183 rfl ?_
  refine rs_bipush i_X8_init_184 (v := 12) (by decide) ?_
  refine rs_newa i_X8_init_186 (by decide) ?_
  exact r_X8_init_188 hd hf
def f_X8_init_180 (n : Nat) (v0 : Nat) (s0 : Nat) (s1 : Nat) (h : Hp) : Option Hp :=
  if okO h s0 8 then
  if 16 ≤ s1 then
  f_X8_init_183 n v0 (hsr h s0 7 (some s1))
  else none
  else none
set_option maxRecDepth 100000 in
set_option maxHeartbeats 4000000 in
theorem r_X8_init_180 {X : Nat → Int32} {d : Nat} (hd : 5 ≤ (d + 1)) {n : Nat} {v0 : Nat} {s0 : Nat} {s1 : Nat} {h : Hp} {o : Hp} (hf : f_X8_init_180 n v0 s0 s1 h = some o) : Run X (d + 1) 125 180 [some (.ref v0), none] [.ref s1, .ref s0] h (none, o) := by
  unfold f_X8_init_180 at hf
  obtain ⟨c1, hf⟩ := ite_some hf
  obtain ⟨c2, hf⟩ := ite_some hf
  refine rs_putR i_X8_init_180 (by decide) c2 c1 ?_
  exact r_X8_init_183 hd hf
def f_X8_init_175 (n : Nat) (v0 : Nat) (h : Hp) : Option Hp :=
  f_X8_init_180 n v0 v0 h.1.length (hnew h (9, ix 12))
set_option maxRecDepth 100000 in
set_option maxHeartbeats 4000000 in
theorem r_X8_init_175 {X : Nat → Int32} {d : Nat} (hd : 5 ≤ (d + 1)) {n : Nat} {v0 : Nat} {h : Hp} {o : Hp} (hf : f_X8_init_175 n v0 h = some o) : Run X (d + 1) 125 175 [some (.ref v0), none] [] h (none, o) := by
  unfold f_X8_init_175 at hf
  refine rs_aload_n i_X8_init_175 rfl ?_
  refine rs_bipush i_X8_init_176 (v := 12) (by decide) ?_
  refine rs_newa i_X8_init_178 (by decide) ?_
  exact r_X8_init_180 hd hf
def f_X8_init_172 (n : Nat) (v0 : Nat) (s0 : Nat) (s1 : Nat) (h : Hp) : Option Hp :=
  if okO h s0 8 then
  if 16 ≤ s1 then
  f_X8_init_175 n v0 (hsr h s0 6 (some s1))
  else none
  else none
set_option maxRecDepth 100000 in
set_option maxHeartbeats 4000000 in
theorem r_X8_init_172 {X : Nat → Int32} {d : Nat} (hd : 5 ≤ (d + 1)) {n : Nat} {v0 : Nat} {s0 : Nat} {s1 : Nat} {h : Hp} {o : Hp} (hf : f_X8_init_172 n v0 s0 s1 h = some o) : Run X (d + 1) 125 172 [some (.ref v0), none] [.ref s1, .ref s0] h (none, o) := by
  unfold f_X8_init_172 at hf
  obtain ⟨c1, hf⟩ := ite_some hf
  obtain ⟨c2, hf⟩ := ite_some hf
  refine rs_putR i_X8_init_172 (by decide) c2 c1 ?_
  exact r_X8_init_175 hd hf
def f_X8_init_167 (n : Nat) (v0 : Nat) (h : Hp) : Option Hp :=
  f_X8_init_172 n v0 v0 h.1.length (hnew h (9, ix 12))
set_option maxRecDepth 100000 in
set_option maxHeartbeats 4000000 in
theorem r_X8_init_167 {X : Nat → Int32} {d : Nat} (hd : 5 ≤ (d + 1)) {n : Nat} {v0 : Nat} {h : Hp} {o : Hp} (hf : f_X8_init_167 n v0 h = some o) : Run X (d + 1) 125 167 [some (.ref v0), none] [] h (none, o) := by
  unfold f_X8_init_167 at hf
  refine rs_aload_n i_X8_init_167 rfl ?_
  refine rs_bipush i_X8_init_168 (v := 12) (by decide) ?_
  refine rs_newa i_X8_init_170 (by decide) ?_
  exact r_X8_init_172 hd hf
def f_X8_init_162 (n : Nat) (v0 : Nat) (h : Hp) : Option Hp :=
  if okO h v0 8 then
  f_X8_init_167 n v0 (hsi h v0 4 5)
  else none
set_option maxRecDepth 100000 in
set_option maxHeartbeats 4000000 in
theorem r_X8_init_162 {X : Nat → Int32} {d : Nat} (hd : 5 ≤ (d + 1)) {n : Nat} {v0 : Nat} {h : Hp} {o : Hp} (hf : f_X8_init_162 n v0 h = some o) : Run X (d + 1) 125 162 [some (.ref v0), none] [] h (none, o) := by
  unfold f_X8_init_162 at hf
  refine rs_aload_n i_X8_init_162 rfl ?_
  refine rs_iconst i_X8_init_163 (v := 5) (by decide) ?_
  obtain ⟨c1, hf⟩ := ite_some hf
  refine rs_putI i_X8_init_164 (by decide) c1 ?_
  exact r_X8_init_167 hd hf
def f_X8_init_157 (n : Nat) (v0 : Nat) (h : Hp) : Option Hp :=
  if okO h v0 8 then
  f_X8_init_162 n v0 (hsi h v0 3 2)
  else none
set_option maxRecDepth 100000 in
set_option maxHeartbeats 4000000 in
theorem r_X8_init_157 {X : Nat → Int32} {d : Nat} (hd : 5 ≤ (d + 1)) {n : Nat} {v0 : Nat} {h : Hp} {o : Hp} (hf : f_X8_init_157 n v0 h = some o) : Run X (d + 1) 125 157 [some (.ref v0), none] [] h (none, o) := by
  unfold f_X8_init_157 at hf
  refine rs_aload_n i_X8_init_157 rfl ?_
  refine rs_iconst i_X8_init_158 (v := 2) (by decide) ?_
  obtain ⟨c1, hf⟩ := ite_some hf
  refine rs_putI i_X8_init_159 (by decide) c1 ?_
  exact r_X8_init_162 hd hf
def f_X8_init_152 (n : Nat) (v0 : Nat) (h : Hp) : Option Hp :=
  if okO h v0 8 then
  f_X8_init_157 n v0 (hsi h v0 2 5)
  else none
set_option maxRecDepth 100000 in
set_option maxHeartbeats 4000000 in
theorem r_X8_init_152 {X : Nat → Int32} {d : Nat} (hd : 5 ≤ (d + 1)) {n : Nat} {v0 : Nat} {h : Hp} {o : Hp} (hf : f_X8_init_152 n v0 h = some o) : Run X (d + 1) 125 152 [some (.ref v0), none] [] h (none, o) := by
  unfold f_X8_init_152 at hf
  refine rs_aload_n i_X8_init_152 rfl ?_
  refine rs_iconst i_X8_init_153 (v := 5) (by decide) ?_
  obtain ⟨c1, hf⟩ := ite_some hf
  refine rs_putI i_X8_init_154 (by decide) c1 ?_
  exact r_X8_init_157 hd hf
def f_X8_init_149 (n : Nat) (v0 : Nat) (s0 : Nat) (s1 : Nat) (h : Hp) : Option Hp :=
  if okO h s0 8 then
  if 16 ≤ s1 then
  f_X8_init_152 n v0 (hsr h s0 1 (some s1))
  else none
  else none
set_option maxRecDepth 100000 in
set_option maxHeartbeats 4000000 in
theorem r_X8_init_149 {X : Nat → Int32} {d : Nat} (hd : 5 ≤ (d + 1)) {n : Nat} {v0 : Nat} {s0 : Nat} {s1 : Nat} {h : Hp} {o : Hp} (hf : f_X8_init_149 n v0 s0 s1 h = some o) : Run X (d + 1) 125 149 [some (.ref v0), none] [.ref s1, .ref s0] h (none, o) := by
  unfold f_X8_init_149 at hf
  obtain ⟨c1, hf⟩ := ite_some hf
  obtain ⟨c2, hf⟩ := ite_some hf
  refine rs_putR i_X8_init_149 (by decide) c2 c1 ?_
  exact r_X8_init_152 hd hf
def f_X8_init_143 (n : Nat) (v0 : Nat) (s0 : Nat) (s1 : Nat) (h : Hp) : Option Hp :=
  if okI h s1 11 then
  f_X8_init_149 n v0 s0 s1 (hsi h s1 (ix 11) 100)
  else none
set_option maxRecDepth 100000 in
set_option maxHeartbeats 4000000 in
theorem r_X8_init_143 {X : Nat → Int32} {d : Nat} (hd : 5 ≤ (d + 1)) {n : Nat} {v0 : Nat} {s0 : Nat} {s1 : Nat} {h : Hp} {o : Hp} (hf : f_X8_init_143 n v0 s0 s1 h = some o) : Run X (d + 1) 125 143 [some (.ref v0), none] [.ref s1, .ref s0] h (none, o) := by
  unfold f_X8_init_143 at hf
  refine rs_dup i_X8_init_143 rfl ?_
  refine rs_bipush i_X8_init_144 (v := 11) (by decide) ?_
  refine rs_bipush i_X8_init_146 (v := 100) (by decide) ?_
  obtain ⟨c1, hf⟩ := ite_some hf
  refine rs_iast i_X8_init_148 c1 ?_
  exact r_X8_init_149 hd hf
def f_X8_init_137 (n : Nat) (v0 : Nat) (s0 : Nat) (s1 : Nat) (h : Hp) : Option Hp :=
  if okI h s1 10 then
  f_X8_init_143 n v0 s0 s1 (hsi h s1 (ix 10) 100)
  else none
set_option maxRecDepth 100000 in
set_option maxHeartbeats 4000000 in
theorem r_X8_init_137 {X : Nat → Int32} {d : Nat} (hd : 5 ≤ (d + 1)) {n : Nat} {v0 : Nat} {s0 : Nat} {s1 : Nat} {h : Hp} {o : Hp} (hf : f_X8_init_137 n v0 s0 s1 h = some o) : Run X (d + 1) 125 137 [some (.ref v0), none] [.ref s1, .ref s0] h (none, o) := by
  unfold f_X8_init_137 at hf
  refine rs_dup i_X8_init_137 rfl ?_
  refine rs_bipush i_X8_init_138 (v := 10) (by decide) ?_
  refine rs_bipush i_X8_init_140 (v := 100) (by decide) ?_
  obtain ⟨c1, hf⟩ := ite_some hf
  refine rs_iast i_X8_init_142 c1 ?_
  exact r_X8_init_143 hd hf
def f_X8_init_131 (n : Nat) (v0 : Nat) (s0 : Nat) (s1 : Nat) (h : Hp) : Option Hp :=
  if okI h s1 9 then
  f_X8_init_137 n v0 s0 s1 (hsi h s1 (ix 9) 100)
  else none
set_option maxRecDepth 100000 in
set_option maxHeartbeats 4000000 in
theorem r_X8_init_131 {X : Nat → Int32} {d : Nat} (hd : 5 ≤ (d + 1)) {n : Nat} {v0 : Nat} {s0 : Nat} {s1 : Nat} {h : Hp} {o : Hp} (hf : f_X8_init_131 n v0 s0 s1 h = some o) : Run X (d + 1) 125 131 [some (.ref v0), none] [.ref s1, .ref s0] h (none, o) := by
  unfold f_X8_init_131 at hf
  refine rs_dup i_X8_init_131 rfl ?_
  refine rs_bipush i_X8_init_132 (v := 9) (by decide) ?_
  refine rs_bipush i_X8_init_134 (v := 100) (by decide) ?_
  obtain ⟨c1, hf⟩ := ite_some hf
  refine rs_iast i_X8_init_136 c1 ?_
  exact r_X8_init_137 hd hf
def f_X8_init_125 (n : Nat) (v0 : Nat) (s0 : Nat) (s1 : Nat) (h : Hp) : Option Hp :=
  if okI h s1 8 then
  f_X8_init_131 n v0 s0 s1 (hsi h s1 (ix 8) 100)
  else none
set_option maxRecDepth 100000 in
set_option maxHeartbeats 4000000 in
theorem r_X8_init_125 {X : Nat → Int32} {d : Nat} (hd : 5 ≤ (d + 1)) {n : Nat} {v0 : Nat} {s0 : Nat} {s1 : Nat} {h : Hp} {o : Hp} (hf : f_X8_init_125 n v0 s0 s1 h = some o) : Run X (d + 1) 125 125 [some (.ref v0), none] [.ref s1, .ref s0] h (none, o) := by
  unfold f_X8_init_125 at hf
  refine rs_dup i_X8_init_125 rfl ?_
  refine rs_bipush i_X8_init_126 (v := 8) (by decide) ?_
  refine rs_bipush i_X8_init_128 (v := 100) (by decide) ?_
  obtain ⟨c1, hf⟩ := ite_some hf
  refine rs_iast i_X8_init_130 c1 ?_
  exact r_X8_init_131 hd hf
def f_X8_init_119 (n : Nat) (v0 : Nat) (s0 : Nat) (s1 : Nat) (h : Hp) : Option Hp :=
  if okI h s1 7 then
  f_X8_init_125 n v0 s0 s1 (hsi h s1 (ix 7) 100)
  else none
set_option maxRecDepth 100000 in
set_option maxHeartbeats 4000000 in
theorem r_X8_init_119 {X : Nat → Int32} {d : Nat} (hd : 5 ≤ (d + 1)) {n : Nat} {v0 : Nat} {s0 : Nat} {s1 : Nat} {h : Hp} {o : Hp} (hf : f_X8_init_119 n v0 s0 s1 h = some o) : Run X (d + 1) 125 119 [some (.ref v0), none] [.ref s1, .ref s0] h (none, o) := by
  unfold f_X8_init_119 at hf
  refine rs_dup i_X8_init_119 rfl ?_
  refine rs_bipush i_X8_init_120 (v := 7) (by decide) ?_
  refine rs_bipush i_X8_init_122 (v := 100) (by decide) ?_
  obtain ⟨c1, hf⟩ := ite_some hf
  refine rs_iast i_X8_init_124 c1 ?_
  exact r_X8_init_125 hd hf
def f_X8_init_113 (n : Nat) (v0 : Nat) (s0 : Nat) (s1 : Nat) (h : Hp) : Option Hp :=
  if okI h s1 6 then
  f_X8_init_119 n v0 s0 s1 (hsi h s1 (ix 6) 100)
  else none
set_option maxRecDepth 100000 in
set_option maxHeartbeats 4000000 in
theorem r_X8_init_113 {X : Nat → Int32} {d : Nat} (hd : 5 ≤ (d + 1)) {n : Nat} {v0 : Nat} {s0 : Nat} {s1 : Nat} {h : Hp} {o : Hp} (hf : f_X8_init_113 n v0 s0 s1 h = some o) : Run X (d + 1) 125 113 [some (.ref v0), none] [.ref s1, .ref s0] h (none, o) := by
  unfold f_X8_init_113 at hf
  refine rs_dup i_X8_init_113 rfl ?_
  refine rs_bipush i_X8_init_114 (v := 6) (by decide) ?_
  refine rs_bipush i_X8_init_116 (v := 100) (by decide) ?_
  obtain ⟨c1, hf⟩ := ite_some hf
  refine rs_iast i_X8_init_118 c1 ?_
  exact r_X8_init_119 hd hf
def f_X8_init_108 (n : Nat) (v0 : Nat) (s0 : Nat) (s1 : Nat) (h : Hp) : Option Hp :=
  if okI h s1 5 then
  f_X8_init_113 n v0 s0 s1 (hsi h s1 (ix 5) 100)
  else none
set_option maxRecDepth 100000 in
set_option maxHeartbeats 4000000 in
theorem r_X8_init_108 {X : Nat → Int32} {d : Nat} (hd : 5 ≤ (d + 1)) {n : Nat} {v0 : Nat} {s0 : Nat} {s1 : Nat} {h : Hp} {o : Hp} (hf : f_X8_init_108 n v0 s0 s1 h = some o) : Run X (d + 1) 125 108 [some (.ref v0), none] [.ref s1, .ref s0] h (none, o) := by
  unfold f_X8_init_108 at hf
  refine rs_dup i_X8_init_108 rfl ?_
  refine rs_iconst i_X8_init_109 (v := 5) (by decide) ?_
  refine rs_bipush i_X8_init_110 (v := 100) (by decide) ?_
  obtain ⟨c1, hf⟩ := ite_some hf
  refine rs_iast i_X8_init_112 c1 ?_
  exact r_X8_init_113 hd hf
def f_X8_init_103 (n : Nat) (v0 : Nat) (s0 : Nat) (s1 : Nat) (h : Hp) : Option Hp :=
  if okI h s1 4 then
  f_X8_init_108 n v0 s0 s1 (hsi h s1 (ix 4) 100)
  else none
set_option maxRecDepth 100000 in
set_option maxHeartbeats 4000000 in
theorem r_X8_init_103 {X : Nat → Int32} {d : Nat} (hd : 5 ≤ (d + 1)) {n : Nat} {v0 : Nat} {s0 : Nat} {s1 : Nat} {h : Hp} {o : Hp} (hf : f_X8_init_103 n v0 s0 s1 h = some o) : Run X (d + 1) 125 103 [some (.ref v0), none] [.ref s1, .ref s0] h (none, o) := by
  unfold f_X8_init_103 at hf
  refine rs_dup i_X8_init_103 rfl ?_
  refine rs_iconst i_X8_init_104 (v := 4) (by decide) ?_
  refine rs_bipush i_X8_init_105 (v := 100) (by decide) ?_
  obtain ⟨c1, hf⟩ := ite_some hf
  refine rs_iast i_X8_init_107 c1 ?_
  exact r_X8_init_108 hd hf
def f_X8_init_98 (n : Nat) (v0 : Nat) (s0 : Nat) (s1 : Nat) (h : Hp) : Option Hp :=
  if okI h s1 3 then
  f_X8_init_103 n v0 s0 s1 (hsi h s1 (ix 3) 100)
  else none
set_option maxRecDepth 100000 in
set_option maxHeartbeats 4000000 in
theorem r_X8_init_98 {X : Nat → Int32} {d : Nat} (hd : 5 ≤ (d + 1)) {n : Nat} {v0 : Nat} {s0 : Nat} {s1 : Nat} {h : Hp} {o : Hp} (hf : f_X8_init_98 n v0 s0 s1 h = some o) : Run X (d + 1) 125 98 [some (.ref v0), none] [.ref s1, .ref s0] h (none, o) := by
  unfold f_X8_init_98 at hf
  refine rs_dup i_X8_init_98 rfl ?_
  refine rs_iconst i_X8_init_99 (v := 3) (by decide) ?_
  refine rs_bipush i_X8_init_100 (v := 100) (by decide) ?_
  obtain ⟨c1, hf⟩ := ite_some hf
  refine rs_iast i_X8_init_102 c1 ?_
  exact r_X8_init_103 hd hf
def f_X8_init_93 (n : Nat) (v0 : Nat) (s0 : Nat) (s1 : Nat) (h : Hp) : Option Hp :=
  if okI h s1 2 then
  f_X8_init_98 n v0 s0 s1 (hsi h s1 (ix 2) 100)
  else none
set_option maxRecDepth 100000 in
set_option maxHeartbeats 4000000 in
theorem r_X8_init_93 {X : Nat → Int32} {d : Nat} (hd : 5 ≤ (d + 1)) {n : Nat} {v0 : Nat} {s0 : Nat} {s1 : Nat} {h : Hp} {o : Hp} (hf : f_X8_init_93 n v0 s0 s1 h = some o) : Run X (d + 1) 125 93 [some (.ref v0), none] [.ref s1, .ref s0] h (none, o) := by
  unfold f_X8_init_93 at hf
  refine rs_dup i_X8_init_93 rfl ?_
  refine rs_iconst i_X8_init_94 (v := 2) (by decide) ?_
  refine rs_bipush i_X8_init_95 (v := 100) (by decide) ?_
  obtain ⟨c1, hf⟩ := ite_some hf
  refine rs_iast i_X8_init_97 c1 ?_
  exact r_X8_init_98 hd hf
def f_X8_init_88 (n : Nat) (v0 : Nat) (s0 : Nat) (s1 : Nat) (h : Hp) : Option Hp :=
  if okI h s1 1 then
  f_X8_init_93 n v0 s0 s1 (hsi h s1 (ix 1) 100)
  else none
set_option maxRecDepth 100000 in
set_option maxHeartbeats 4000000 in
theorem r_X8_init_88 {X : Nat → Int32} {d : Nat} (hd : 5 ≤ (d + 1)) {n : Nat} {v0 : Nat} {s0 : Nat} {s1 : Nat} {h : Hp} {o : Hp} (hf : f_X8_init_88 n v0 s0 s1 h = some o) : Run X (d + 1) 125 88 [some (.ref v0), none] [.ref s1, .ref s0] h (none, o) := by
  unfold f_X8_init_88 at hf
  refine rs_dup i_X8_init_88 rfl ?_
  refine rs_iconst i_X8_init_89 (v := 1) (by decide) ?_
  refine rs_bipush i_X8_init_90 (v := 100) (by decide) ?_
  obtain ⟨c1, hf⟩ := ite_some hf
  refine rs_iast i_X8_init_92 c1 ?_
  exact r_X8_init_93 hd hf
def f_X8_init_83 (n : Nat) (v0 : Nat) (s0 : Nat) (s1 : Nat) (h : Hp) : Option Hp :=
  if okI h s1 0 then
  f_X8_init_88 n v0 s0 s1 (hsi h s1 (ix 0) 100)
  else none
set_option maxRecDepth 100000 in
set_option maxHeartbeats 4000000 in
theorem r_X8_init_83 {X : Nat → Int32} {d : Nat} (hd : 5 ≤ (d + 1)) {n : Nat} {v0 : Nat} {s0 : Nat} {s1 : Nat} {h : Hp} {o : Hp} (hf : f_X8_init_83 n v0 s0 s1 h = some o) : Run X (d + 1) 125 83 [some (.ref v0), none] [.ref s1, .ref s0] h (none, o) := by
  unfold f_X8_init_83 at hf
  refine rs_dup i_X8_init_83 rfl ?_
  refine rs_iconst i_X8_init_84 (v := 0) (by decide) ?_
  refine rs_bipush i_X8_init_85 (v := 100) (by decide) ?_
  obtain ⟨c1, hf⟩ := ite_some hf
  refine rs_iast i_X8_init_87 c1 ?_
  exact r_X8_init_88 hd hf
def f_X8_init_78 (n : Nat) (v0 : Nat) (h : Hp) : Option Hp :=
  f_X8_init_83 n v0 v0 h.1.length (hnew h (9, ix 12))
set_option maxRecDepth 100000 in
set_option maxHeartbeats 4000000 in
theorem r_X8_init_78 {X : Nat → Int32} {d : Nat} (hd : 5 ≤ (d + 1)) {n : Nat} {v0 : Nat} {h : Hp} {o : Hp} (hf : f_X8_init_78 n v0 h = some o) : Run X (d + 1) 125 78 [some (.ref v0), none] [] h (none, o) := by
  unfold f_X8_init_78 at hf
  refine rs_aload_n i_X8_init_78 rfl ?_
  refine rs_bipush i_X8_init_79 (v := 12) (by decide) ?_
  refine rs_newa i_X8_init_81 (by decide) ?_
  exact r_X8_init_83 hd hf
def f_X8_init_75 (n : Nat) (v0 : Nat) (s0 : Nat) (s1 : Nat) (h : Hp) : Option Hp :=
  if okO h s0 8 then
  if 16 ≤ s1 then
  f_X8_init_78 n v0 (hsr h s0 0 (some s1))
  else none
  else none
set_option maxRecDepth 100000 in
set_option maxHeartbeats 4000000 in
theorem r_X8_init_75 {X : Nat → Int32} {d : Nat} (hd : 5 ≤ (d + 1)) {n : Nat} {v0 : Nat} {s0 : Nat} {s1 : Nat} {h : Hp} {o : Hp} (hf : f_X8_init_75 n v0 s0 s1 h = some o) : Run X (d + 1) 125 75 [some (.ref v0), none] [.ref s1, .ref s0] h (none, o) := by
  unfold f_X8_init_75 at hf
  obtain ⟨c1, hf⟩ := ite_some hf
  obtain ⟨c2, hf⟩ := ite_some hf
  refine rs_putR i_X8_init_75 (by decide) c2 c1 ?_
  exact r_X8_init_78 hd hf
def f_X8_init_69 (n : Nat) (v0 : Nat) (s0 : Nat) (s1 : Nat) (h : Hp) : Option Hp :=
  if okI h s1 11 then
  f_X8_init_75 n v0 s0 s1 (hsi h s1 (ix 11) 60000)
  else none
set_option maxRecDepth 100000 in
set_option maxHeartbeats 4000000 in
theorem r_X8_init_69 {X : Nat → Int32} {d : Nat} (hd : 5 ≤ (d + 1)) {n : Nat} {v0 : Nat} {s0 : Nat} {s1 : Nat} {h : Hp} {o : Hp} (hf : f_X8_init_69 n v0 s0 s1 h = some o) : Run X (d + 1) 125 69 [some (.ref v0), none] [.ref s1, .ref s0] h (none, o) := by
  unfold f_X8_init_69 at hf
  refine rs_dup i_X8_init_69 rfl ?_
  refine rs_bipush i_X8_init_70 (v := 11) (by decide) ?_
  refine rs_ldc i_X8_init_72 (v := 60000) (by decide) ?_
  obtain ⟨c1, hf⟩ := ite_some hf
  refine rs_iast i_X8_init_74 c1 ?_
  exact r_X8_init_75 hd hf
def f_X8_init_63 (n : Nat) (v0 : Nat) (s0 : Nat) (s1 : Nat) (h : Hp) : Option Hp :=
  if okI h s1 10 then
  f_X8_init_69 n v0 s0 s1 (hsi h s1 (ix 10) 60000)
  else none
set_option maxRecDepth 100000 in
set_option maxHeartbeats 4000000 in
theorem r_X8_init_63 {X : Nat → Int32} {d : Nat} (hd : 5 ≤ (d + 1)) {n : Nat} {v0 : Nat} {s0 : Nat} {s1 : Nat} {h : Hp} {o : Hp} (hf : f_X8_init_63 n v0 s0 s1 h = some o) : Run X (d + 1) 125 63 [some (.ref v0), none] [.ref s1, .ref s0] h (none, o) := by
  unfold f_X8_init_63 at hf
  refine rs_dup i_X8_init_63 rfl ?_
  refine rs_bipush i_X8_init_64 (v := 10) (by decide) ?_
  refine rs_ldc i_X8_init_66 (v := 60000) (by decide) ?_
  obtain ⟨c1, hf⟩ := ite_some hf
  refine rs_iast i_X8_init_68 c1 ?_
  exact r_X8_init_69 hd hf
def f_X8_init_57 (n : Nat) (v0 : Nat) (s0 : Nat) (s1 : Nat) (h : Hp) : Option Hp :=
  if okI h s1 9 then
  f_X8_init_63 n v0 s0 s1 (hsi h s1 (ix 9) 60000)
  else none
set_option maxRecDepth 100000 in
set_option maxHeartbeats 4000000 in
theorem r_X8_init_57 {X : Nat → Int32} {d : Nat} (hd : 5 ≤ (d + 1)) {n : Nat} {v0 : Nat} {s0 : Nat} {s1 : Nat} {h : Hp} {o : Hp} (hf : f_X8_init_57 n v0 s0 s1 h = some o) : Run X (d + 1) 125 57 [some (.ref v0), none] [.ref s1, .ref s0] h (none, o) := by
  unfold f_X8_init_57 at hf
  refine rs_dup i_X8_init_57 rfl ?_
  refine rs_bipush i_X8_init_58 (v := 9) (by decide) ?_
  refine rs_ldc i_X8_init_60 (v := 60000) (by decide) ?_
  obtain ⟨c1, hf⟩ := ite_some hf
  refine rs_iast i_X8_init_62 c1 ?_
  exact r_X8_init_63 hd hf
def f_X8_init_51 (n : Nat) (v0 : Nat) (s0 : Nat) (s1 : Nat) (h : Hp) : Option Hp :=
  if okI h s1 8 then
  f_X8_init_57 n v0 s0 s1 (hsi h s1 (ix 8) 60000)
  else none
set_option maxRecDepth 100000 in
set_option maxHeartbeats 4000000 in
theorem r_X8_init_51 {X : Nat → Int32} {d : Nat} (hd : 5 ≤ (d + 1)) {n : Nat} {v0 : Nat} {s0 : Nat} {s1 : Nat} {h : Hp} {o : Hp} (hf : f_X8_init_51 n v0 s0 s1 h = some o) : Run X (d + 1) 125 51 [some (.ref v0), none] [.ref s1, .ref s0] h (none, o) := by
  unfold f_X8_init_51 at hf
  refine rs_dup i_X8_init_51 rfl ?_
  refine rs_bipush i_X8_init_52 (v := 8) (by decide) ?_
  refine rs_ldc i_X8_init_54 (v := 60000) (by decide) ?_
  obtain ⟨c1, hf⟩ := ite_some hf
  refine rs_iast i_X8_init_56 c1 ?_
  exact r_X8_init_57 hd hf
def f_X8_init_45 (n : Nat) (v0 : Nat) (s0 : Nat) (s1 : Nat) (h : Hp) : Option Hp :=
  if okI h s1 7 then
  f_X8_init_51 n v0 s0 s1 (hsi h s1 (ix 7) 60000)
  else none
set_option maxRecDepth 100000 in
set_option maxHeartbeats 4000000 in
theorem r_X8_init_45 {X : Nat → Int32} {d : Nat} (hd : 5 ≤ (d + 1)) {n : Nat} {v0 : Nat} {s0 : Nat} {s1 : Nat} {h : Hp} {o : Hp} (hf : f_X8_init_45 n v0 s0 s1 h = some o) : Run X (d + 1) 125 45 [some (.ref v0), none] [.ref s1, .ref s0] h (none, o) := by
  unfold f_X8_init_45 at hf
  refine rs_dup i_X8_init_45 rfl ?_
  refine rs_bipush i_X8_init_46 (v := 7) (by decide) ?_
  refine rs_ldc i_X8_init_48 (v := 60000) (by decide) ?_
  obtain ⟨c1, hf⟩ := ite_some hf
  refine rs_iast i_X8_init_50 c1 ?_
  exact r_X8_init_51 hd hf
def f_X8_init_39 (n : Nat) (v0 : Nat) (s0 : Nat) (s1 : Nat) (h : Hp) : Option Hp :=
  if okI h s1 6 then
  f_X8_init_45 n v0 s0 s1 (hsi h s1 (ix 6) 60000)
  else none
set_option maxRecDepth 100000 in
set_option maxHeartbeats 4000000 in
theorem r_X8_init_39 {X : Nat → Int32} {d : Nat} (hd : 5 ≤ (d + 1)) {n : Nat} {v0 : Nat} {s0 : Nat} {s1 : Nat} {h : Hp} {o : Hp} (hf : f_X8_init_39 n v0 s0 s1 h = some o) : Run X (d + 1) 125 39 [some (.ref v0), none] [.ref s1, .ref s0] h (none, o) := by
  unfold f_X8_init_39 at hf
  refine rs_dup i_X8_init_39 rfl ?_
  refine rs_bipush i_X8_init_40 (v := 6) (by decide) ?_
  refine rs_ldc i_X8_init_42 (v := 60000) (by decide) ?_
  obtain ⟨c1, hf⟩ := ite_some hf
  refine rs_iast i_X8_init_44 c1 ?_
  exact r_X8_init_45 hd hf
def f_X8_init_34 (n : Nat) (v0 : Nat) (s0 : Nat) (s1 : Nat) (h : Hp) : Option Hp :=
  if okI h s1 5 then
  f_X8_init_39 n v0 s0 s1 (hsi h s1 (ix 5) 60000)
  else none
set_option maxRecDepth 100000 in
set_option maxHeartbeats 4000000 in
theorem r_X8_init_34 {X : Nat → Int32} {d : Nat} (hd : 5 ≤ (d + 1)) {n : Nat} {v0 : Nat} {s0 : Nat} {s1 : Nat} {h : Hp} {o : Hp} (hf : f_X8_init_34 n v0 s0 s1 h = some o) : Run X (d + 1) 125 34 [some (.ref v0), none] [.ref s1, .ref s0] h (none, o) := by
  unfold f_X8_init_34 at hf
  refine rs_dup i_X8_init_34 rfl ?_
  refine rs_iconst i_X8_init_35 (v := 5) (by decide) ?_
  refine rs_ldc i_X8_init_36 (v := 60000) (by decide) ?_
  obtain ⟨c1, hf⟩ := ite_some hf
  refine rs_iast i_X8_init_38 c1 ?_
  exact r_X8_init_39 hd hf
def f_X8_init_29 (n : Nat) (v0 : Nat) (s0 : Nat) (s1 : Nat) (h : Hp) : Option Hp :=
  if okI h s1 4 then
  f_X8_init_34 n v0 s0 s1 (hsi h s1 (ix 4) 60000)
  else none
set_option maxRecDepth 100000 in
set_option maxHeartbeats 4000000 in
theorem r_X8_init_29 {X : Nat → Int32} {d : Nat} (hd : 5 ≤ (d + 1)) {n : Nat} {v0 : Nat} {s0 : Nat} {s1 : Nat} {h : Hp} {o : Hp} (hf : f_X8_init_29 n v0 s0 s1 h = some o) : Run X (d + 1) 125 29 [some (.ref v0), none] [.ref s1, .ref s0] h (none, o) := by
  unfold f_X8_init_29 at hf
  refine rs_dup i_X8_init_29 rfl ?_
  refine rs_iconst i_X8_init_30 (v := 4) (by decide) ?_
  refine rs_ldc i_X8_init_31 (v := 60000) (by decide) ?_
  obtain ⟨c1, hf⟩ := ite_some hf
  refine rs_iast i_X8_init_33 c1 ?_
  exact r_X8_init_34 hd hf
def f_X8_init_24 (n : Nat) (v0 : Nat) (s0 : Nat) (s1 : Nat) (h : Hp) : Option Hp :=
  if okI h s1 3 then
  f_X8_init_29 n v0 s0 s1 (hsi h s1 (ix 3) 60000)
  else none
set_option maxRecDepth 100000 in
set_option maxHeartbeats 4000000 in
theorem r_X8_init_24 {X : Nat → Int32} {d : Nat} (hd : 5 ≤ (d + 1)) {n : Nat} {v0 : Nat} {s0 : Nat} {s1 : Nat} {h : Hp} {o : Hp} (hf : f_X8_init_24 n v0 s0 s1 h = some o) : Run X (d + 1) 125 24 [some (.ref v0), none] [.ref s1, .ref s0] h (none, o) := by
  unfold f_X8_init_24 at hf
  refine rs_dup i_X8_init_24 rfl ?_
  refine rs_iconst i_X8_init_25 (v := 3) (by decide) ?_
  refine rs_ldc i_X8_init_26 (v := 60000) (by decide) ?_
  obtain ⟨c1, hf⟩ := ite_some hf
  refine rs_iast i_X8_init_28 c1 ?_
  exact r_X8_init_29 hd hf
def f_X8_init_19 (n : Nat) (v0 : Nat) (s0 : Nat) (s1 : Nat) (h : Hp) : Option Hp :=
  if okI h s1 2 then
  f_X8_init_24 n v0 s0 s1 (hsi h s1 (ix 2) 60000)
  else none
set_option maxRecDepth 100000 in
set_option maxHeartbeats 4000000 in
theorem r_X8_init_19 {X : Nat → Int32} {d : Nat} (hd : 5 ≤ (d + 1)) {n : Nat} {v0 : Nat} {s0 : Nat} {s1 : Nat} {h : Hp} {o : Hp} (hf : f_X8_init_19 n v0 s0 s1 h = some o) : Run X (d + 1) 125 19 [some (.ref v0), none] [.ref s1, .ref s0] h (none, o) := by
  unfold f_X8_init_19 at hf
  refine rs_dup i_X8_init_19 rfl ?_
  refine rs_iconst i_X8_init_20 (v := 2) (by decide) ?_
  refine rs_ldc i_X8_init_21 (v := 60000) (by decide) ?_
  obtain ⟨c1, hf⟩ := ite_some hf
  refine rs_iast i_X8_init_23 c1 ?_
  exact r_X8_init_24 hd hf
def f_X8_init_14 (n : Nat) (v0 : Nat) (s0 : Nat) (s1 : Nat) (h : Hp) : Option Hp :=
  if okI h s1 1 then
  f_X8_init_19 n v0 s0 s1 (hsi h s1 (ix 1) 60000)
  else none
set_option maxRecDepth 100000 in
set_option maxHeartbeats 4000000 in
theorem r_X8_init_14 {X : Nat → Int32} {d : Nat} (hd : 5 ≤ (d + 1)) {n : Nat} {v0 : Nat} {s0 : Nat} {s1 : Nat} {h : Hp} {o : Hp} (hf : f_X8_init_14 n v0 s0 s1 h = some o) : Run X (d + 1) 125 14 [some (.ref v0), none] [.ref s1, .ref s0] h (none, o) := by
  unfold f_X8_init_14 at hf
  refine rs_dup i_X8_init_14 rfl ?_
  refine rs_iconst i_X8_init_15 (v := 1) (by decide) ?_
  refine rs_ldc i_X8_init_16 (v := 60000) (by decide) ?_
  obtain ⟨c1, hf⟩ := ite_some hf
  refine rs_iast i_X8_init_18 c1 ?_
  exact r_X8_init_19 hd hf
def f_X8_init_9 (n : Nat) (v0 : Nat) (s0 : Nat) (s1 : Nat) (h : Hp) : Option Hp :=
  if okI h s1 0 then
  f_X8_init_14 n v0 s0 s1 (hsi h s1 (ix 0) 60000)
  else none
set_option maxRecDepth 100000 in
set_option maxHeartbeats 4000000 in
theorem r_X8_init_9 {X : Nat → Int32} {d : Nat} (hd : 5 ≤ (d + 1)) {n : Nat} {v0 : Nat} {s0 : Nat} {s1 : Nat} {h : Hp} {o : Hp} (hf : f_X8_init_9 n v0 s0 s1 h = some o) : Run X (d + 1) 125 9 [some (.ref v0), none] [.ref s1, .ref s0] h (none, o) := by
  unfold f_X8_init_9 at hf
  refine rs_dup i_X8_init_9 rfl ?_
  refine rs_iconst i_X8_init_10 (v := 0) (by decide) ?_
  refine rs_ldc i_X8_init_11 (v := 60000) (by decide) ?_
  obtain ⟨c1, hf⟩ := ite_some hf
  refine rs_iast i_X8_init_13 c1 ?_
  exact r_X8_init_14 hd hf
def f_X8_init_0 (n : Nat) (v0 : Nat) (h : Hp) : Option Hp :=
  f_X8_init_9 n v0 v0 h.1.length (hnew h (9, ix 12))
set_option maxRecDepth 100000 in
set_option maxHeartbeats 4000000 in
theorem r_X8_init_0 {X : Nat → Int32} {d : Nat} (hd : 5 ≤ (d + 1)) {n : Nat} {v0 : Nat} {h : Hp} {o : Hp} (hf : f_X8_init_0 n v0 h = some o) : Run X (d + 1) 125 0 [some (.ref v0), none] [] h (none, o) := by
  unfold f_X8_init_0 at hf
  refine rs_aload_n i_X8_init_0 rfl ?_
  refine rs_objI i_X8_init_1 (Nat.le_of_ble_eq_true rfl) ?_
  refine rs_aload_n i_X8_init_4 rfl ?_
  refine rs_bipush i_X8_init_5 (v := 12) (by decide) ?_
  refine rs_newa i_X8_init_7 (by decide) ?_
  exact r_X8_init_9 hd hf
def f_X8_init (n : Nat) (v0 : Nat) (h : Hp) : Option Hp := f_X8_init_0 n v0 h
theorem c_X8_init {X : Nat → Int32} {d : Nat} (hd : 5 ≤ d) {n : Nat} {v0 : Nat} {h : Hp} {o : Hp} (hf : f_X8_init n v0 h = some o) : Calls X d 125 [.ref v0] h (none, o) := by
  obtain ⟨d, rfl⟩ : ∃ z, d = z + 1 := ⟨d - 1, by omega⟩
  exact ⟨_, rfl, r_X8_init_0 hd hf⟩
